/-! ===== locals, new cells, what the library does itself ===== -/
/-- the locals that are set -/
def zll (ad : Nat → Nat) (sv : Value) (L : List zV) : List (Nat × Value) := (List.range L.length).filterMap (fun k => match L[k]? with
  | some (some w) => some (k, zcv ad sv (some w))
  | _ => none)
theorem zll_mem {ad : Nat → Nat} {sv : Value} {L : List zV} {x : Nat × Value} : x ∈ zll ad sv L ↔ ∃ w, L[x.1]? = some (some w) ∧ x.2 = zcv ad sv (some w) := by
  unfold zll
  rw [List.mem_filterMap]
  constructor
  · rintro ⟨k, _, e⟩
    split at e
    · rename_i w hw
      cases Option.some.inj e
      exact ⟨w, hw, rfl⟩
    · cases e
  · rintro ⟨w, hw, e⟩
    refine ⟨x.1, List.mem_range.mpr (List.getElem?_eq_some_iff.mp hw).1, ?_⟩
    rw [hw]
    simp only
    rw [← e]
theorem zlr_has {ad : Nat → Nat} {sv : Value} {L : List zV} {ls : Array Slot} (h : zlr ad sv L ls) : lv_has ls L.length (zll ad sv L) := by
  refine ⟨h.1, h.2.1, fun x hx => ?_⟩
  obtain ⟨w, hw, e⟩ := zll_mem.mp hx
  rw [e]
  exact h.2.2 _ w hw
theorem znl_cat {w : Int ⊕ Int ⊕ Nat} : znl (some w) = true ↔ zcat (some w) = 1 := by
  obtain a | a | a := w <;> simp [znl, zcat]
/-- a value of one word into a local -/
theorem zlr_st1 {ad : Nat → Nat} {sv : Value} (hsv : sv.category = 1) {m : Nat} {L : List zV} {ls : Array Slot} {k : Nat} {w : Int ⊕ Int ⊕ Nat} (h : zlr ad sv L ls) (hk : k < L.length) (hc : zcat (some w) = 1) (hnl : zhl m = false → ∀ v ∈ L, znl v = true) (ho : zsO m L k = true) :
    ∃ ls', storeLocals ls k (zcv ad sv (some w)) = some ls' ∧ zlr ad sv (L.set k (some w)) ls' := by
  obtain ⟨ls', e1, h1, h2, h3⟩ := lv_store1 (v := zcv ad sv (some w)) (zlr_has h) hk ((zcat_cv hsv _).trans hc)
  refine ⟨ls', e1, by rw [List.length_set]; exact h1, h2, fun j u hj => ?_⟩
  rw [List.getElem?_set] at hj
  by_cases e : k = j
  · subst e
    rw [if_pos rfl, if_pos hk] at hj
    cases Option.some.inj (Option.some.inj hj)
    exact h3 (k, _) List.mem_cons_self
  · rw [if_neg e] at hj
    refine h3 (j, zcv ad sv (some u)) (List.mem_cons_of_mem _ (List.mem_filter.mpr ⟨zll_mem.mpr ⟨u, hj, rfl⟩, ?_⟩))
    have n1 : (j == k) = false := by simpa using fun z => e z.symm
    have n2 : (j + 1 == k && (zcv ad sv (some u)).category == 2) = false := by
      by_cases z : j + 1 = k
      · have hu : znl (some u) = true := by
          by_cases hh : zhl m = true
          · unfold zsO at ho
            rw [hh] at ho
            subst z
            simp only [Bool.not_true, Bool.false_or] at ho
            rw [List.getD_eq_getElem?_getD, hj] at ho
            exact ho
          · exact hnl (by simpa using hh) _ (List.mem_of_getElem? hj)
        rw [zcat_cv hsv, znl_cat.mp hu]
        simp
      · simp [z]
    show (!(j == k) && !(j + 1 == k && (zcv ad sv (some u)).category == 2)) = true
    rw [n1, n2]
    rfl
theorem zlr_st2 {ad : Nat → Nat} {sv : Value} (hsv : sv.category = 1) {m : Nat} {L : List zV} {ls : Array Slot} {k : Nat} {w : Int ⊕ Int ⊕ Nat} (h : zlr ad sv L ls) (hk : k + 1 < L.length) (hc : zcat (some w) = 2) (hh : zhl m = true) (ho : zsO m L k = true) :
    ∃ ls', storeLocals ls k (zcv ad sv (some w)) = some ls' ∧ zlr ad sv ((L.set k (some w)).set (k + 1) none) ls' := by
  obtain ⟨ls', e1, h1, h2, h3⟩ := lv_store2 (v := zcv ad sv (some w)) (zlr_has h) hk ((zcat_cv hsv _).trans hc)
  refine ⟨ls', e1, by rw [List.length_set, List.length_set]; exact h1, h2, fun j u hj => ?_⟩
  rw [List.getElem?_set] at hj
  by_cases e2 : k + 1 = j
  · subst e2
    rw [if_pos rfl, if_pos (by rw [List.length_set]; exact hk)] at hj
    cases hj
  · rw [if_neg e2, List.getElem?_set] at hj
    by_cases e : k = j
    · subst e
      rw [if_pos rfl, if_pos (by omega)] at hj
      cases Option.some.inj (Option.some.inj hj)
      exact h3 (k, _) List.mem_cons_self
    · rw [if_neg e] at hj
      refine h3 (j, zcv ad sv (some u)) (List.mem_cons_of_mem _ (List.mem_filter.mpr ⟨zll_mem.mpr ⟨u, hj, rfl⟩, ?_⟩))
      have n1 : (j == k) = false := by simpa using fun z => e z.symm
      have n3 : (j == k + 1) = false := by simpa using fun z => e2 z.symm
      have n2 : (j + 1 == k && (zcv ad sv (some u)).category == 2) = false := by
        by_cases z : j + 1 = k
        · have hu : znl (some u) = true := by
            unfold zsO at ho
            rw [hh] at ho
            subst z
            simp only [Bool.not_true, Bool.false_or] at ho
            rw [List.getD_eq_getElem?_getD, hj] at ho
            exact ho
          rw [zcat_cv hsv, znl_cat.mp hu]
          simp
        · simp [z]
      show (!(j == k) && (!(j == k + 1) && !(j + 1 == k && (zcv ad sv (some u)).category == 2))) = true
      rw [n1, n2, n3]
      rfl
section ZS5
variable {p : Program} {l : Launch} {e : Env} {R : Room} {s : State} {mi : MethodId} {args : Array Value} {below : List Frame} {meth : Method} {c : Code} {Q : State → Prop} {D : va_G} {cs : Nat → ClassId} {A : Nat → Prop} {sv : Value} {m n0 nf : Nat} {ad0 : Nat → Nat}
variable {pc len : Nat} {L st : List zV} {h : zH} {q : Nat × List zV × List zV × zH}
theorem zsvc (cx : zCx p R s mi args meth c D cs A sv m n0 nf) : sv.category = 1 := by
  rcases cx.2.2.2.2.2.2.2.2.2.2.2.2.1 with e | ⟨x, e⟩ <;> rw [e] <;> rfl
theorem zset_mem {L : List zV} {k : Nat} {v : zV} {P : zV → Prop} (h : ∀ w ∈ L, P w) (hv : P v) : ∀ w ∈ L.set k v, P w := fun w hw => (List.mem_or_eq_of_mem_set hw).elim (h w) (fun z => z ▸ hv)
/-- a step that sets a local -/
theorem zG_lc {pc' k : Nat} {w : Int ⊕ Int ⊕ Nat} {st' : List zV} (cx : zCx p R s mi args meth c D cs A sv m n0 nf) (hk : k < L.length) (ho : zsO m L k = true) (hc : zcat (some w) = 1) (K : zG p l e R s mi args below meth c Q D cs A sv m n0 ad0 pc' (L.set k (some w)) st' h)
    (hw : (∀ v ∈ L, zvo h.2.2.1 v) → (∀ v ∈ st, v.isSome = true ∧ zvo h.2.2.1 v) → zvo h.2.2.1 (some w) ∧ ∀ v ∈ st', v.isSome = true ∧ zvo h.2.2.1 v)
    (T : ∀ (ad : Nat → Nat) (H : Heap) (locs : List Loc) (ls ls' : Array Slot) (cells slots : Nat), zlr ad sv L ls → storeLocals ls k (zcv ad sv (some w)) = some ls' → W p l e R s mi args below meth c H locs cells slots Q (F0 mi pc' ls' (st'.map (zcv ad sv))) → W p l e R s mi args below meth c H locs cells slots Q (F0 mi pc ls (st.map (zcv ad sv)))) : zG p l e R s mi args below meth c Q D cs A sv m n0 ad0 pc L st h := by
  intro ad H locs ls hwd hl hL hvo hnl hso hn0 had
  obtain ⟨ls', e1, hl'⟩ := zlr_st1 (zsvc cx) hl hk hc hnl ho
  obtain ⟨w1, w2⟩ := hw hvo hso
  exact T ad H locs ls ls' _ _ hl e1 (K ad H locs ls' hwd hl' (by rw [List.length_set]; exact hL) (zset_mem hvo w1) (fun z => zset_mem (hnl z) (znl_cat.mpr hc)) w2 hn0 had)
theorem zr_store {cc : ByteArray} {ls ls' : Array Slot} {rest : List Value} {H : Heap} {locs : List Loc} {cells slots : Nat} (hexec : p.tables.exec = Jvm.exec) (hb : c.code = cc) {i : Nat} {x : Int32} (hdg : decode cc pc = .ok (.istore i, 2)) (hs : storeLocals ls i (.int x) = some ls') (k : W p l e R s mi args below meth c H locs cells slots Q (F0 mi (pc + 2) ls' rest)) : W p l e R s mi args below meth c H locs cells slots Q (F0 mi pc ls (.int x :: rest)) := by
  intro T hT X
  obtain ⟨t, a, b⟩ := k T hT X
  refine ⟨t, ?_, b⟩
  jvm_step X.here [X.here.top, ↓top_set X.here.top, hexec, hb, hdg, hs]
  exact a
theorem zr_store_n {cc : ByteArray} {ls ls' : Array Slot} {rest : List Value} {H : Heap} {locs : List Loc} {cells slots : Nat} (hexec : p.tables.exec = Jvm.exec) (hb : c.code = cc) {i : Fin 4} {x : Int32} (hdg : decode cc pc = .ok (.istore_n i, 1)) (hs : storeLocals ls (i : Nat) (.int x) = some ls') (k : W p l e R s mi args below meth c H locs cells slots Q (F0 mi (pc + 1) ls' rest)) : W p l e R s mi args below meth c H locs cells slots Q (F0 mi pc ls (.int x :: rest)) := by
  intro T hT X
  obtain ⟨t, a, b⟩ := k T hT X
  refine ⟨t, ?_, b⟩
  jvm_step X.here [X.here.top, ↓top_set X.here.top, hexec, hb, hdg, hs]
  exact a
theorem zr_astore {cc : ByteArray} {ls ls' : Array Slot} {rest : List Value} {H : Heap} {locs : List Loc} {cells slots : Nat} (hexec : p.tables.exec = Jvm.exec) (hb : c.code = cc) {i : Nat} {v : Value} (hv : v = .null ∨ ∃ a, v = .ref a) (hdg : decode cc pc = .ok (.astore i, 2)) (hs : storeLocals ls i v = some ls') (k : W p l e R s mi args below meth c H locs cells slots Q (F0 mi (pc + 2) ls' rest)) : W p l e R s mi args below meth c H locs cells slots Q (F0 mi pc ls (v :: rest)) := by
  intro T hT X
  obtain ⟨t, a, b⟩ := k T hT X
  refine ⟨t, ?_, b⟩
  rcases hv with rfl | ⟨x, rfl⟩ <;>
  · jvm_step X.here [X.here.top, ↓top_set X.here.top, hexec, hb, hdg, hs, Value.isRef]
    exact a
theorem zr_astore_n {cc : ByteArray} {ls ls' : Array Slot} {rest : List Value} {H : Heap} {locs : List Loc} {cells slots : Nat} (hexec : p.tables.exec = Jvm.exec) (hb : c.code = cc) {i : Fin 4} {v : Value} (hv : v = .null ∨ ∃ a, v = .ref a) (hdg : decode cc pc = .ok (.astore_n i, 1)) (hs : storeLocals ls (i : Nat) v = some ls') (k : W p l e R s mi args below meth c H locs cells slots Q (F0 mi (pc + 1) ls' rest)) : W p l e R s mi args below meth c H locs cells slots Q (F0 mi pc ls (v :: rest)) := by
  intro T hT X
  obtain ⟨t, a, b⟩ := k T hT X
  refine ⟨t, ?_, b⟩
  rcases hv with rfl | ⟨x, rfl⟩ <;>
  · jvm_step X.here [X.here.top, ↓top_set X.here.top, hexec, hb, hdg, hs, Value.isRef]
    exact a
theorem zr_lstore {cc : ByteArray} {ls ls' : Array Slot} {rest : List Value} {H : Heap} {locs : List Loc} {cells slots : Nat} (hexec : p.tables.exec = Jvm.exec) (hb : c.code = cc) {i : Nat} {x : Int64} (hdg : decode cc pc = .ok (.lstore i, 2)) (hs : storeLocals ls i (.long x) = some ls') (k : W p l e R s mi args below meth c H locs cells slots Q (F0 mi (pc + 2) ls' rest)) : W p l e R s mi args below meth c H locs cells slots Q (F0 mi pc ls (.long x :: rest)) := by
  intro T hT X
  obtain ⟨t, a, b⟩ := k T hT X
  refine ⟨t, ?_, b⟩
  jvm_step X.here [X.here.top, ↓top_set X.here.top, hexec, hb, hdg, hs]
  exact a
theorem zr_iinc {cc : ByteArray} {ls ls' : Array Slot} {rest : List Value} {H : Heap} {locs : List Loc} {cells slots : Nat} (hexec : p.tables.exec = Jvm.exec) (hb : c.code = cc) {i : Nat} {n : Int} {x : Int32} (hdg : decode cc pc = .ok (.iinc i n, 3)) (hg : ls[i]? = some (.val (.int x))) (hs : storeLocals ls i (.int (x + Int32.ofInt n)) = some ls') (k : W p l e R s mi args below meth c H locs cells slots Q (F0 mi (pc + 3) ls' rest)) : W p l e R s mi args below meth c H locs cells slots Q (F0 mi pc ls rest) := by
  intro T hT X
  obtain ⟨t, a, b⟩ := k T hT X
  refine ⟨t, ?_, b⟩
  jvm_step X.here [X.here.top, ↓top_set X.here.top, hexec, hb, hdg, hg, hs]
  exact a
theorem zs_istore {a : Nat} (cx : zCx p R s mi args meth c D cs A sv m n0 nf) (hd : decode (zb m) pc = .ok (.istore a, len)) (hlen : ziln (.istore a) = 0 ∨ ziln (.istore a) = len) (ha : zac0 m (.istore a) pc len L st h = .inl q) (K : zG p l e R s mi args below meth c Q D cs A sv m n0 ad0 q.1 q.2.1 q.2.2.1 q.2.2.2) : zG p l e R s mi args below meth c Q D cs A sv m n0 ad0 pc L st h := by
  obtain rfl := zl2 rfl hlen
  simp only [zac0, zstI] at ha
  split at ha
  · rename_i x s1
    split at ha
    · rename_i hc
      cases Sum.inl.inj ha
      exact zG_lc cx hc.1 hc.2 rfl K (fun _ hs => ⟨(List.forall_mem_cons.mp hs).1.2, (List.forall_mem_cons.mp hs).2⟩) (fun ad H locs ls ls' _ _ hl e1 k => zr_store cx.1 cx.2.1 hd e1 k)
    · cases ha
  · cases ha
theorem zs_istore_n {a : Fin 4} (cx : zCx p R s mi args meth c D cs A sv m n0 nf) (hd : decode (zb m) pc = .ok (.istore_n a, len)) (hlen : ziln (.istore_n a) = 0 ∨ ziln (.istore_n a) = len) (ha : zac0 m (.istore_n a) pc len L st h = .inl q) (K : zG p l e R s mi args below meth c Q D cs A sv m n0 ad0 q.1 q.2.1 q.2.2.1 q.2.2.2) : zG p l e R s mi args below meth c Q D cs A sv m n0 ad0 pc L st h := by
  obtain rfl := zl1 rfl hlen
  simp only [zac0, zstI] at ha
  split at ha
  · rename_i x s1
    split at ha
    · rename_i hc
      cases Sum.inl.inj ha
      exact zG_lc cx hc.1 hc.2 rfl K (fun _ hs => ⟨(List.forall_mem_cons.mp hs).1.2, (List.forall_mem_cons.mp hs).2⟩) (fun ad H locs ls ls' _ _ hl e1 k => zr_store_n cx.1 cx.2.1 hd e1 k)
    · cases ha
  · cases ha
theorem zs_astore {a : Nat} (cx : zCx p R s mi args meth c D cs A sv m n0 nf) (hd : decode (zb m) pc = .ok (.astore a, len)) (hlen : ziln (.astore a) = 0 ∨ ziln (.astore a) = len) (ha : zac0 m (.astore a) pc len L st h = .inl q) (K : zG p l e R s mi args below meth c Q D cs A sv m n0 ad0 q.1 q.2.1 q.2.2.1 q.2.2.2) : zG p l e R s mi args below meth c Q D cs A sv m n0 ad0 pc L st h := by
  obtain rfl := zl2 rfl hlen
  simp only [zac0, zstR] at ha
  split at ha
  · rename_i x s1
    split at ha
    · rename_i hc
      cases Sum.inl.inj ha
      exact zG_lc cx hc.1 hc.2 rfl K (fun _ hs => ⟨(List.forall_mem_cons.mp hs).1.2, (List.forall_mem_cons.mp hs).2⟩) (fun ad H locs ls ls' _ _ hl e1 k => zr_astore cx.1 cx.2.1 (zcv_ref cx.2.2.2.2.2.2.2.2.2.2.2.2.1 ad x) hd e1 k)
    · cases ha
  · cases ha
theorem zs_astore_n {a : Fin 4} (cx : zCx p R s mi args meth c D cs A sv m n0 nf) (hd : decode (zb m) pc = .ok (.astore_n a, len)) (hlen : ziln (.astore_n a) = 0 ∨ ziln (.astore_n a) = len) (ha : zac0 m (.astore_n a) pc len L st h = .inl q) (K : zG p l e R s mi args below meth c Q D cs A sv m n0 ad0 q.1 q.2.1 q.2.2.1 q.2.2.2) : zG p l e R s mi args below meth c Q D cs A sv m n0 ad0 pc L st h := by
  obtain rfl := zl1 rfl hlen
  simp only [zac0, zstR] at ha
  split at ha
  · rename_i x s1
    split at ha
    · rename_i hc
      cases Sum.inl.inj ha
      exact zG_lc cx hc.1 hc.2 rfl K (fun _ hs => ⟨(List.forall_mem_cons.mp hs).1.2, (List.forall_mem_cons.mp hs).2⟩) (fun ad H locs ls ls' _ _ hl e1 k => zr_astore_n cx.1 cx.2.1 (zcv_ref cx.2.2.2.2.2.2.2.2.2.2.2.2.1 ad x) hd e1 k)
    · cases ha
  · cases ha
theorem zs_lstore {a : Nat} (cx : zCx p R s mi args meth c D cs A sv m n0 nf) (hd : decode (zb m) pc = .ok (.lstore a, len)) (hlen : ziln (.lstore a) = 0 ∨ ziln (.lstore a) = len) (ha : zac0 m (.lstore a) pc len L st h = .inl q) (K : zG p l e R s mi args below meth c Q D cs A sv m n0 ad0 q.1 q.2.1 q.2.2.1 q.2.2.2) : zG p l e R s mi args below meth c Q D cs A sv m n0 ad0 pc L st h := by
  obtain rfl := zl2 rfl hlen
  simp only [zac0, zstJ] at ha
  split at ha
  · rename_i x s1
    split at ha
    · rename_i hc
      cases Sum.inl.inj ha
      intro ad H locs ls hwd hl hL hvo hnl hso hn0 had
      obtain ⟨ls', e1, hl'⟩ := zlr_st2 (zsvc cx) (w := .inr (.inl x)) hl hc.1 rfl hc.2.1 hc.2.2
      have hx := (List.forall_mem_cons.mp hso).1.2
      exact zr_lstore cx.1 cx.2.1 hd e1 (K ad H locs ls' hwd hl' (by show ((L.set a (vL x)).set (a + 1) none).length = zL m; rw [List.length_set, List.length_set]; exact hL) (zset_mem (zset_mem hvo hx) trivial) (fun z => by rw [hc.2.1] at z; cases z) (List.forall_mem_cons.mp hso).2 hn0 had)
    · cases ha
  · cases ha
theorem zs_iinc {a : Nat} {n : Int} (cx : zCx p R s mi args meth c D cs A sv m n0 nf) (hd : decode (zb m) pc = .ok (.iinc a n, len)) (hlen : ziln (.iinc a n) = 0 ∨ ziln (.iinc a n) = len) (ha : zac0 m (.iinc a n) pc len L st h = .inl q) (K : zG p l e R s mi args below meth c Q D cs A sv m n0 ad0 q.1 q.2.1 q.2.2.1 q.2.2.2) : zG p l e R s mi args below meth c Q D cs A sv m n0 ad0 pc L st h := by
  obtain rfl := zl3 rfl hlen
  simp only [zac0, zinc] at ha
  split at ha
  · rename_i x hx
    split at ha
    · rename_i hc
      cases Sum.inl.inj ha
      refine zG_lc cx (List.getElem?_eq_some_iff.mp hx).1 hc rfl K (fun _ hs => ⟨wr_RI _, hs⟩) (fun ad H locs ls ls' _ _ hl e1 k => ?_)
      have e2 : storeLocals ls a (.int (Int32.ofInt (wr (x + n)))) = some ls' := e1
      rw [zi_wr, Int32.ofInt_add] at e2
      exact zr_iinc cx.1 cx.2.1 hd (hl.2.2 _ (.inl x) hx) e2 k
    · cases ha
  · cases ha
end ZS5
