/-! ===== the machine's answer is the JVM's ===== -/
theorem zMet_ofW {l : Launch} {y : MethodName} {ws ws' : List Cond} {rm : Room} {Pc : Array Value → State → Prop} {Qc : Array Value → State → Outcome → State → Prop} {mc ms : Nat} {free : Addr → Prop} {cc : ByteArray} {maxL : Nat} {ret : Option FieldType}
    (hy : plainFor y = true) (hw : ws = Cond.code y cc maxL ret :: ws')
    (body : ∀ p e s m args below meth c s₁, BodyLoose p l y (headSpec ws rm) cc maxL ret e s m args below meth c s₁ → c.maxLocals = maxL → Pc args s →
      W p l e (headSpec ws rm).room s m args below meth c s.heap [] 0 0 (MQ below Qc args s mc ms free) (entryFrame m args maxL)) : Met l y ws rm Pc Qc mc ms free := by
  refine MetFree.of_bodySF (code := cc) (maxLocals := maxL) (ret := ret) hy ?_ ?_
  · intro args s m h hn
    obtain ⟨meth, c, h1, h2, h3, h4, h5, h6, -, -⟩ := Cond.code_spec hn (atoms_spec (ws := ws) h _ (by rw [hw]; exact List.mem_cons_self))
    exact ⟨meth, c, h1, h2, h3, h4, h5, h6⟩
  · intro p e s m args below meth c s₁ B hml hP _
    have hh0 : s₁.heap = s.heap := by rw [B.state]; rfl
    obtain ⟨t, a1, o, b1, b2, b3⟩ := body p e s m args below meth c s₁ B hml hP s₁ hh0 (Stand.of_body B)
    exact ⟨t, o, a1, b1, b2, ⟨b3.1, b3.2⟩⟩
theorem zent_sl {ad : Nat → Nat} {sv : Value} (hsv : sv.category = 1) : ∀ as : List zV, (∀ v ∈ as, v.isSome = true) → (lg_sl (as.map (zcv ad sv))).length = (zent as).length ∧ ∀ (k : Nat) (w : Int ⊕ Int ⊕ Nat), (zent as)[k]? = some (some w) → (lg_sl (as.map (zcv ad sv)))[k]? = some (.val (zcv ad sv (some w))) := by
  intro as
  induction as with
  | nil => intro _; exact ⟨rfl, fun k w h => by simp [zent] at h⟩
  | cons v as ih =>
    intro hs
    obtain ⟨h1, h2⟩ := ih (fun w hw => hs w (List.mem_cons_of_mem _ hw))
    have hv := hs v List.mem_cons_self
    have e1 : lg_sl ((v :: as).map (zcv ad sv)) = (if (zcv ad sv v).category = 2 then [.val (zcv ad sv v), .second] else [.val (zcv ad sv v)]) ++ lg_sl (as.map (zcv ad sv)) := by
      unfold lg_sl
      rfl
    have e2 : zent (v :: as) = (if zcat v = 2 then [v, none] else [v]) ++ zent as := rfl
    rw [e1, e2, zcat_cv hsv]
    by_cases hc : zcat v = 2
    · rw [if_pos hc, if_pos hc]
      refine ⟨by simp [h1], fun k w hk => ?_⟩
      match k, hk with
      | 0, hk => simp at hk; rw [hk]; simp
      | 1, hk => simp at hk
      | k + 2, hk => simp at hk ⊢; exact h2 k w hk
    · rw [if_neg hc, if_neg hc]
      refine ⟨by simp [h1], fun k w hk => ?_⟩
      match k, hk with
      | 0, hk => simp at hk; rw [hk]; simp
      | k + 1, hk => simp at hk ⊢; exact h2 k w hk
theorem zin0_len {d : Nat} {as : List zV} (h : (zent as).length ≤ zL d) : (zin0 d as).length = zL d := by
  unfold zin0
  rw [List.length_append, List.length_replicate]
  omega
/-- the locals at a method's entry -/
theorem zin0_lr {ad : Nat → Nat} {sv : Value} (hsv : sv.category = 1) {d : Nat} {as : List zV} (hs : ∀ v ∈ as, v.isSome = true) (hl : (zent as).length ≤ zL d) : zlr ad sv (zin0 d as) ((lg_sl (as.map (zcv ad sv)) ++ List.replicate (zL d - (lg_sl (as.map (zcv ad sv))).length) Slot.unset).toArray) := by
  obtain ⟨h1, h2⟩ := zent_sl (ad := ad) hsv as hs
  have h3 := lv_entry (as.map (zcv ad sv)) (n := zL d) (by omega)
  refine ⟨by rw [zin0_len hl]; exact h3.1, h3.2.1, fun k w hk => ?_⟩
  unfold zin0 at hk
  by_cases hlt : k < (zent as).length
  · rw [List.getElem?_append_left hlt] at hk
    have h4 := h2 k w hk
    simp only [List.getElem?_toArray]
    rw [List.getElem?_append_left (by omega)]
    exact h4
  · rw [List.getElem?_append_right (by omega), List.getElem?_replicate] at hk
    split at hk <;> cases hk
theorem zent_mem {as : List zV} {P : zV → Prop} (h0 : P none) (h : ∀ v ∈ as, P v) : ∀ v ∈ zent as, P v := by
  induction as with
  | nil => intro v hv; cases hv
  | cons w as ih =>
    intro v hv
    have e2 : zent (w :: as) = (if zcat w = 2 then [w, none] else [w]) ++ zent as := rfl
    rw [e2, List.mem_append] at hv
    rcases hv with hv | hv
    · split at hv
      · rcases List.mem_cons.mp hv with rfl | hv
        · exact h v List.mem_cons_self
        · rw [List.mem_singleton.mp hv]; exact h0
      · rw [List.mem_singleton.mp hv]; exact h w List.mem_cons_self
    · exact ih (fun u hu => h u (List.mem_cons_of_mem _ hu)) v hv
theorem zin0_mem {d : Nat} {as : List zV} {P : zV → Prop} (h0 : P none) (h : ∀ v ∈ as, P v) : ∀ v ∈ zin0 d as, P v := by
  intro v hv
  unfold zin0 at hv
  rcases List.mem_append.mp hv with hv | hv
  · exact zent_mem h0 h v hv
  · rw [(List.mem_replicate.mp hv).2]; exact h0
/-- a method's start: its values, its world -/
def zPc (D : va_G) (cs : Nat → ClassId) (sv : Value) (ad : Nat → Nat) (sz : Nat) (as : List zV) (h : zH) : Array Value → State → Prop := va_Pc (as.map (zcv ad sv)) (fun U => U.heap.size = sz ∧ va_P D vwCl (zws cs ad h) U.heap ∧ va_K D vwCl (ztys cs) U ∧ va_D (fun _ => True) (zws cs ad h) ∧ zRO (va_A (zws cs ad h) sz) ad sv U U.heap h)
/-- what holds behind it -/
def zB (D : va_G) (cs : Nat → ClassId) (A : Nat → Prop) (h : zH) (u : Nat → Nat) (t : State) : Prop := va_P D vwCl (zws cs u h) t.heap ∧ va_K D vwCl (ztys cs) t ∧ va_D A (zws cs u h)
def zPo (ad : Nat → Nat) (h h1 : zH) (u : Nat → Nat) : Prop := (∀ q, q ≤ h.2.2.1 ∨ 899 ≤ q → u q = ad q) ∧ zokI h1 ∧ zokR h1
def zQc (D : va_G) (cs : Nat → ClassId) (ad : Nat → Nat) (sz : Nat) (h h1 : zH) (r : Option zV) : Array Value → State → Outcome → State → Prop := match r with
  | some (some (.inl a)) => va_Qi (fun x u => x = Int32.ofInt a ∧ zPo ad h h1 u ∧ zRI a) (zB D cs (va_A (zws cs ad h) sz) h1) (va_A (zws cs ad h) sz)
  | _ => va_Qv (fun u => zPo ad h h1 u) (zB D cs (va_A (zws cs ad h) sz) h1) (va_A (zws cs ad h) sz)
def zrm (d : Nat) (h h1 : zH) : Room := { frames := zfr d, cells := h1.2.2.1 - h.2.2.1, slots := zsl h1.2.2.1 - zsl h.2.2.1, locals := zlo d }
/-- what a run of a method comes to -/
def zfinP (p : Program) (l : Launch) (e : Env) (R : Room) (s : State) (mi : MethodId) (args : Array Value) (below : List Frame) (meth : Method) (c : Code) (Q : State → Prop) (D : va_G) (cs : Nat → ClassId) (A : Nat → Prop) (sv : Value) (m n0 : Nat) (ad0 : Nat → Nat) (r : Option zV) (hf : zH) : Prop :=
  ∀ (pc : Nat) (i : Instr) (ad : Nat → Nat) (H : Heap) (locs : List Loc) (ls : Array Slot), decode (zb m) pc = .ok (i, 1) → (i = .return_ ∧ zret m = none ∧ r = none ∨ i = .ireturn ∧ ∃ a ty, r = some (vI a) ∧ zret m = some ty ∧ zRI a ∧ narrow ty (.int (Int32.ofInt a)) = .int (Int32.ofInt a)) → zWd D cs A s sv H locs ad hf → n0 ≤ hf.2.2.1 → (∀ q, q ≤ n0 ∨ 899 ≤ q → ad q = ad0 q) → W p l e R s mi args below meth c H locs (hf.2.2.1 - n0) (zsl hf.2.2.1 - zsl n0) Q (F0 mi pc ls (r.toList.map (zcv ad sv)))
/-- soundness of n steps -/
def zSnd (l : Launch) (n : Nat) : Prop := ∀ (m pc : Nat) (L st : List zV) (h : zH) (r : Option zV) (hf : zH), zev n m pc L st h = some (r, hf) → ∀ (p : Program) (e : Env) (R : Room) (s : State) (mi : MethodId) (args : Array Value) (below : List Frame) (meth : Method) (c : Code) (Q : State → Prop) (D : va_G) (cs : Nat → ClassId) (A : Nat → Prop) (sv : Value) (n0 : Nat) (ad0 : Nat → Nat), zCx p R s mi args meth c D cs A sv m n0 hf.2.2.1 → zfinP p l e R s mi args below meth c Q D cs A sv m n0 ad0 r hf → zG p l e R s mi args below meth c Q D cs A sv m n0 ad0 pc L st h
/-- a method's contract out of its run -/
theorem zmet {l : Launch} {n d : Nat} (ih : zSnd l n) {as : List zV} {h h1 : zH} {r : Option zV} (hev : zev n d 0 (zin0 d as) [] h = some (r, h1)) (hd : d < 217) (D : va_G) (cs : Nat → ClassId) (sv : Value) (hsv : sv = .null ∨ ∃ x, sv = .ref x) (ad : Nat → Nat) (sz : Nat) (hs : ∀ v ∈ as, v.isSome = true ∧ zvo h.2.2.1 v) (hnl : zhl d = false → ∀ v ∈ as, znl v = true) (hl : (zent as).length ≤ zL d) (hI : zokI h) (hR : zokR h) (hn : h.2.2.1 ≤ zNP) :
    Met l (zy d) (Cond.code (zy d) (zb d) (zL d) (zret d) :: zgt) (zrm d h h1) (zPc D cs sv ad sz as h) (zQc D cs ad sz h h1 r) (h1.2.2.1 - h.2.2.1) (zsl h1.2.2.1 - zsl h.2.2.1) (va_A (zws cs ad h) sz) := by
  obtain ⟨m1, m2, m3, m4, m5, m6, m7⟩ := zm_ok hd
  have hsvc : sv.category = 1 := by rcases hsv with e | ⟨x, e⟩ <;> rw [e] <;> rfl
  refine zMet_ofW (cc := zb d) (maxL := zL d) (ret := zret d) m5 rfl ?_
  intro p e s mi args below meth c s₁ B hml hv
  obtain ⟨rfl, hsz, hP, hK, hD0, hro⟩ := hv
  have hts := atoms_spec (ws := Cond.code (zy d) (zb d) (zL d) (zret d) :: zgt) B.pre
  have hown : s.vm.findClass (zy d).cls = some mi.cls := findClass_of_methodNamed B.named
  have hlocks := B.notSynchronized
  have hin : meth.name = (zy d).name := (name_of_methodNamed B.named B.method).1
  subst hsz
  rw [lg_entry_eq]
  have hA : ∀ q : Nat, s.heap.size ≤ q → va_A (zws cs ad h) s.heap.size q := fun q h => Or.inr h
  have cx : zCx p (headSpec (Cond.code (zy d) (zb d) (zL d) (zret d) :: zgt) (zrm d h h1)).room s mi ((as.map (zcv ad sv)).toArray) meth c D cs (va_A (zws cs ad h) s.heap.size) sv d h.2.2.1 h1.2.2.1 :=
    ⟨B.exec, B.bytes, hml, by rw [m6]; exact hown, fun w hw => hts w (List.mem_cons_of_mem _ hw), hlocks, fun z => by rw [hin]; exact m7 z, Nat.le_refl _, Nat.le_refl _, Nat.le_refl _, Nat.le_refl _, hK, hsv, hA⟩
  have key := ih d 0 (zin0 d as) [] h r h1 hev p e (headSpec (Cond.code (zy d) (zb d) (zL d) (zret d) :: zgt) (zrm d h h1)).room s mi ((as.map (zcv ad sv)).toArray) below meth c (MQ below (zQc D cs ad s.heap.size h h1 r) ((as.map (zcv ad sv)).toArray) s (h1.2.2.1 - h.2.2.1) (zsl h1.2.2.1 - zsl h.2.2.1) (va_A (zws cs ad h) s.heap.size)) D cs (va_A (zws cs ad h) s.heap.size) sv h.2.2.1 ad cx ?_
  · have k := key ad s.heap [] _ ⟨hP, hD0.self, va_S.rf, hI, hR, hn, hro⟩ (zin0_lr hsvc (fun v hv => (hs v hv).1) hl) (zin0_len hl) (zin0_mem trivial (fun v hv => (hs v hv).2)) (fun z => zin0_mem rfl (hnl z)) (fun v hv => by cases hv) (Nat.le_refl _) (fun _ _ => rfl)
    rw [Nat.sub_self, Nat.sub_self] at k
    exact k
  · intro pc i ad' H locs ls hdc hi hw hn0 had
    have hr := B.returns
    rcases hi with ⟨rfl, hret, rfl⟩ | ⟨rfl, a, ty, rfl, hret, ra, hnar⟩
    · rw [hret] at hr
      refine W.vret B.exec B.bytes hr (fun t ht hW => ?_) hw.2.2.1.2.2 hdc
      exact ⟨⟨ad', rfl, ⟨had, hw.2.2.2.1, hw.2.2.2.2.1⟩, by rw [ht]; exact hw.1, va_K.moved hW.alike hK, hw.2.1⟩, hw.2.2.1.F ht⟩
    · rw [hret] at hr
      refine W.zret B.exec B.bytes hr hnar (fun t ht hW => ?_) hw.2.2.1.2.2 hdc
      exact ⟨⟨Int32.ofInt a, ad', rfl, ⟨rfl, ⟨had, hw.2.2.2.1, hw.2.2.2.2.1⟩, ra⟩, by rw [ht]; exact hw.1, va_K.moved hW.alike hK, hw.2.1⟩, hw.2.2.1.F ht⟩
