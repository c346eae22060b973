/-! ===== the machine's steps are the JVM's ===== -/
theorem zfind {α : Type} {L : List (Nat × Nat × α)} {o i : Nat} {v : α} (h : (L.find? (fun e => e.1 == o && e.2.1 == i)).map (fun e => e.2.2) = some v) : (o, i, v) ∈ L := by
  cases hf : L.find? (fun e => e.1 == o && e.2.1 == i) with
  | none => rw [hf] at h; cases h
  | some e =>
    rw [hf] at h
    have h1 := List.find?_some hf
    have h2 := List.mem_of_find?_eq_some hf
    simp only [Bool.and_eq_true, beq_iff_eq] at h1
    obtain ⟨a, b, w⟩ := e
    obtain ⟨rfl, rfl⟩ := h1
    cases h
    exact h2
theorem zfl_ok {o i ci k t : Nat} (h : zfl o i = some (ci, k, t)) : zflC (o, i, ci, k, t) ∈ zgt ∧ (ci = 20 ∧ (k = 0 ∧ t = 2 ∨ k = 1 ∧ t = 0) ∨ ci < 12 ∧ k < znF ci ∧ t = zft ci k) := by
  have h1 := zfind h
  rw [← zflQ_eq] at h1
  obtain ⟨q, hq, e⟩ := List.mem_map.mp h1
  have h2 := List.all_eq_true.mp zflQ_ok q hq
  rw [e] at h2
  simp only [Bool.and_eq_true, Bool.or_eq_true, beq_iff_eq, decide_eq_true_eq] at h2
  refine ⟨zwq_in h2.1, ?_⟩
  rcases h2.2 with ⟨a, b⟩ | ⟨⟨a, b⟩, d⟩
  · exact Or.inl ⟨a, b⟩
  · exact Or.inr ⟨a, b, d⟩
theorem zcls {ci : Nat} (h : ci < 12) : vwCl[ci]? = some (zCn ci, zT ci, znF ci) ∧ ∀ w ∈ u_ws (zCn ci) (zT ci) (znF ci), w ∈ zgt := by
  have h1 := List.all_eq_true.mp zv_ok ci (List.mem_range.mpr h)
  rw [decide_eq_true_eq] at h1
  have h2 := List.all_eq_true.mp zu_ok ci (List.mem_range.mpr h)
  refine ⟨?_, ?_⟩
  · cases hc : vwCl[ci]? with
    | none => rw [hc] at h1; cases h1
    | some q =>
      rw [hc] at h1
      obtain ⟨a, b, d⟩ := q
      have e : zT ci = b := by
        unfold zT
        rw [List.getD_eq_getElem?_getD, hc]
        rfl
      have h3 := Option.some.inj h1
      rw [e, ← (Prod.mk.inj h3).1, ← (Prod.mk.inj h3).2]
  · intro w hw
    obtain ⟨k, hk, e⟩ := List.mem_map.mp hw
    rw [← e]
    exact zwq_in (List.all_eq_true.mp h2 k hk)
theorem zty {ci : Nat} (h : ci < 12) : ∃ ty : Nat → FieldType, (∀ k, k < znF ci → parseFieldDescriptor (zT ci k).2.2.1 = some (ty k)) ∧ (∀ k, k < znF ci → (zft ci k = 0 ∧ ty k = .int ∨ zft ci k = 1 ∧ ty k = .boolean ∨ zft ci k = 2 ∧ ((∃ n, ty k = .object n) ∨ ∃ t, ty k = .array t))) := by
  have key : ∀ ci : Nat, ci < 12 → ∀ k : Nat, k < znF ci → ∃ t : FieldType, parseFieldDescriptor (zT ci k).2.2.1 = some t ∧ (zft ci k = 0 ∧ t = .int ∨ zft ci k = 1 ∧ t = .boolean ∨ zft ci k = 2 ∧ ((∃ n, t = .object n) ∨ ∃ t', t = .array t')) := by
    have hz : (List.range 12).all (fun ci => (List.range (znF ci)).all (fun k => match parseFieldDescriptor (zT ci k).2.2.1 with
      | some .int => zft ci k == 0
      | some .boolean => zft ci k == 1
      | some (.object _) => zft ci k == 2
      | some (.array _) => zft ci k == 2
      | _ => false)) = true := by decide +kernel
    intro ci hc k hk
    have h1 := List.all_eq_true.mp (List.all_eq_true.mp hz ci (List.mem_range.mpr hc)) k (List.mem_range.mpr hk)
    cases hp : parseFieldDescriptor (zT ci k).2.2.1 with
    | none => rw [hp] at h1; cases h1
    | some t =>
      rw [hp] at h1
      cases t <;> first | (cases h1; done) | (refine ⟨_, rfl, ?_⟩; have h1 := beq_iff_eq.mp h1; simp [h1])
  refine ⟨fun k => if hk : k < znF ci then (key ci h k hk).choose else .int, ?_, ?_⟩
  · intro k hk
    simp only [dif_pos hk]
    exact (key ci h k hk).choose_spec.1
  · intro k hk
    simp only [dif_pos hk]
    exact (key ci h k hk).choose_spec.2
theorem znm {ci : Nat} (h : ci < 12) : ∀ a, a < znF ci → ∀ b, b < znF ci → a ≠ b → (zT ci a).2.1 ≠ (zT ci b).2.1 := by
  have hz : (List.range 12).all (fun ci => (List.range (znF ci)).all (fun a => (List.range (znF ci)).all (fun b => decide (a = b) || decide ((zT ci a).2.1 ≠ (zT ci b).2.1)))) = true := by decide +kernel
  intro a ha b hb hab
  have h1 := List.all_eq_true.mp (List.all_eq_true.mp (List.all_eq_true.mp hz ci (List.mem_range.mpr h)) a (List.mem_range.mpr ha)) b (List.mem_range.mpr hb)
  simp only [Bool.or_eq_true, decide_eq_true_eq] at h1
  exact h1.resolve_left hab
theorem zfn {ci k : Nat} (h : ci < 12) (hk : k < znF ci) : (zT ci k).2.2.2 = zfin ci k ∧ (zT ci k).1 = zCn ci ∧ zon ci = zCn ci := by
  have hz : (List.range 12).all (fun ci => (List.range (znF ci)).all (fun k => decide ((zT ci k).2.2.2 = zfin ci k) && decide ((zT ci k).1 = zCn ci) && decide (zon ci = zCn ci))) = true := by decide +kernel
  have h1 := List.all_eq_true.mp (List.all_eq_true.mp hz ci (List.mem_range.mpr h)) k (List.mem_range.mpr hk)
  simp only [Bool.and_eq_true, decide_eq_true_eq] at h1
  exact ⟨h1.1.1, h1.1.2, h1.2⟩
def ztys (cs : Nat → ClassId) : List (ClassId × FieldType) := [(cs 1, .int), (cs 2, .byte), (cs 3, .boolean), (cs 4, .long), (cs 5, .object "PooledWaves$Player"), (cs 6, .object "PooledWaves$Sheet")]
/-- the words that a state carries beside the tables' -/
def znws : List Cond := lw_tbl.filter (fun w => match w with
  | .methodLinkNest _ _ _ _ => true
  | .fieldLinkNest _ _ _ _ _ _ => true
  | .castable _ _ => true
  | _ => false)
def zsT (k : Nat) : String := (["go", "seg", "play", "mark", "loop", "until"] : List String).getD k ""
def zsX (k : Nat) : Nat := ([72, 78, 116, 118, 120, 122] : List Nat).getD k 0
/-- the array that is cloned -/
def zO9 (t : Nat) (f : Int → Int) (A : Nat → Prop) (U : State) (HH : Heap) : Prop := ∃ cell : Cell, HH[t]? = some cell ∧ cell.vm.isStatics = false ∧ cell.vm ≠ .unknown ∧ U.vm.findClass "[I" = some cell.cls ∧ cell.slots.size = 5 ∧ (∀ j : Nat, j < 5 → cell.slots[j]? = some (.int (Int32.ofInt (f j)))) ∧ ¬ A t
/-- what is only read: the script, the static arrays, the texts -/
def zRO (A : Nat → Prop) (ad : Nat → Nat) (sv : Value) (U : State) (HH : Heap) (h : zH) : Prop :=
  va_T .int (ad 899) h.2.2.2 (fun j => .int (Int32.ofInt (h.1 899 j))) A U HH ∧
  (∀ k, k = 900 ∨ k = 901 ∨ k = 902 → va_T .int (ad k) 5 (fun j => .int (Int32.ofInt (h.1 k j))) A U HH ∧ va_Z (zsN k).1 (zsN k).2.1 (zsN k).2.2 (.ref (ad k)) A U HH) ∧
  va_Z (zsN (-1)).1 (zsN (-1)).2.1 (zsN (-1)).2.2 (.int 1) A U HH ∧ va_Z (zsN 1200).1 (zsN 1200).2.1 (zsN 1200).2.2 sv A U HH ∧
  (∀ k, k < 6 → va_O "java/lang/String" (ad (1000 + k)) A U HH ∧ va_OF "java/lang/String" "coder" "B" (.int (Int32.ofInt (h.1 (1000 + k) 1))) (ad (1000 + k)) A U HH ∧ va_OF "java/lang/String" "value" "[B" (.ref (ad (1100 + k))) (ad (1000 + k)) A U HH ∧ va_T .byte (ad (1100 + k)) (zslen.getD k 0) (fun j => .int (Int32.ofInt (h.1 (1100 + k) j))) A U HH ∧ h.2.1 (1000 + k) 0 = 1100 + k ∧ vk_R "PooledWaves$Reader" (zsX k) (zsT k) (ad (1000 + k)) U) ∧
  (∀ w ∈ znws, va_Nw w U) ∧ va_AO "PooledWaves$Player" U ∧ va_AO "PooledWaves$Sheet" U ∧ zO9 (ad 900) (h.1 900) A U HH
theorem zRO.moved {A : Nat → Prop} {ad : Nat → Nat} {sv : Value} {s U : State} {HH : Heap} {h : zH} (hW : s.WarmedH U.vm) (r : zRO A ad sv s HH h) : zRO A ad sv U HH h := by
  obtain ⟨r1, r2, r3, r4, r5, r6, r7, r8, r9⟩ := r
  have hv := hW.alike
  refine ⟨r1.moved hv, fun k hk => ⟨(r2 k hk).1.moved hv, (r2 k hk).2.moved hv⟩, r3.moved hv, r4.moved hv, fun k hk => ?_, fun w hw => ?_, r7.moved hv, r8.moved hv, ?_⟩
  · obtain ⟨a1, a2, a3, a4, a5, a6⟩ := r5 k hk
    exact ⟨va_O.moved hv a1, va_OF.moved hv a2, va_OF.moved hv a3, a4.moved hv, a5, a6.warm hW⟩
  · have hz := r6 w hw
    have h2 := (List.mem_filter.mp hw).2
    cases w <;> first | (cases h2; done) | exact va_Nw.warmM hW hz | exact va_Nw.warmF hW hz | exact va_Nw.warmC hW hz
  · obtain ⟨cell, a1, a2, a3, a4, a5⟩ := r9
    exact ⟨cell, a1, a2, a3, by rw [hv.findClass]; exact a4, a5⟩
theorem zRO.kept {A : Nat → Prop} {ad : Nat → Nat} {sv : Value} {U : State} {H H1 : Heap} {h : zH} (hq : ∀ a : Nat, a < H.size → ¬ A a → H1[a]? = H[a]?) (r : zRO A ad sv U H h) : zRO A ad sv U H1 h := by
  obtain ⟨r1, r2, r3, r4, r5, r6, r7, r8, r9⟩ := r
  refine ⟨r1.kept hq, fun k hk => ⟨(r2 k hk).1.kept hq, (r2 k hk).2.kept hq⟩, r3.kept hq, r4.kept hq, fun k hk => ?_, r6, r7, r8, ?_⟩
  · obtain ⟨a1, a2, a3, a4, a5, a6⟩ := r5 k hk
    exact ⟨a1.kept hq, a2.kept hq, a3.kept hq, a4.kept hq, a5, a6⟩
  · obtain ⟨cell, a1, a2, a3, a4, a5, a6, a7⟩ := r9
    exact ⟨cell, by rw [hq _ (Array.getElem?_eq_some_iff.mp a1).1 a7]; exact a1, a2, a3, a4, a5, a6, a7⟩
theorem zRO.narrow {A B : Nat → Prop} {ad : Nat → Nat} {sv : Value} {U : State} {H : Heap} {h : zH} (hAB : ∀ q, B q → A q) (r : zRO A ad sv U H h) : zRO B ad sv U H h := by
  obtain ⟨r1, r2, r3, r4, r5, r6, r7, r8, r9⟩ := r
  refine ⟨r1.narrow hAB, fun k hk => ⟨(r2 k hk).1.narrow hAB, (r2 k hk).2.narrow hAB⟩, r3.narrow hAB, r4.narrow hAB, fun k hk => ?_, r6, r7, r8, ?_⟩
  · obtain ⟨a1, a2, a3, a4, a5, a6⟩ := r5 k hk
    exact ⟨a1.narrow hAB, a2.narrow hAB, a3.narrow hAB, a4.narrow hAB, a5, a6⟩
  · obtain ⟨cell, a1, a2, a3, a4, a5, a6, a7⟩ := r9
    exact ⟨cell, a1, a2, a3, a4, a5, a6, fun z => a7 (hAB _ z)⟩
/-- two heaps are alike in what is only read -/
theorem zRO.same {A : Nat → Prop} {ad ad' : Nat → Nat} {sv : Value} {U : State} {H : Heap} {h h' : zH} (e1 : ∀ p, 899 ≤ p → h'.1 p = h.1 p) (e2 : ∀ p, 899 ≤ p → h'.2.1 p = h.2.1 p) (e3 : h'.2.2.2 = h.2.2.2) (e4 : ∀ p, 899 ≤ p → ad' p = ad p) (r : zRO A ad sv U H h) : zRO A ad' sv U H h' := by
  obtain ⟨r1, r2, r3, r4, r5, r6, r7, r8, r9⟩ := r
  refine ⟨?_, fun k hk => ?_, r3, r4, fun k hk => ?_, r6, r7, r8, by rw [e4 900 (by omega), e1 900 (by omega)]; exact r9⟩
  · rw [e4 899 (by omega), e3, e1 899 (by omega)]; exact r1
  · rw [e4 k (by omega), e1 k (by omega)]; exact r2 k hk
  · rw [e4 (1000 + k) (by omega), e4 (1100 + k) (by omega), e1 (1000 + k) (by omega), e1 (1100 + k) (by omega), e2 (1000 + k) (by omega)]; exact r5 k hk
def zWd (D : va_G) (cs : Nat → ClassId) (A : Nat → Prop) (s : State) (sv : Value) (H : Heap) (locs : List Loc) (ad : Nat → Nat) (h : zH) : Prop :=
  va_P D vwCl (zws cs ad h) H ∧ va_D A (zws cs ad h) ∧ va_S A s.heap H locs ∧ zokI h ∧ zokR h ∧ h.2.2.1 ≤ zNP ∧ zRO A ad sv s s.heap h
def zsz (p : Nat) : Nat := if (zkd p).1 = 0 then znF (zkd p).2 else (zkd p).2
def zsl : Nat → Nat
  | 0 => 0
  | n + 1 => zsl n + zsz (n + 1)
theorem zsl_mono {a b : Nat} (h : a ≤ b) : zsl a ≤ zsl b := by
  induction b with
  | zero => rw [Nat.le_zero.mp h]; exact Nat.le_refl _
  | succ b ih =>
    rcases Nat.lt_or_eq_of_le h with q | q
    · exact Nat.le_trans (ih (Nat.le_of_lt_succ q)) (Nat.le_add_right _ _)
    · rw [q]; exact Nat.le_refl _
section ZS
variable {p : Program} {l : Launch} {e : Env} {R : Room} {s : State} {mi : MethodId} {args : Array Value} {below : List Frame} {meth : Method} {c : Code} {Q : State → Prop} {D : va_G} {cs : Nat → ClassId} {A : Nat → Prop} {sv : Value} {m n0 nf : Nat} {ad0 : Nat → Nat}
/-- the frame in which a method runs -/
def zCx (p : Program) (R : Room) (s : State) (mi : MethodId) (args : Array Value) (meth : Method) (c : Code) (D : va_G) (cs : Nat → ClassId) (A : Nat → Prop) (sv : Value) (m n0 nf : Nat) : Prop :=
  p.tables.exec = Jvm.exec ∧ c.code = zb m ∧ c.maxLocals = zL m ∧ s.vm.findClass (zon (zo m)) = some mi.cls ∧ (∀ w ∈ zgt, w.before args s = true) ∧ meth.locks = false ∧ (zin m = true → meth.name = "<init>") ∧ zfr m ≤ R.frames ∧ zlo m ≤ R.locals ∧ nf - n0 ≤ R.cells ∧ zsl nf - zsl n0 ≤ R.slots ∧ va_K D vwCl (ztys cs) s ∧ (sv = .null ∨ ∃ x, sv = .ref x) ∧ (∀ q, s.heap.size ≤ q → A q)
def zG (p : Program) (l : Launch) (e : Env) (R : Room) (s : State) (mi : MethodId) (args : Array Value) (below : List Frame) (meth : Method) (c : Code) (Q : State → Prop) (D : va_G) (cs : Nat → ClassId) (A : Nat → Prop) (sv : Value) (m n0 : Nat) (ad0 : Nat → Nat) (pc : Nat) (L st : List zV) (h : zH) : Prop :=
  ∀ (ad : Nat → Nat) (H : Heap) (locs : List Loc) (ls : Array Slot), zWd D cs A s sv H locs ad h → zlr ad sv L ls → L.length = zL m → (∀ v ∈ L, zvo h.2.2.1 v) → (zhl m = false → ∀ v ∈ L, znl v = true) → (∀ v ∈ st, v.isSome = true ∧ zvo h.2.2.1 v) → n0 ≤ h.2.2.1 → (∀ q, q ≤ n0 ∨ 899 ≤ q → ad q = ad0 q) →
    W p l e R s mi args below meth c H locs (h.2.2.1 - n0) (zsl h.2.2.1 - zsl n0) Q (F0 mi pc ls (st.map (zcv ad sv)))
/-- a step that changes the stack alone -/
theorem zG_st {pc pc' : Nat} {L st st' : List zV} {h : zH} (K : zG p l e R s mi args below meth c Q D cs A sv m n0 ad0 pc' L st' h)
    (hv : zokI h → zokR h → (∀ v ∈ L, zvo h.2.2.1 v) → (∀ v ∈ st, v.isSome = true ∧ zvo h.2.2.1 v) → ∀ v ∈ st', v.isSome = true ∧ zvo h.2.2.1 v)
    (T : ∀ (ad : Nat → Nat) (H : Heap) (locs : List Loc) (ls : Array Slot), zWd D cs A s sv H locs ad h → zlr ad sv L ls → (∀ v ∈ L, zvo h.2.2.1 v) → (∀ v ∈ st, v.isSome = true ∧ zvo h.2.2.1 v) → W p l e R s mi args below meth c H locs (h.2.2.1 - n0) (zsl h.2.2.1 - zsl n0) Q (F0 mi pc' ls (st'.map (zcv ad sv))) → W p l e R s mi args below meth c H locs (h.2.2.1 - n0) (zsl h.2.2.1 - zsl n0) Q (F0 mi pc ls (st.map (zcv ad sv)))) :
    zG p l e R s mi args below meth c Q D cs A sv m n0 ad0 pc L st h := by
  intro ad H locs ls hw hl hL hvo hnl hso hn had
  exact T ad H locs ls hw hl hvo hso (K ad H locs ls hw hl hL hvo hnl (hv hw.2.2.2.1 hw.2.2.2.2.1 hvo hso) hn had)
end ZS
