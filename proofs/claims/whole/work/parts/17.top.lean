/-! THE CLAIM OUT OF ONE WALK OF THE LAW'S BODY. Your part is whole_start (and what it stands on); all else here is the same for every law, but numbers. -/
def R_law : String := "PooledWavesLaw"
def lw_P (b : Addr) (xs : List Int32) (args : Array Value) (s : State) : Prop := args = #[.ref b] ∧ s.IntsAt b xs ∧ xs.length ≤ 2560 ∧ (Jvm.Cond.and given_1 narrow_1).before args s = true
def lw_Q (_ : Array Value) (s : State) (o : Outcome) (t : State) : Prop := o = .returned (some (.int 1)) ∧ Framed s o t [] 600000 7302250
def lw_Z (below : List Frame) (a : Array Value) (s : State) : State → Prop := fun t => ∃ o, t.status = .running ∧ Ended t below o ∧ lw_Q a s o t
/-- the law's own end, with 1 on the stack, nothing written that was there before, its room as the claim has it -/
theorem lw_ret {p : Program} {l : Launch} {e : Env} {s : State} {m : MethodId} {below : List Frame} {meth : Method} {c : Code} {b : Nat} (hx : p.tables.exec = Jvm.exec) (hb : c.code = code) (hr : meth.sig.returnType = ret) (hlocks : meth.locks = false) {pc : Nat} {H : Heap} {ls : Array Slot} (hdg : decode code pc = .ok (.ireturn, 1)) : W p l e room_1 s m #[Value.ref b] below meth c H [] 600000 7302250 (lw_Z below #[Value.ref b] s) (F0 m pc ls [.int 1]) := by
  intro T hT X
  obtain ⟨fs, hret, hrun, hended, hW, hframe⟩ := X.leave (v := some (.int 1)) (hlocks := hlocks) (fun h => by rw [hr] at h; cases h)
  have hmeth' : T.vm.method? m = some meth := X.method'
  refine ⟨T.setFrames fs, ?_, .returned (some (.int 1)), hrun, hended, rfl, ⟨_, rfl⟩, hW, hframe⟩
  jvm_step X.here [X.here.top, hx, hb, hdg, hmeth', hr, ret, narrow_b1]
  (try refine ⟨rfl, ?_⟩); (try refine ⟨rfl, ?_⟩)
  first | (intro acts; rw [hret _ acts rfl rfl rfl]) | rw [hret _ _ rfl rfl rfl]
  exact Steps.refl _
/-- what holds at the law's entry: the machine, the code, the tables' words (any of lw_tbl by 'hts w (by decide +kernel)'), the script of L ints xs at the cell b, what the Statement gives of the start (any of its parts by flat_of_before) -/
def lw_At (p : Program) (s : State) (m : MethodId) (meth : Method) (c : Code) (b L : Nat) (xs : Nat → Int32) : Prop :=
  p.tables.exec = Jvm.exec ∧ c.code = code ∧ meth.sig.returnType = ret ∧ c.maxLocals = 4 ∧ s.vm.findClass R_law = some m.cls ∧ (∀ w ∈ lw_tbl, w.before #[Value.ref b] s = true) ∧ va_X b L xs s s.heap ∧ b < s.heap.size ∧ meth.locks = false ∧ (Jvm.Cond.and given_1 narrow_1).before #[Value.ref b] s = true
/-- the memory at the start: what is only read -/
def zroL (p : Nat) : List Int := if p = 900 then [16, 0, 3, 1, 4] else if p = 901 then [1, 0, 1, 0, 0] else if p = 902 then [64, 2, 6, 9, 16] else if 1100 ≤ p ∧ p < 1106 then zsbyt.getD (p - 1100) [] else []
def zI0 (xs : Nat → Int32) : Nat → Int → Int := fun p j => if p = 899 then (xs j.toNat).toInt else if 0 ≤ j then (zroL p).getD j.toNat 0 else 0
def zRm : Nat → Int → Nat := fun p j => if 1000 ≤ p ∧ p < 1006 ∧ j = 0 then p + 100 else 0
def zh0 (L : Nat) (xs : Nat → Int32) : zH := (zI0 xs, zRm, 0, L)
theorem zroL_R : ∀ p j, zRI ((zroL p).getD j 0) := by
  intro p j
  have key : ∀ l : List Int, (∀ x ∈ l, zRI x) → zRI (l.getD j 0) := fun l hl => by
    rw [List.getD_eq_getElem?_getD]
    cases h : l[j]? with
    | none => exact zR0
    | some x => exact hl x (List.mem_of_getElem? h)
  unfold zroL
  split
  · exact key _ (by decide)
  · split
    · exact key _ (by decide)
    · split
      · exact key _ (by decide)
      · split
        · rename_i hp
          have hz : ∀ k : Nat, k < 6 → ∀ x ∈ zsbyt.getD k [], zRI x := by decide
          exact key _ (hz _ (by omega))
        · exact key _ (by decide)
theorem zh0_I (L : Nat) (xs : Nat → Int32) : zokI (zh0 L xs) := fun p j => by
  show zRI (if p = 899 then (xs j.toNat).toInt else if 0 ≤ j then (zroL p).getD j.toNat 0 else 0)
  split
  · exact zt_RI _
  · split
    · exact zroL_R _ _
    · exact zR0
theorem zh0_R (L : Nat) (xs : Nat → Int32) : zokR (zh0 L xs) := by
  refine ⟨fun p k hp => ?_, fun j hj => ?_⟩
  · have hp : p ≤ 0 := hp
    show (if 1000 ≤ p ∧ p < 1006 ∧ k = 0 then p + 100 else 0) ≤ 0
    rw [if_neg (by omega)]
    exact Nat.le_refl _
  · show (if 1000 ≤ 1000 + j ∧ 1000 + j < 1006 ∧ (0 : Int) = 0 then 1000 + j + 100 else 0) = 1100 + j
    rw [if_pos (by omega)]
    omega
theorem zsl_103 : zsl 103 ≤ 7302250 := by decide +kernel
theorem zI0_ro (xs : Nat → Int32) {p j : Nat} (hp : p ≠ 899) : zI0 xs p j = (zroL p).getD j 0 := by
  unfold zI0
  rw [if_neg hp, if_pos (by omega)]
  rfl
/-- the law out of the abstract machine's run of it -/
theorem whole_of (Hw : ∀ (L : Nat) (xs : Nat → Int32), L ≤ 2560 → ∃ hf, zrun 217 [vR 899] (zh0 L xs) = some (some (vI 1), hf)) {p : Program} {e : Env} {s : State} {m : MethodId} {below : List Frame} {meth : Method} {c : Code} (l : Launch) {b L : Nat} {xs : Nat → Int32} (hL : L ≤ 2560) (C0 : lw_At p s m meth c b L xs) : W p l e room_1 s m #[Value.ref b] below meth c s.heap [] 0 0 (lw_Z below #[Value.ref b] s) (entryFrame m ([Value.ref b] : List Value).toArray 4) := by
  obtain ⟨hx, hb, hr, hml, hown, hts, hX, hbl, hlocks, hgv⟩ := C0
  have hfl := flat_of_before _ hgv
  obtain ⟨hf, hrun⟩ := Hw L xs hL
  obtain ⟨n, hev⟩ := zX_some.mp hrun
  have hkp : zkp (zh0 L xs) hf := zev_kp n (Nat.zero_le _) hev
  have hA : ∀ a : Nat, a < s.heap.size → ¬ (fun q : Nat => s.heap.size ≤ q) a := fun a h1 h2 => by omega
  have htz : ∀ w ∈ zgt, w.before #[Value.ref b] s = true := fun w hw => hts w (List.mem_filter.mp hw).1
  have htt : ∀ w ∈ tables_1, w.before #[Value.ref b] s = true := fun w hw => hts w (List.mem_append_right _ hw)
  -- classes
  have hkn : ∀ ci : Nat, ∃ q : ClassId × (Nat → Nat), ci < 12 → u_Kn s (zCn ci) (zT ci) (znF ci) q.1 q.2 := by
    intro ci
    by_cases hci : ci < 12
    · have hz : (List.range 12).all (fun ci => decide (Cond.instantiable (zCn ci) (znF ci) ∈ tables_1)) = true := by decide +kernel
      have h2 := List.all_eq_true.mp hz ci (List.mem_range.mpr hci)
      rw [decide_eq_true_eq] at h2
      obtain ⟨cC, iS, h3⟩ := u_known (T := zT ci) (N := znF ci) htz (zcls hci).2 (htt _ h2)
      exact ⟨(cC, iS), fun _ => h3⟩
    · exact ⟨(0, fun _ => 0), fun z => absurd z hci⟩
  obtain ⟨dq, hdq⟩ := Classical.axiomOfChoice hkn
  -- arrays
  have hpr : ∀ ty : FieldType, Cond.arrayClass ty ∈ tables_1 → (∀ C, ty ≠ .object C) → ∃ cA, ArrOfT s cA ty ∧ va_RA s cA ty := by
    intro ty hty hno
    obtain ⟨cA, kA, comp, h1, h2, h3⟩ := Cond.arrayClass_spec (args := #[Value.ref b]) (first := s) (o := none) (s := s) (idx := []) (htt _ hty)
    refine ⟨cA, fun n z => ⟨fun k h => (by cases h), kA, h2, comp, h3⟩, ?_⟩
    cases ty with
    | object C => exact absurd rfl (hno C)
    | _ => exact h1
  have hob : ∀ C : String, Cond.arrayOver (.object C) ∈ tables_1 → ∃ cA, ArrOfT s cA (.object C) ∧ va_RA s cA (.object C) := by
    intro C hC
    obtain ⟨comp, cA, kA, h1, _, h3, h4, h5⟩ := Cond.arrayOver_spec (args := #[Value.ref b]) (first := s) (o := none) (s := s) (idx := []) (htt _ hC)
    exact ⟨cA, fun n z => ⟨fun k h => (by cases h), kA, h3, comp, h4⟩, kA, comp, h3, h4, h1, h5⟩
  obtain ⟨c1, a1⟩ := hpr .int (by decide +kernel) (fun _ h => by cases h)
  obtain ⟨c2, a2⟩ := hpr .byte (by decide +kernel) (fun _ h => by cases h)
  obtain ⟨c3, a3⟩ := hpr .boolean (by decide +kernel) (fun _ h => by cases h)
  obtain ⟨c4, a4⟩ := hpr .long (by decide +kernel) (fun _ h => by cases h)
  obtain ⟨c5, a5⟩ := hob "PooledWaves$Player" (by decide +kernel)
  obtain ⟨c6, a6⟩ := hob "PooledWaves$Sheet" (by decide +kernel)
  obtain ⟨cs, hcs⟩ : ∃ cs : Nat → ClassId, cs 1 = c1 ∧ cs 2 = c2 ∧ cs 3 = c3 ∧ cs 4 = c4 ∧ cs 5 = c5 ∧ cs 6 = c6 := ⟨fun k => ([0, c1, c2, c3, c4, c5, c6] : List ClassId).getD k 0, rfl, rfl, rfl, rfl, rfl, rfl⟩
  have hK : va_K (fun k => (dq k).1, fun k => (dq k).2) vwCl (ztys cs) s := by
    refine ⟨fun k q hq => ?_, fun k q hq => ?_⟩
    · have hk : k < 12 := (List.getElem?_eq_some_iff.mp hq).1
      have h2 := (zcls hk).1
      cases hq.symm.trans h2
      exact hdq k hk
    · have hk : k < 6 := (List.getElem?_eq_some_iff.mp hq).1
      have hd : k = 0 ∨ k = 1 ∨ k = 2 ∨ k = 3 ∨ k = 4 ∨ k = 5 := by omega
      rcases hd with rfl | rfl | rfl | rfl | rfl | rfl <;> cases hq
      · rw [hcs.1]; exact a1
      · rw [hcs.2.1]; exact a2
      · rw [hcs.2.2.1]; exact a3
      · rw [hcs.2.2.2.1]; exact a4
      · rw [hcs.2.2.2.2.1]; exact a5
      · rw [hcs.2.2.2.2.2]; exact a6
  -- the static arrays
  have hst : ∀ nm : String, ∀ f : Nat → Int, (Cond.arrayOf (.static "PooledWaves" nm "[I") .int) ∈ flatC (Jvm.Cond.and given_1 narrow_1) → (Cond.eq (.length (.static "PooledWaves" nm "[I")) (.int 5)) ∈ flatC (Jvm.Cond.and given_1 narrow_1) → (∀ j : Nat, j < 5 → (Cond.eq (.elem (.static "PooledWaves" nm "[I") (.int (Int32.ofNat j))) (.int (Int32.ofInt (f j)))) ∈ flatC (Jvm.Cond.and given_1 narrow_1)) → Cond.laysStatic "PooledWaves" nm "[I" ∈ tables_1 → ∃ t : Nat, (Term.static "PooledWaves" nm "[I").eval #[Value.ref b] s none [] s = some (.ref t) ∧ va_T .int t 5 (fun j => .int (Int32.ofInt (f j))) (fun q : Nat => s.heap.size ≤ q) s s.heap ∧ va_Z "PooledWaves" nm "[I" (.ref t) (fun q : Nat => s.heap.size ≤ q) s s.heap := by
    intro nm f h1 h2 h3 h4
    obtain ⟨t, ht, hT⟩ := va_Tof (N := 5) (f := fun j => .int (Int32.ofInt (f j))) (A := fun q : Nat => s.heap.size ≤ q) (by decide) (hfl _ h1) (va_eqt (hfl _ h2)) (fun j hj => va_eqt (hfl _ (h3 j hj))) hA
    exact ⟨t, ht, hT, va_Zof (htt _ h4) (htt _ (by decide +kernel)) ht hA⟩
  have hst9 : ∀ k : Nat, ∃ t : Nat, k = 900 ∨ k = 901 ∨ k = 902 → (Term.static (zsN k).1 (zsN k).2.1 (zsN k).2.2).eval #[Value.ref b] s none [] s = some (.ref t) ∧ va_T .int t 5 (fun j => .int (Int32.ofInt (zI0 xs k j))) (fun q : Nat => s.heap.size ≤ q) s s.heap ∧ va_Z (zsN k).1 (zsN k).2.1 (zsN k).2.2 (.ref t) (fun q : Nat => s.heap.size ≤ q) s s.heap := by
    intro k
    by_cases h0 : k = 900
    · subst h0
      obtain ⟨t, h1, h2, h3⟩ := hst "SETTING_AT_FIRST" (fun j => (zroL 900).getD j 0) (by decide +kernel) (by decide +kernel) (by decide +kernel) (by decide +kernel)
      exact ⟨t, fun _ => ⟨h1, by simpa only [zI0_ro xs (show (900 : Nat) ≠ 899 by decide)] using h2, h3⟩⟩
    · by_cases h1 : k = 901
      · subst h1
        obtain ⟨t, h1, h2, h3⟩ := hst "SETTING_LEAST" (fun j => (zroL 901).getD j 0) (by decide +kernel) (by decide +kernel) (by decide +kernel) (by decide +kernel)
        exact ⟨t, fun _ => ⟨h1, by simpa only [zI0_ro xs (show (901 : Nat) ≠ 899 by decide)] using h2, h3⟩⟩
      · by_cases h2 : k = 902
        · subst h2
          obtain ⟨t, h1, h2, h3⟩ := hst "SETTING_MOST" (fun j => (zroL 902).getD j 0) (by decide +kernel) (by decide +kernel) (by decide +kernel) (by decide +kernel)
          exact ⟨t, fun _ => ⟨h1, by simpa only [zI0_ro xs (show (902 : Nat) ≠ 899 by decide)] using h2, h3⟩⟩
        · exact ⟨0, fun z => by omega⟩
  obtain ⟨at9, hat9⟩ := Classical.axiomOfChoice hst9
  -- the texts
  obtain ⟨adK, adV, hSt, hSe⟩ := vk_Sof (args := #[Value.ref b]) (s := s) (N := 6) (tm := fun i => Term.string "PooledWaves$Reader" (zsX i)) (len := zslen) (byt := zsbyt.map (fun l => l.map Int32.ofInt)) (A := fun q : Nat => s.heap.size ≤ q) (by decide) (fun i hi => hfl _ ((by decide +kernel : ∀ i : Nat, i < 6 → (Cond.exactly (Term.string "PooledWaves$Reader" (zsX i)) "java/lang/String") ∈ flatC (Jvm.Cond.and given_1 narrow_1)) i hi))
    (fun i hi => hfl _ ((by decide +kernel : ∀ i : Nat, i < 6 → (Cond.eq (.field (Term.string "PooledWaves$Reader" (zsX i)) "java/lang/String" "coder" "B") (.int 0)) ∈ flatC (Jvm.Cond.and given_1 narrow_1)) i hi))
    (fun i hi => hfl _ ((by decide +kernel : ∀ i : Nat, i < 6 → (Cond.arrayOf (.field (Term.string "PooledWaves$Reader" (zsX i)) "java/lang/String" "value" "[B") .byte) ∈ flatC (Jvm.Cond.and given_1 narrow_1)) i hi))
    (fun i hi => hfl _ ((by decide +kernel : ∀ i : Nat, i < 6 → (Cond.eq (.length (.field (Term.string "PooledWaves$Reader" (zsX i)) "java/lang/String" "value" "[B")) (.int (Int32.ofNat (zslen.getD i 0)))) ∈ flatC (Jvm.Cond.and given_1 narrow_1)) i hi))
    (fun i hi j hj => hfl _ ((by decide +kernel : ∀ i : Nat, i < 6 → ∀ j : Nat, j < zslen.getD i 0 → (Cond.eq (.elem (.field (Term.string "PooledWaves$Reader" (zsX i)) "java/lang/String" "value" "[B") (.int (Int32.ofNat j))) (.int (((zsbyt.map (fun l => l.map Int32.ofInt)).getD i []).getD j 0))) ∈ flatC (Jvm.Cond.and given_1 narrow_1)) i hi j hj))
    (fun i j hi hj hij => by
      have hz := (by decide +kernel : ∀ i : Nat, i < 6 → ∀ j : Nat, j < 6 → i ≠ j → (Cond.not (Cond.eq (Term.string "PooledWaves$Reader" (zsX i)) (Term.string "PooledWaves$Reader" (zsX j)))) ∈ flatC (Jvm.Cond.and given_1 narrow_1) ∨ (Cond.not (Cond.eq (Term.string "PooledWaves$Reader" (zsX j)) (Term.string "PooledWaves$Reader" (zsX i)))) ∈ flatC (Jvm.Cond.and given_1 narrow_1)) i hi j hj hij
      exact hz.imp (fun z => hfl _ z) (fun z => hfl _ z)) hA
  sorry
