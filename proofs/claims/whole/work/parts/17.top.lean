/-! THE CLAIM OUT OF ONE WALK OF THE LAW'S BODY. Your part is whole_start (and what it stands on); all else here is the same for every law, but numbers. -/
def R_law : String := "PooledWavesLaw"
def lw_P (b : Addr) (xs : List Int32) (args : Array Value) (s : State) : Prop := args = #[.ref b] ∧ s.IntsAt b xs ∧ xs.length ≤ 2560 ∧ (Jvm.Cond.and given_1 narrow_1).before args s = true
def lw_Q (_ : Array Value) (s : State) (o : Outcome) (t : State) : Prop := o = .returned (some (.int 1)) ∧ Framed s o t [] 600000 7302250
def lw_Z (below : List Frame) (a : Array Value) (s : State) : State → Prop := fun t => ∃ o, t.status = .running ∧ Ended t below o ∧ lw_Q a s o t
/-- the law's own end, with 1 on the stack, nothing written that was there before, its room as the claim has it -/
theorem lw_ret {p : Program} {l : Launch} {e : Env} {s : State} {m : MethodId} {below : List Frame} {meth : Method} {c : Code} {b : Nat} (hx : p.tables.exec = Jvm.exec) (hb : c.code = code) (hr : meth.sig.returnType = ret) (hlocks : meth.locks = false) {pc : Nat} {H : Heap} {ls : Array Slot} (hdg : decode code pc = .ok (.ireturn, 1)) : W p l e room_1 s m #[Value.ref b] below meth c H [] 600000 7302250 (lw_Z below #[Value.ref b] s) (F0 m pc ls [.int 1]) := by
  intro T hT X
  obtain ⟨fs, hret, hrun, hended, hW, hframe⟩ := X.leave (v := some (.int 1)) (hlocks := hlocks) (fun h => by rw [hr] at h; cases h)
  have hmeth' : T.vm.method? m = some meth := X.method'
  refine ⟨T.setFrames fs, ?_, .returned (some (.int 1)), hrun, hended, rfl, ⟨_, rfl⟩, hW, hframe⟩
  jvm_step X.here [X.here.top, hx, hb, hdg, hmeth', hr, ret, narrow_b1]
  (try refine ⟨rfl, ?_⟩); (try refine ⟨rfl, ?_⟩)
  first | (intro acts; rw [hret _ acts rfl rfl rfl]) | rw [hret _ _ rfl rfl rfl]
  exact Steps.refl _
/-- what holds at the law's entry: the machine, the code, the tables' words (any of lw_tbl by 'hts w (by decide +kernel)'), the script of L ints xs at the cell b, what the Statement gives of the start (any of its parts by flat_of_before) -/
def lw_At (p : Program) (s : State) (m : MethodId) (meth : Method) (c : Code) (b L : Nat) (xs : Nat → Int32) : Prop :=
  p.tables.exec = Jvm.exec ∧ c.code = code ∧ meth.sig.returnType = ret ∧ c.maxLocals = 4 ∧ s.vm.findClass R_law = some m.cls ∧ (∀ w ∈ lw_tbl, w.before #[Value.ref b] s = true) ∧ va_X b L xs s s.heap ∧ b < s.heap.size ∧ meth.locks = false ∧ (Jvm.Cond.and given_1 narrow_1).before #[Value.ref b] s = true
/-- the memory at the start: what is only read -/
def zroL (p : Nat) : List Int := if p = 900 then [16, 0, 3, 1, 4] else if p = 901 then [1, 0, 1, 0, 0] else if p = 902 then [64, 2, 6, 9, 16] else if 1100 ≤ p ∧ p < 1106 then zsbyt.getD (p - 1100) [] else []
def zI0 (xs : Nat → Int32) : Nat → Int → Int := fun p j => if p = 899 then (xs j.toNat).toInt else if 0 ≤ j then (zroL p).getD j.toNat 0 else 0
def zRm : Nat → Int → Nat := fun p j => if 1000 ≤ p ∧ p < 1006 ∧ j = 0 then p + 100 else 0
def zh0 (L : Nat) (xs : Nat → Int32) : zH := (zI0 xs, zRm, 0, L)
theorem zroL_R : ∀ p j, zRI ((zroL p).getD j 0) := by
  intro p j
  have key : ∀ l : List Int, (∀ x ∈ l, zRI x) → zRI (l.getD j 0) := fun l hl => by
    rw [List.getD_eq_getElem?_getD]
    cases h : l[j]? with
    | none => exact zR0
    | some x => exact hl x (List.mem_of_getElem? h)
  unfold zroL
  split
  · exact key _ (by decide)
  · split
    · exact key _ (by decide)
    · split
      · exact key _ (by decide)
      · split
        · rename_i hp
          have hz : ∀ k : Nat, k < 6 → ∀ x ∈ zsbyt.getD k [], zRI x := by decide
          exact key _ (hz _ (by omega))
        · exact key _ (by decide)
theorem zh0_I (L : Nat) (xs : Nat → Int32) : zokI (zh0 L xs) := fun p j => by
  show zRI (if p = 899 then (xs j.toNat).toInt else if 0 ≤ j then (zroL p).getD j.toNat 0 else 0)
  split
  · exact zt_RI _
  · split
    · exact zroL_R _ _
    · exact zR0
theorem zh0_R (L : Nat) (xs : Nat → Int32) : zokR (zh0 L xs) := by
  refine ⟨fun p k hp => ?_, fun j hj => ?_⟩
  · have hp : p ≤ 0 := hp
    show (if 1000 ≤ p ∧ p < 1006 ∧ k = 0 then p + 100 else 0) ≤ 0
    rw [if_neg (by omega)]
    exact Nat.le_refl _
  · show (if 1000 ≤ 1000 + j ∧ 1000 + j < 1006 ∧ (0 : Int) = 0 then 1000 + j + 100 else 0) = 1100 + j
    rw [if_pos (by omega)]
    omega
theorem zsl_103 : zsl 103 ≤ 7302250 := by decide +kernel
theorem zI0_ro (xs : Nat → Int32) {p j : Nat} (hp : p ≠ 899) : zI0 xs p j = (zroL p).getD j 0 := by
  unfold zI0
  rw [if_neg hp, if_pos (by omega)]
  rfl
theorem zlen_lt {args : Array Value} {s : State} {t : Term} {a : Nat} {cell : Cell} {v : Value} (hv : (Term.length t).eval args s none [] s = some v) (ht : t.eval args s none [] s = some (.ref a)) (harr : s.arrayAt? a = some cell) : cell.slots.size < 2147483648 := by
  simp only [Term.eval, ht, harr, Option.bind_eq_bind, Option.bind_some] at hv
  by_cases hlt : cell.slots.size < 2147483648
  · exact hlt
  · simp [hlt] at hv
/-- the law out of the abstract machine's run of it -/
theorem whole_of (Hw : ∀ (L : Nat) (xs : Nat → Int32), L ≤ 2560 → ∃ hf, zrun 217 [vR 899] (zh0 L xs) = some (some (vI 1), hf)) {p : Program} {e : Env} {s : State} {m : MethodId} {below : List Frame} {meth : Method} {c : Code} (l : Launch) {b L : Nat} {xs : Nat → Int32} (hL : L ≤ 2560) (C0 : lw_At p s m meth c b L xs) : W p l e room_1 s m #[Value.ref b] below meth c s.heap [] 0 0 (lw_Z below #[Value.ref b] s) (entryFrame m ([Value.ref b] : List Value).toArray 4) := by
  obtain ⟨hx, hb, hr, hml, hown, hts, hX, hbl, hlocks, hgv⟩ := C0
  have hfl := flat_of_before _ hgv
  obtain ⟨hf, hrun⟩ := Hw L xs hL
  obtain ⟨n, hev⟩ := zX_some.mp hrun
  have hkp : zkp (zh0 L xs) hf := zev_kp n (Nat.zero_le _) hev
  have hA : ∀ a : Nat, a < s.heap.size → ¬ (fun q : Nat => s.heap.size ≤ q) a := fun a h1 h2 => by omega
  have htz : ∀ w ∈ zgt, w.before #[Value.ref b] s = true := fun w hw => hts w (List.mem_filter.mp hw).1
  have htt : ∀ w ∈ tables_1, w.before #[Value.ref b] s = true := fun w hw => hts w (List.mem_append_right _ hw)
  -- classes
  have hkn : ∀ ci : Nat, ∃ q : ClassId × (Nat → Nat), ci < 12 → u_Kn s (zCn ci) (zT ci) (znF ci) q.1 q.2 := by
    intro ci
    by_cases hci : ci < 12
    · have hz : (List.range 12).all (fun ci => decide (Cond.instantiable (zCn ci) (znF ci) ∈ tables_1)) = true := by decide +kernel
      have h2 := List.all_eq_true.mp hz ci (List.mem_range.mpr hci)
      rw [decide_eq_true_eq] at h2
      obtain ⟨cC, iS, h3⟩ := u_known (T := zT ci) (N := znF ci) htz (zcls hci).2 (htt _ h2)
      exact ⟨(cC, iS), fun _ => h3⟩
    · exact ⟨(0, fun _ => 0), fun z => absurd z hci⟩
  obtain ⟨dq, hdq⟩ := Classical.axiomOfChoice hkn
  -- arrays
  have hpr : ∀ ty : FieldType, Cond.arrayClass ty ∈ tables_1 → (∀ C, ty ≠ .object C) → ∃ cA, ArrOfT s cA ty ∧ va_RA s cA ty := by
    intro ty hty hno
    obtain ⟨cA, kA, comp, h1, h2, h3⟩ := Cond.arrayClass_spec (args := #[Value.ref b]) (first := s) (o := none) (s := s) (idx := []) (htt _ hty)
    refine ⟨cA, fun n z => ⟨fun k h => (by cases h), kA, h2, comp, h3⟩, ?_⟩
    cases ty with
    | object C => exact absurd rfl (hno C)
    | _ => exact h1
  have hob : ∀ C : String, Cond.arrayOver (.object C) ∈ tables_1 → ∃ cA, ArrOfT s cA (.object C) ∧ va_RA s cA (.object C) := by
    intro C hC
    obtain ⟨comp, cA, kA, h1, _, h3, h4, h5⟩ := Cond.arrayOver_spec (args := #[Value.ref b]) (first := s) (o := none) (s := s) (idx := []) (htt _ hC)
    exact ⟨cA, fun n z => ⟨fun k h => (by cases h), kA, h3, comp, h4⟩, kA, comp, h3, h4, h1, h5⟩
  obtain ⟨c1, a1⟩ := hpr .int (by decide +kernel) (fun _ h => by cases h)
  obtain ⟨c2, a2⟩ := hpr .byte (by decide +kernel) (fun _ h => by cases h)
  obtain ⟨c3, a3⟩ := hpr .boolean (by decide +kernel) (fun _ h => by cases h)
  obtain ⟨c4, a4⟩ := hpr .long (by decide +kernel) (fun _ h => by cases h)
  obtain ⟨c5, a5⟩ := hob "PooledWaves$Player" (by decide +kernel)
  obtain ⟨c6, a6⟩ := hob "PooledWaves$Sheet" (by decide +kernel)
  obtain ⟨cs, hcs⟩ : ∃ cs : Nat → ClassId, cs 1 = c1 ∧ cs 2 = c2 ∧ cs 3 = c3 ∧ cs 4 = c4 ∧ cs 5 = c5 ∧ cs 6 = c6 := ⟨fun k => ([0, c1, c2, c3, c4, c5, c6] : List ClassId).getD k 0, rfl, rfl, rfl, rfl, rfl, rfl⟩
  have hK : va_K (fun k => (dq k).1, fun k => (dq k).2) vwCl (ztys cs) s := by
    refine ⟨fun k q hq => ?_, fun k q hq => ?_⟩
    · have hk : k < 12 := (List.getElem?_eq_some_iff.mp hq).1
      have h2 := (zcls hk).1
      cases hq.symm.trans h2
      exact hdq k hk
    · have hk : k < 6 := (List.getElem?_eq_some_iff.mp hq).1
      have hd : k = 0 ∨ k = 1 ∨ k = 2 ∨ k = 3 ∨ k = 4 ∨ k = 5 := by omega
      rcases hd with rfl | rfl | rfl | rfl | rfl | rfl <;> cases hq
      · rw [hcs.1]; exact a1
      · rw [hcs.2.1]; exact a2
      · rw [hcs.2.2.1]; exact a3
      · rw [hcs.2.2.2.1]; exact a4
      · rw [hcs.2.2.2.2.1]; exact a5
      · rw [hcs.2.2.2.2.2]; exact a6
  -- the static arrays
  have hst : ∀ nm : String, ∀ f : Nat → Int, (Cond.arrayOf (.static "PooledWaves" nm "[I") .int) ∈ flatC (Jvm.Cond.and given_1 narrow_1) → (Cond.eq (.length (.static "PooledWaves" nm "[I")) (.int 5)) ∈ flatC (Jvm.Cond.and given_1 narrow_1) → (∀ j : Nat, j < 5 → (Cond.eq (.elem (.static "PooledWaves" nm "[I") (.int (Int32.ofNat j))) (.int (Int32.ofInt (f j)))) ∈ flatC (Jvm.Cond.and given_1 narrow_1)) → Cond.laysStatic "PooledWaves" nm "[I" ∈ tables_1 → ∃ t : Nat, (Term.static "PooledWaves" nm "[I").eval #[Value.ref b] s none [] s = some (.ref t) ∧ va_T .int t 5 (fun j => .int (Int32.ofInt (f j))) (fun q : Nat => s.heap.size ≤ q) s s.heap ∧ va_Z "PooledWaves" nm "[I" (.ref t) (fun q : Nat => s.heap.size ≤ q) s s.heap := by
    intro nm f h1 h2 h3 h4
    obtain ⟨t, ht, hT⟩ := va_Tof (N := 5) (f := fun j => .int (Int32.ofInt (f j))) (A := fun q : Nat => s.heap.size ≤ q) (by decide) (hfl _ h1) (va_eqt (hfl _ h2)) (fun j hj => va_eqt (hfl _ (h3 j hj))) hA
    exact ⟨t, ht, hT, va_Zof (htt _ h4) (htt _ (by decide +kernel)) ht hA⟩
  have hst9 : ∀ k : Nat, ∃ t : Nat, k = 900 ∨ k = 901 ∨ k = 902 → (Term.static (zsN k).1 (zsN k).2.1 (zsN k).2.2).eval #[Value.ref b] s none [] s = some (.ref t) ∧ va_T .int t 5 (fun j => .int (Int32.ofInt (zI0 xs k j))) (fun q : Nat => s.heap.size ≤ q) s s.heap ∧ va_Z (zsN k).1 (zsN k).2.1 (zsN k).2.2 (.ref t) (fun q : Nat => s.heap.size ≤ q) s s.heap := by
    intro k
    by_cases h0 : k = 900
    · subst h0
      obtain ⟨t, h1, h2, h3⟩ := hst "SETTING_AT_FIRST" (fun j => (zroL 900).getD j 0) (by decide +kernel) (by decide +kernel) (by decide +kernel) (by decide +kernel)
      exact ⟨t, fun _ => ⟨h1, by simpa only [zI0_ro xs (show (900 : Nat) ≠ 899 by decide)] using h2, h3⟩⟩
    · by_cases h1 : k = 901
      · subst h1
        obtain ⟨t, h1, h2, h3⟩ := hst "SETTING_LEAST" (fun j => (zroL 901).getD j 0) (by decide +kernel) (by decide +kernel) (by decide +kernel) (by decide +kernel)
        exact ⟨t, fun _ => ⟨h1, by simpa only [zI0_ro xs (show (901 : Nat) ≠ 899 by decide)] using h2, h3⟩⟩
      · by_cases h2 : k = 902
        · subst h2
          obtain ⟨t, h1, h2, h3⟩ := hst "SETTING_MOST" (fun j => (zroL 902).getD j 0) (by decide +kernel) (by decide +kernel) (by decide +kernel) (by decide +kernel)
          exact ⟨t, fun _ => ⟨h1, by simpa only [zI0_ro xs (show (902 : Nat) ≠ 899 by decide)] using h2, h3⟩⟩
        · exact ⟨0, fun z => by omega⟩
  obtain ⟨at9, hat9⟩ := Classical.axiomOfChoice hst9
  -- the texts
  obtain ⟨adK, adV, hSt, hSe⟩ := vk_Sof (args := #[Value.ref b]) (s := s) (N := 6) (tm := fun i => Term.string "PooledWaves$Reader" (zsX i)) (len := zslen) (byt := zsbyt.map (fun l => l.map Int32.ofInt)) (A := fun q : Nat => s.heap.size ≤ q) (by decide) (fun i hi => hfl _ ((by decide +kernel : ∀ i : Nat, i < 6 → (Cond.exactly (Term.string "PooledWaves$Reader" (zsX i)) "java/lang/String") ∈ flatC (Jvm.Cond.and given_1 narrow_1)) i hi))
    (fun i hi => hfl _ ((by decide +kernel : ∀ i : Nat, i < 6 → (Cond.eq (.field (Term.string "PooledWaves$Reader" (zsX i)) "java/lang/String" "coder" "B") (.int 0)) ∈ flatC (Jvm.Cond.and given_1 narrow_1)) i hi))
    (fun i hi => hfl _ ((by decide +kernel : ∀ i : Nat, i < 6 → (Cond.arrayOf (.field (Term.string "PooledWaves$Reader" (zsX i)) "java/lang/String" "value" "[B") .byte) ∈ flatC (Jvm.Cond.and given_1 narrow_1)) i hi))
    (fun i hi => hfl _ ((by decide +kernel : ∀ i : Nat, i < 6 → (Cond.eq (.length (.field (Term.string "PooledWaves$Reader" (zsX i)) "java/lang/String" "value" "[B")) (.int (Int32.ofNat (zslen.getD i 0)))) ∈ flatC (Jvm.Cond.and given_1 narrow_1)) i hi))
    (fun i hi j hj => hfl _ ((by decide +kernel : ∀ i : Nat, i < 6 → ∀ j : Nat, j < zslen.getD i 0 → (Cond.eq (.elem (.field (Term.string "PooledWaves$Reader" (zsX i)) "java/lang/String" "value" "[B") (.int (Int32.ofNat j))) (.int (((zsbyt.map (fun l => l.map Int32.ofInt)).getD i []).getD j 0))) ∈ flatC (Jvm.Cond.and given_1 narrow_1)) i hi j hj))
    (fun i j hi hj hij => by
      have hz := (by decide +kernel : ∀ i : Nat, i < 6 → ∀ j : Nat, j < 6 → i ≠ j → (Cond.not (Cond.eq (Term.string "PooledWaves$Reader" (zsX i)) (Term.string "PooledWaves$Reader" (zsX j)))) ∈ flatC (Jvm.Cond.and given_1 narrow_1) ∨ (Cond.not (Cond.eq (Term.string "PooledWaves$Reader" (zsX j)) (Term.string "PooledWaves$Reader" (zsX i)))) ∈ flatC (Jvm.Cond.and given_1 narrow_1)) i hi j hj hij
      exact hz.imp (fun z => hfl _ z) (fun z => hfl _ z)) hA
  -- the static that is only handed on
  obtain ⟨sv, hsv1, hsv2⟩ := Cond.isRef_spec (args := #[Value.ref b]) (first := s) (o := none) (s := s) (idx := []) (t := Term.static "jdk/internal/util/Preconditions" "SIOOBE_FORMATTER" "Ljava/util/function/BiFunction;") (hfl _ (by decide +kernel))
  have hsv : sv = .null ∨ ∃ x, sv = .ref x := by
    cases sv with
    | null => exact Or.inl rfl
    | ref x => exact Or.inr ⟨x, rfl⟩
    | _ => cases hsv2
  have hz12 : va_Z (zsN 1200).1 (zsN 1200).2.1 (zsN 1200).2.2 sv (fun q : Nat => s.heap.size ≤ q) s s.heap := va_Zof (htt _ (by decide +kernel)) (htt _ (by decide +kernel)) hsv1 hA
  have hz1 : va_Z (zsN (-1)).1 (zsN (-1)).2.1 (zsN (-1)).2.2 (.int 1) (fun q : Nat => s.heap.size ≤ q) s s.heap := va_Zof (htt _ (by decide +kernel)) (htt _ (by decide +kernel)) (va_eqi (hfl _ (by decide +kernel))) hA
  have h9 : zO9 (at9 900) (zI0 xs 900) (fun q : Nat => s.heap.size ≤ q) s s.heap := by
    obtain ⟨q1, ⟨cell, t1, t2, t3, t4, t5, t6, t7⟩, q3⟩ := hat9 900 (Or.inl rfl)
    obtain ⟨a, cl, cell2, k2, g1, g2, g3, g4, g5, g6, _⟩ := Cond.exactly_spec (args := #[Value.ref b]) (first := s) (o := none) (s := s) (idx := []) (t := Term.static "PooledWaves" "SETTING_AT_FIRST" "[I") (cls := "[I") (hfl _ (by decide +kernel))
    cases Value.ref.inj (Option.some.inj (q1.symm.trans g1))
    cases t1.symm.trans g3
    have hlen : (Term.length (Term.static "PooledWaves" "SETTING_AT_FIRST" "[I")).eval #[Value.ref b] s none [] s = some (.int 5) := va_eqt (hfl _ (by decide +kernel))
    obtain ⟨t', cell', ht', hat', hv'⟩ := Term.length_spec hlen
    cases Value.ref.inj (Option.some.inj (q1.symm.trans ht'))
    obtain ⟨hc', _, _, _⟩ := State.arrayAt?_spec hat'
    cases t1.symm.trans hc'
    have hsz : cell.slots.size = 5 := (nI_eq (a := cell.slots.size) (b := 5) (zlen_lt hlen ht' hat') (by decide)).mp t5
    exact ⟨cell, t1, g5, t3, by rw [g6]; exact g2, hsz, t6, t7⟩
  obtain ⟨ad, had⟩ : ∃ ad : Nat → Nat, ad 899 = b ∧ (∀ k, k = 900 ∨ k = 901 ∨ k = 902 → ad k = at9 k) ∧ (∀ k, k < 6 → ad (1000 + k) = adK k) ∧ ∀ k, k < 6 → ad (1100 + k) = adV k := by
    refine ⟨fun x => if x = 899 then b else if x < 1000 then at9 x else if x < 1100 then adK (x - 1000) else adV (x - 1100), rfl, fun k hk => ?_, fun k hk => ?_, fun k hk => ?_⟩
    · show (if k = 899 then b else if k < 1000 then at9 k else if k < 1100 then adK (k - 1000) else adV (k - 1100)) = at9 k
      rw [if_neg (by omega), if_pos (by omega)]
    · show (if 1000 + k = 899 then b else if 1000 + k < 1000 then at9 (1000 + k) else if 1000 + k < 1100 then adK (1000 + k - 1000) else adV (1000 + k - 1100)) = adK k
      rw [if_neg (by omega), if_neg (by omega), if_pos (by omega), show 1000 + k - 1000 = k by omega]
    · show (if 1100 + k = 899 then b else if 1100 + k < 1000 then at9 (1100 + k) else if 1100 + k < 1100 then adK (1100 + k - 1000) else adV (1100 + k - 1100)) = adV k
      rw [if_neg (by omega), if_neg (by omega), if_neg (by omega), show 1100 + k - 1100 = k by omega]
  have hro : zRO (fun q : Nat => s.heap.size ≤ q) ad sv s s.heap (zh0 L xs) := by
    refine ⟨?_, fun k hk => ?_, hz1, hz12, fun k hk => ?_, fun w hw => ?_, va_AO.of (htt (Cond.arrayOver (.object "PooledWaves$Player")) (by decide +kernel)), va_AO.of (htt (Cond.arrayOver (.object "PooledWaves$Sheet")) (by decide +kernel)), by rw [had.2.1 900 (Or.inl rfl)]; exact h9⟩
    · rw [had.1]
      obtain ⟨scr, x1, x2, x3, x4, x5⟩ := hX
      refine ⟨scr, x1, x2, x3, by show L ≤ _; omega, by rw [x4]; rfl, fun j hj => ?_, by omega⟩
      rw [x5 j hj]
      show _ = some (Value.int (Int32.ofInt (xs ((j : Int)).toNat).toInt))
      rw [Int32.ofInt_toInt]
      rfl
    · rw [had.2.1 k hk]
      exact (hat9 k hk).2
    · rw [had.2.2.1 k hk, had.2.2.2 k hk]
      obtain ⟨b1, b2, b3, b4⟩ := hSt.1 k hk
      refine ⟨b1, ?_, b3, ?_, ?_, htt _ ((by decide +kernel : ∀ k : Nat, k < 6 → Cond.stringRef "PooledWaves$Reader" (zsX k) (zsT k) ∈ tables_1) k hk), hSe k hk⟩
      · have e1 : (zh0 L xs).1 (1000 + k) 1 = 0 := by
          show zI0 xs (1000 + k) ((1 : Nat) : Int) = 0
          rw [zI0_ro xs (by omega)]
          have e2 : zroL (1000 + k) = [] := by unfold zroL; rw [if_neg (by omega), if_neg (by omega), if_neg (by omega), if_neg (by omega)]
          rw [e2]
          rfl
        rw [e1]
        exact b2
      · have e1 : ∀ j : Nat, Int32.ofInt ((zh0 L xs).1 (1100 + k) j) = ((zsbyt.map (fun l => l.map Int32.ofInt)).getD k []).getD j 0 := by
          intro j
          show Int32.ofInt (zI0 xs (1100 + k) j) = _
          rw [zI0_ro xs (by omega)]
          have e2 : zroL (1100 + k) = zsbyt.getD k [] := by unfold zroL; rw [if_neg (by omega), if_neg (by omega), if_neg (by omega), if_pos (by omega), show 1100 + k - 1100 = k by omega]
          rw [e2]
          have hd : k = 0 ∨ k = 1 ∨ k = 2 ∨ k = 3 ∨ k = 4 ∨ k = 5 := by omega
          have gen : ∀ l : List Int, Int32.ofInt (l.getD j 0) = (l.map Int32.ofInt).getD j 0 := fun l => by
            rw [List.getD_eq_getElem?_getD, List.getD_eq_getElem?_getD, List.getElem?_map]
            cases l[j]? <;> rfl
          rcases hd with rfl | rfl | rfl | rfl | rfl | rfl <;> exact gen _
        simp only [e1]
        exact b4
      · exact (zh0_R L xs).2 k hk
    · have h2 := (List.mem_filter.mp hw).1
      have h3 := (List.mem_filter.mp hw).2
      have h4 := hts w h2
      cases w <;> first | (cases h3; done) | exact va_Nw.of rfl h4
  have hNP : zNP = 103 := rfl
  have h103 := zsl_103
  have hm2 := zsl_mono (show hf.2.2.1 ≤ 103 from hkp.2.1)
  have cx : zCx p room_1 s m #[Value.ref b] meth c (fun k => (dq k).1, fun k => (dq k).2) cs (fun q : Nat => s.heap.size ≤ q) sv 217 0 hf.2.2.1 :=
    ⟨hx, hb, hml, hown, htz, hlocks, fun z => (by cases z), Nat.le_refl _, Nat.le_refl _, by have := hkp.2.1; show hf.2.2.1 - 0 ≤ 600000; omega, by show zsl hf.2.2.1 - zsl 0 ≤ 7302250; omega, hK, hsv, fun _ h => h⟩
  have hsvc : sv.category = 1 := zsvc cx
  have key := zsound l n 217 0 (zin0 217 [vR 899]) [] (zh0 L xs) _ hf hev p e room_1 s m #[Value.ref b] below meth c (lw_Z below #[Value.ref b] s) (fun k => (dq k).1, fun k => (dq k).2) cs (fun q : Nat => s.heap.size ≤ q) sv 0 ad cx ?_
  · have hsl := zin0_lr (ad := ad) hsvc (d := 217) (as := [vR 899]) (by intro v hv; rw [List.mem_singleton.mp hv]; rfl) (by decide +kernel)
    have e1 : ([vR 899] : List zV).map (zcv ad sv) = [Value.ref b] := by
      show [zcv ad sv (vR 899)] = _
      rw [zcv_p (by omega) (by omega), had.1]
    rw [e1] at hsl
    rw [lg_entry_eq]
    have k := key ad s.heap [] _ ⟨fun k q hq => (by cases hq), ⟨fun i j x y hi => (by cases hi), fun k q hq => (by cases hq)⟩, va_S.rf, zh0_I L xs, zh0_R L xs, Nat.zero_le _, hro⟩ hsl (zin0_len (by decide +kernel)) (zin0_mem trivial (by intro v hv; rw [List.mem_singleton.mp hv]; exact Or.inr (by omega))) (fun _ => zin0_mem rfl (by intro v hv; rw [List.mem_singleton.mp hv]; rfl)) (fun v hv => (by cases hv)) (Nat.le_refl _) (fun _ _ => rfl)
    exact k
  · intro pc i ad' H locs ls hdc hi hw hn0 _
    rcases hi with ⟨_, _, z⟩ | ⟨rfl, a, ty, ha, hret, ra, hnar⟩
    · cases z
    · cases ha
      refine va_forget (fun q hq => hw.2.2.1.2.2 q hq) ?_
      refine W.widen (k := 600000) (n := 7302250) (by have := hkp.2.1; omega) (by omega) ?_
      exact lw_ret hx hb hr hlocks hdc
