/-! ===== the machine as equations ===== -/
section XR
variable {m pc : Nat} {L st : List zV} {h : zH}
theorem zact_eq {i : Instr} {len : Nat} (hl : ziln i = len) : zact m i pc len L st h = zac0 m i pc len L st h := if_pos (Or.inr hl)
theorem xIconst {a : Int} (hd : decode (zb m) pc = .ok (.iconst a, 1)) (hr : (-1 ≤ a ∧ a ≤ 5) := by decide) : zX m pc L st h = zX m (pc + 1) L (vI a :: st) h := zX_go hd ((zact_eq rfl).trans (if_pos hr))
theorem xBipush {a : Int} (hd : decode (zb m) pc = .ok (.bipush a, 2)) (hr : (-128 ≤ a ∧ a < 128) := by decide) : zX m pc L st h = zX m (pc + 2) L (vI a :: st) h := zX_go hd ((zact_eq rfl).trans (if_pos hr))
theorem xSipush {a : Int} (hd : decode (zb m) pc = .ok (.sipush a, 3)) (hr : (-32768 ≤ a ∧ a < 32768) := by decide) : zX m pc L st h = zX m (pc + 3) L (vI a :: st) h := zX_go hd ((zact_eq rfl).trans (if_pos hr))
theorem xLconst {a : Fin 2} (hd : decode (zb m) pc = .ok (.lconst a, 1)) : zX m pc L st h = zX m (pc + 1) L (vL ((a : Nat) : Int) :: st) h := zX_go hd rfl
theorem xNull (hd : decode (zb m) pc = .ok (.aconst_null, 1)) : zX m pc L st h = zX m (pc + 1) L (vR 0 :: st) h := zX_go hd rfl
theorem xIload {k : Nat} {a : Int} (hd : decode (zb m) pc = .ok (.iload k, 2)) (hl : L[k]? = some (vI a)) : zX m pc L st h = zX m (pc + 2) L (vI a :: st) h := zX_go hd (by show zldI k (pc + 2) L st h = _; unfold zldI; rw [hl])
theorem xIload_n {k : Fin 4} {a : Int} (hd : decode (zb m) pc = .ok (.iload_n k, 1)) (hl : L[(k : Nat)]? = some (vI a)) : zX m pc L st h = zX m (pc + 1) L (vI a :: st) h := zX_go hd (by show zldI k (pc + 1) L st h = _; unfold zldI; rw [hl])
theorem xLload {k : Nat} {a : Int} (hd : decode (zb m) pc = .ok (.lload k, 2)) (hl : L[k]? = some (vL a)) : zX m pc L st h = zX m (pc + 2) L (vL a :: st) h := zX_go hd (by show zldL k (pc + 2) L st h = _; unfold zldL; rw [hl])
theorem xLload_n {k : Fin 4} {a : Int} (hd : decode (zb m) pc = .ok (.lload_n k, 1)) (hl : L[(k : Nat)]? = some (vL a)) : zX m pc L st h = zX m (pc + 1) L (vL a :: st) h := zX_go hd (by show zldL k (pc + 1) L st h = _; unfold zldL; rw [hl])
theorem xAload {k : Nat} {a : Nat} (hd : decode (zb m) pc = .ok (.aload k, 2)) (hl : L[k]? = some (vR a)) : zX m pc L st h = zX m (pc + 2) L (vR a :: st) h := zX_go hd (by show zldR k (pc + 2) L st h = _; unfold zldR; rw [hl])
theorem xAload_n {k : Fin 4} {a : Nat} (hd : decode (zb m) pc = .ok (.aload_n k, 1)) (hl : L[(k : Nat)]? = some (vR a)) : zX m pc L st h = zX m (pc + 1) L (vR a :: st) h := zX_go hd (by show zldR k (pc + 1) L st h = _; unfold zldR; rw [hl])
theorem xIstore {k : Nat} {a : Int} {L' : List zV} (hd : decode (zb m) pc = .ok (.istore k, 2)) (hk : (Nat.ble (k + 1) L.length && zsO m L k) = true) (hl : L.set k (vI a) = L') : zX m pc L (vI a :: st) h = zX m (pc + 2) L' st h := zX_go hd (by
  rw [Bool.and_eq_true] at hk
  show (if k < L.length ∧ zsO m L k = true then zgo (pc + 2) (L.set k (vI a)) st h else zno) = _
  rw [if_pos ⟨Nat.le_of_ble_eq_true hk.1, hk.2⟩, hl])
theorem xIstore_n {k : Fin 4} {a : Int} {L' : List zV} (hd : decode (zb m) pc = .ok (.istore_n k, 1)) (hk : (Nat.ble ((k : Nat) + 1) L.length && zsO m L k) = true) (hl : L.set k (vI a) = L') : zX m pc L (vI a :: st) h = zX m (pc + 1) L' st h := zX_go hd (by
  rw [Bool.and_eq_true] at hk
  show (if (k : Nat) < L.length ∧ zsO m L k = true then zgo (pc + 1) (L.set k (vI a)) st h else zno) = _
  rw [if_pos ⟨Nat.le_of_ble_eq_true hk.1, hk.2⟩, hl])
theorem xAstore {k : Nat} {a : Nat} {L' : List zV} (hd : decode (zb m) pc = .ok (.astore k, 2)) (hk : (Nat.ble (k + 1) L.length && zsO m L k) = true) (hl : L.set k (vR a) = L') : zX m pc L (vR a :: st) h = zX m (pc + 2) L' st h := zX_go hd (by
  rw [Bool.and_eq_true] at hk
  show (if k < L.length ∧ zsO m L k = true then zgo (pc + 2) (L.set k (vR a)) st h else zno) = _
  rw [if_pos ⟨Nat.le_of_ble_eq_true hk.1, hk.2⟩, hl])
theorem xAstore_n {k : Fin 4} {a : Nat} {L' : List zV} (hd : decode (zb m) pc = .ok (.astore_n k, 1)) (hk : (Nat.ble ((k : Nat) + 1) L.length && zsO m L k) = true) (hl : L.set k (vR a) = L') : zX m pc L (vR a :: st) h = zX m (pc + 1) L' st h := zX_go hd (by
  rw [Bool.and_eq_true] at hk
  show (if (k : Nat) < L.length ∧ zsO m L k = true then zgo (pc + 1) (L.set k (vR a)) st h else zno) = _
  rw [if_pos ⟨Nat.le_of_ble_eq_true hk.1, hk.2⟩, hl])
theorem xLstore {k : Nat} {a : Int} {L' : List zV} (hd : decode (zb m) pc = .ok (.lstore k, 2)) (hk : (Nat.ble (k + 2) L.length && zhl m && zsO m L k) = true) (hl : (L.set k (vL a)).set (k + 1) none = L') : zX m pc L (vL a :: st) h = zX m (pc + 2) L' st h := zX_go hd (by
  rw [Bool.and_eq_true, Bool.and_eq_true] at hk
  show (if k + 1 < L.length ∧ zhl m = true ∧ zsO m L k = true then zgo (pc + 2) ((L.set k (vL a)).set (k + 1) none) st h else zno) = _
  rw [if_pos ⟨Nat.le_of_ble_eq_true hk.1.1, hk.1.2, hk.2⟩, hl])
theorem xIinc {k : Nat} {n a : Int} {L' : List zV} (hd : decode (zb m) pc = .ok (.iinc k n, 3)) (hg : L[k]? = some (vI a)) (hk : zsO m L k = true) (hl : L.set k (vI (wr (a + n))) = L') : zX m pc L st h = zX m (pc + 3) L' st h := zX_go hd (by
  show zinc m k n (pc + 3) L st h = _
  unfold zinc
  rw [hg]
  show (if zsO m L k = true then zgo (pc + 3) (L.set k (vI (wr (a + n)))) st h else zno) = _
  rw [if_pos hk, hl])
theorem xIadd {a b : Int} (hd : decode (zb m) pc = .ok (.iadd, 1)) : zX m pc L (vI b :: vI a :: st) h = zX m (pc + 1) L (vI (wr (a + b)) :: st) h := zX_go hd rfl
theorem xIsub {a b : Int} (hd : decode (zb m) pc = .ok (.isub, 1)) : zX m pc L (vI b :: vI a :: st) h = zX m (pc + 1) L (vI (wr (a - b)) :: st) h := zX_go hd rfl
theorem xImul {a b : Int} (hd : decode (zb m) pc = .ok (.imul, 1)) : zX m pc L (vI b :: vI a :: st) h = zX m (pc + 1) L (vI (wr (a * b)) :: st) h := zX_go hd rfl
theorem xIdiv {a b : Int} (hd : decode (zb m) pc = .ok (.idiv, 1)) (hb : b ≠ 0) : zX m pc L (vI b :: vI a :: st) h = zX m (pc + 1) L (vI (wr (a.tdiv b)) :: st) h := zX_go hd (by show (if b = 0 then zno else _) = _; rw [if_neg hb])
theorem xIrem {a b : Int} (hd : decode (zb m) pc = .ok (.irem, 1)) (hb : b ≠ 0) : zX m pc L (vI b :: vI a :: st) h = zX m (pc + 1) L (vI (a.tmod b) :: st) h := zX_go hd (by show (if b = 0 then zno else _) = _; rw [if_neg hb])
theorem xIand {a b : Int} (hd : decode (zb m) pc = .ok (.iand, 1)) : zX m pc L (vI b :: vI a :: st) h = zX m (pc + 1) L (vI (w2 (· &&& ·) a b) :: st) h := zX_go hd rfl
theorem xIor {a b : Int} (hd : decode (zb m) pc = .ok (.ior, 1)) : zX m pc L (vI b :: vI a :: st) h = zX m (pc + 1) L (vI (w2 (· ||| ·) a b) :: st) h := zX_go hd rfl
theorem xIxor {a b : Int} (hd : decode (zb m) pc = .ok (.ixor, 1)) : zX m pc L (vI b :: vI a :: st) h = zX m (pc + 1) L (vI (w2 (· ^^^ ·) a b) :: st) h := zX_go hd rfl
theorem xIshl {a b : Int} (hd : decode (zb m) pc = .ok (.ishl, 1)) : zX m pc L (vI b :: vI a :: st) h = zX m (pc + 1) L (vI (w2 (fun a b => a <<< (b &&& 31)) a b) :: st) h := zX_go hd rfl
theorem xIshr {a b : Int} (hd : decode (zb m) pc = .ok (.ishr, 1)) : zX m pc L (vI b :: vI a :: st) h = zX m (pc + 1) L (vI (w2 (fun a b => a >>> (b &&& 31)) a b) :: st) h := zX_go hd rfl
theorem xIushr {a b : Int} (hd : decode (zb m) pc = .ok (.iushr, 1)) : zX m pc L (vI b :: vI a :: st) h = zX m (pc + 1) L (vI (w2 zusr a b) :: st) h := zX_go hd rfl
theorem xI2l {a : Int} (hd : decode (zb m) pc = .ok (.i2l, 1)) : zX m pc L (vI a :: st) h = zX m (pc + 1) L (vL a :: st) h := zX_go hd rfl
theorem xL2i {a : Int} (hd : decode (zb m) pc = .ok (.l2i, 1)) : zX m pc L (vL a :: st) h = zX m (pc + 1) L (vI (wr a) :: st) h := zX_go hd rfl
theorem xI2b {a : Int} (hd : decode (zb m) pc = .ok (.i2b, 1)) : zX m pc L (vI a :: st) h = zX m (pc + 1) L (vI (wb a) :: st) h := zX_go hd rfl
theorem xI2c {a : Int} (hd : decode (zb m) pc = .ok (.i2c, 1)) : zX m pc L (vI a :: st) h = zX m (pc + 1) L (vI (wc a) :: st) h := zX_go hd rfl
theorem xLadd {a b : Int} (hd : decode (zb m) pc = .ok (.ladd, 1)) : zX m pc L (vL b :: vL a :: st) h = zX m (pc + 1) L (vL (wl (a + b)) :: st) h := zX_go hd rfl
theorem xLcmp {a b : Int} (hd : decode (zb m) pc = .ok (.lcmp, 1)) : zX m pc L (vL b :: vL a :: st) h = zX m (pc + 1) L (vI (if a < b then -1 else if a = b then 0 else 1) :: st) h := zX_go hd rfl
theorem xDup {w : Int ⊕ Int ⊕ Nat} (hd : decode (zb m) pc = .ok (.dup, 1)) (hc : zcat (some w) = 1) : zX m pc L (some w :: st) h = zX m (pc + 1) L (some w :: some w :: st) h := zX_go hd (by show (if zcat (some w) = 1 ∧ (some w).isSome = true then _ else zno) = _; rw [if_pos ⟨hc, rfl⟩])
theorem xDup2 {w u : Int ⊕ Int ⊕ Nat} (hd : decode (zb m) pc = .ok (.dup2, 1)) (hc : zcat (some w) = 1) (hc2 : zcat (some u) = 1) : zX m pc L (some w :: some u :: st) h = zX m (pc + 1) L (some w :: some u :: some w :: some u :: st) h := zX_go hd (by show (if zcat (some w) = 1 ∧ zcat (some u) = 1 ∧ (some w).isSome = true ∧ (some u).isSome = true then _ else zno) = _; rw [if_pos ⟨hc, hc2, rfl, rfl⟩])
theorem xPop {w : Int ⊕ Int ⊕ Nat} (hd : decode (zb m) pc = .ok (.pop, 1)) (hc : zcat (some w) = 1) : zX m pc L (some w :: st) h = zX m (pc + 1) L st h := zX_go hd (by show (if zcat (some w) = 1 ∧ (some w).isSome = true then _ else zno) = _; rw [if_pos ⟨hc, rfl⟩])
theorem xGoto {off : Int} {t : Nat} (hd : decode (zb m) pc = .ok (.goto off, 3)) (ht : (pc : Int) + off = (t : Int)) : zX m pc L st h = zX m t L st h := zX_go hd (by
  show zjmp pc off L st h = _
  unfold zjmp
  rw [if_pos (by omega), ht]
  rfl)
theorem zact_if {c : ClassFile.Cond} {off a : Int} {t : Nat} (ht : (pc : Int) + off = (t : Int)) : zact m (.ifCond c off) pc 3 L (vI a :: st) h = if zcnd c a 0 = true then zgo t L st h else zgo (pc + 3) L st h := by
  show (if 0 ≤ (pc : Int) + off then (if zcnd c a 0 = true then zgo ((pc : Int) + off).toNat L st h else zgo (pc + 3) L st h) else zno) = _
  rw [if_pos (by omega), ht]
  rfl
theorem zact_icmp {c : ClassFile.Cond} {off a b : Int} {t : Nat} (ht : (pc : Int) + off = (t : Int)) : zact m (.if_icmp c off) pc 3 L (vI b :: vI a :: st) h = if zcnd c a b = true then zgo t L st h else zgo (pc + 3) L st h := by
  show (if 0 ≤ (pc : Int) + off then (if zcnd c a b = true then zgo ((pc : Int) + off).toNat L st h else zgo (pc + 3) L st h) else zno) = _
  rw [if_pos (by omega), ht]
  rfl
theorem zX_br {bb : Bool} {t u : Nat} {L' st' : List zV} {i : Instr} {len : Nat} (hd : decode (zb m) pc = .ok (i, len)) (ha : zact m i pc len L st h = if bb = true then zgo t L' st' h else zgo u L' st' h) : zX m pc L st h = if bb = true then zX m t L' st' h else zX m u L' st' h := by
  cases bb
  · exact zX_go hd ha
  · exact zX_go hd ha
theorem xIfEq {off a : Int} {t : Nat} (hd : decode (zb m) pc = .ok (.ifCond .eq off, 3)) (ht : (pc : Int) + off = (t : Int)) : zX m pc L (vI a :: st) h = if a = 0 then zX m t L st h else zX m (pc + 3) L st h := by
  rw [zX_br hd (zact_if ht)]; simp only [zcnd, decide_eq_true_eq]
theorem xIfNe {off a : Int} {t : Nat} (hd : decode (zb m) pc = .ok (.ifCond .ne off, 3)) (ht : (pc : Int) + off = (t : Int)) : zX m pc L (vI a :: st) h = if a = 0 then zX m (pc + 3) L st h else zX m t L st h := by
  rw [zX_br hd (zact_if ht)]; simp only [zcnd, decide_eq_true_eq, ne_eq, ite_not]
theorem xIfLt {off a : Int} {t : Nat} (hd : decode (zb m) pc = .ok (.ifCond .lt off, 3)) (ht : (pc : Int) + off = (t : Int)) : zX m pc L (vI a :: st) h = if a < 0 then zX m t L st h else zX m (pc + 3) L st h := by
  rw [zX_br hd (zact_if ht)]; simp only [zcnd, decide_eq_true_eq]
theorem xIfGe {off a : Int} {t : Nat} (hd : decode (zb m) pc = .ok (.ifCond .ge off, 3)) (ht : (pc : Int) + off = (t : Int)) : zX m pc L (vI a :: st) h = if 0 ≤ a then zX m t L st h else zX m (pc + 3) L st h := by
  rw [zX_br hd (zact_if ht)]; simp only [zcnd, decide_eq_true_eq]
theorem xIfGt {off a : Int} {t : Nat} (hd : decode (zb m) pc = .ok (.ifCond .gt off, 3)) (ht : (pc : Int) + off = (t : Int)) : zX m pc L (vI a :: st) h = if 0 < a then zX m t L st h else zX m (pc + 3) L st h := by
  rw [zX_br hd (zact_if ht)]; simp only [zcnd, decide_eq_true_eq]
theorem xIfLe {off a : Int} {t : Nat} (hd : decode (zb m) pc = .ok (.ifCond .le off, 3)) (ht : (pc : Int) + off = (t : Int)) : zX m pc L (vI a :: st) h = if a ≤ 0 then zX m t L st h else zX m (pc + 3) L st h := by
  rw [zX_br hd (zact_if ht)]; simp only [zcnd, decide_eq_true_eq]
theorem xIcmpEq {off a b : Int} {t : Nat} (hd : decode (zb m) pc = .ok (.if_icmp .eq off, 3)) (ht : (pc : Int) + off = (t : Int)) : zX m pc L (vI b :: vI a :: st) h = if a = b then zX m t L st h else zX m (pc + 3) L st h := by
  rw [zX_br hd (zact_icmp ht)]; simp only [zcnd, decide_eq_true_eq]
theorem xIcmpNe {off a b : Int} {t : Nat} (hd : decode (zb m) pc = .ok (.if_icmp .ne off, 3)) (ht : (pc : Int) + off = (t : Int)) : zX m pc L (vI b :: vI a :: st) h = if a = b then zX m (pc + 3) L st h else zX m t L st h := by
  rw [zX_br hd (zact_icmp ht)]; simp only [zcnd, decide_eq_true_eq, ne_eq, ite_not]
theorem xIcmpLt {off a b : Int} {t : Nat} (hd : decode (zb m) pc = .ok (.if_icmp .lt off, 3)) (ht : (pc : Int) + off = (t : Int)) : zX m pc L (vI b :: vI a :: st) h = if a < b then zX m t L st h else zX m (pc + 3) L st h := by
  rw [zX_br hd (zact_icmp ht)]; simp only [zcnd, decide_eq_true_eq]
theorem xIcmpGe {off a b : Int} {t : Nat} (hd : decode (zb m) pc = .ok (.if_icmp .ge off, 3)) (ht : (pc : Int) + off = (t : Int)) : zX m pc L (vI b :: vI a :: st) h = if b ≤ a then zX m t L st h else zX m (pc + 3) L st h := by
  rw [zX_br hd (zact_icmp ht)]; simp only [zcnd, decide_eq_true_eq]
theorem xIcmpGt {off a b : Int} {t : Nat} (hd : decode (zb m) pc = .ok (.if_icmp .gt off, 3)) (ht : (pc : Int) + off = (t : Int)) : zX m pc L (vI b :: vI a :: st) h = if b < a then zX m t L st h else zX m (pc + 3) L st h := by
  rw [zX_br hd (zact_icmp ht)]; simp only [zcnd, decide_eq_true_eq]
theorem xIcmpLe {off a b : Int} {t : Nat} (hd : decode (zb m) pc = .ok (.if_icmp .le off, 3)) (ht : (pc : Int) + off = (t : Int)) : zX m pc L (vI b :: vI a :: st) h = if a ≤ b then zX m t L st h else zX m (pc + 3) L st h := by
  rw [zX_br hd (zact_icmp ht)]; simp only [zcnd, decide_eq_true_eq]
theorem xIfnull0 {off : Int} {t : Nat} (hd : decode (zb m) pc = .ok (.ifnull off, 3)) (ht : (pc : Int) + off = (t : Int)) : zX m pc L (vR 0 :: st) h = zX m t L st h := zX_go hd (by
  show zjmp pc off L st h = _
  unfold zjmp
  rw [if_pos (by omega), ht]
  rfl)
theorem xIfnull1 {off : Int} {q : Nat} (hd : decode (zb m) pc = .ok (.ifnull off, 3)) (h0 : q ≠ 0) (h1 : q ≠ 1200) : zX m pc L (vR q :: st) h = zX m (pc + 3) L st h := zX_go hd (by
  show (if q = 0 then zjmp pc off L st h else if q = 1200 then zno else zgo (pc + 3) L st h) = _
  rw [if_neg h0, if_neg h1])
/-- a switch, as a row of questions -/
def zsw {α : Type} (ts : List (Int × Nat)) (td : Nat) (a : Int) (k : Nat → α) : α := match ts with
  | [] => k td
  | (v, t) :: r => if a = v then k t else zsw r td a k
def ztabOk (pc : Nat) (dflt lo hi : Int) (offs : Array Int) (ts : List (Int × Nat)) (td : Nat) : Bool := decide ((pc : Int) + dflt = (td : Int)) && decide (ts.map (fun q => q.1) = (List.range (hi - lo + 1).toNat).map (fun j : Nat => lo + (j : Int))) && decide (ts.map (fun q => (q.2 : Int)) = offs.toList.map (fun o => (pc : Int) + o)) && decide (lo ≤ hi)
theorem xTab {dflt lo hi a : Int} {offs : Array Int} {len : Nat} (ts : List (Int × Nat)) (td : Nat) (hd : decode (zb m) pc = .ok (.tableswitch dflt lo hi offs, len)) (hc : ztabOk pc dflt lo hi offs ts td = true) : zX m pc L (vI a :: st) h = zsw ts td a (fun t => zX m t L st h) := by
  unfold ztabOk at hc
  simp only [Bool.and_eq_true, decide_eq_true_eq] at hc
  obtain ⟨⟨⟨h1, h2⟩, h3⟩, h4⟩ := hc
  have ha : zact m (.tableswitch dflt lo hi offs) pc len L (vI a :: st) h = if a < lo ∨ hi < a then zjmp pc dflt L st h else (match offs[(a - lo).toNat]? with
    | some off => zjmp pc off L st h
    | none => zno) := rfl
  have key : ∀ (ts : List (Int × Nat)) (n : Int) (os : List Int), ts.map (fun q => q.1) = (List.range ts.length).map (fun j : Nat => n + (j : Int)) → ts.map (fun q => (q.2 : Int)) = os.map (fun o => (pc : Int) + o) → zsw ts td a (fun t => zX m t L st h) = if a < n ∨ n + ts.length ≤ a then zX m td L st h else (match os[(a - n).toNat]? with
    | some off => zX m ((pc : Int) + off).toNat L st h
    | none => none) := by
    intro ts
    induction ts with
    | nil =>
      intro n os _ _
      show zX m td L st h = _
      rw [if_pos (by simp; omega)]
    | cons q r ih =>
      intro n os g1 g2
      obtain ⟨v, t⟩ := q
      cases os with
      | nil => cases g2
      | cons o os =>
        have e1 : v = n := by
          have := congrArg (fun l => l[0]?) g1
          simp at this
          exact this
        have e2 : (t : Int) = (pc : Int) + o := by
          have := congrArg (fun l => l[0]?) g2
          simpa using this
        have g1' : r.map (fun q => q.1) = (List.range r.length).map (fun j : Nat => (n + 1) + (j : Int)) := by
          apply List.ext_getElem?
          intro j
          have := congrArg (fun l => l[j + 1]?) g1
          simp only [List.map_cons, List.getElem?_cons_succ, List.length_cons] at this
          rw [this, List.getElem?_map, List.getElem?_map]
          by_cases hj : j < r.length
          · rw [List.getElem?_range (by omega), List.getElem?_range hj]
            simp
            omega
          · rw [List.getElem?_eq_none (by simp; omega), List.getElem?_eq_none (by simp; omega)]
            rfl
        have g2' : r.map (fun q => (q.2 : Int)) = os.map (fun o => (pc : Int) + o) := by
          simp only [List.map_cons] at g2
          exact (List.cons.inj g2).2
        have ih' := ih (n + 1) os g1' g2'
        show (if a = v then zX m t L st h else zsw r td a (fun t => zX m t L st h)) = _
        by_cases hav : a = v
        · rw [if_pos hav, if_neg (by simp; omega)]
          have e3 : (a - n).toNat = 0 := by omega
          rw [e3]
          show _ = zX m ((pc : Int) + o).toNat L st h
          rw [← e2]
          rfl
        · rw [if_neg hav, ih']
          by_cases hc : a < n + 1 ∨ n + 1 + (r.length : Int) ≤ a
          · rw [if_pos hc, if_pos (by simp; omega)]
          · rw [if_neg hc, if_neg (by simp; omega)]
            have e3 : (a - n).toNat = (a - (n + 1)).toNat + 1 := by omega
            rw [e3]
            rfl
  have hlen : (ts.length : Int) = hi - lo + 1 := by
    have := congrArg List.length h2
    simp at this
    omega
  have hk := key ts lo offs.toList (by rw [h2]; congr 2 <;> omega) h3
  rw [hk]
  by_cases hc : a < lo ∨ hi < a
  · rw [if_pos hc] at ha
    rw [if_pos (by omega)]
    refine zX_go hd ?_
    rw [ha]
    unfold zjmp
    rw [if_pos (by omega), h1]
    rfl
  · rw [if_neg hc] at ha
    rw [if_neg (by omega)]
    have hi2 : (a - lo).toNat < offs.toList.length := by
      have := congrArg List.length h3
      simp at this
      simp
      omega
    have e5 : offs[(a - lo).toNat]? = offs.toList[(a - lo).toNat]? := by simp
    rw [e5] at ha
    rw [List.getElem?_eq_getElem hi2] at ha ⊢
    simp only at ha ⊢
    have e6 : 0 ≤ (pc : Int) + offs.toList[(a - lo).toNat] := by
      have := congrArg (fun l => l[(a - lo).toNat]?) h3
      simp only [List.getElem?_map, List.getElem?_eq_getElem hi2, Option.map_some] at this
      cases ht : ts[(a - lo).toNat]? with
      | none => rw [ht] at this; cases this
      | some q =>
        rw [ht] at this
        have h9 : (q.2 : Int) = (pc : Int) + offs.toList[(a - lo).toNat] := Option.some.inj this
        omega
    refine zX_go hd ?_
    rw [ha]
    unfold zjmp
    rw [if_pos e6]
theorem xLook {dflt a : Int} {ps : Array (Int × Int)} {len : Nat} (ts : List (Int × Nat)) (td : Nat) (hd : decode (zb m) pc = .ok (.lookupswitch dflt ps, len)) (hc : (ps.toList.zip (ps.toList.drop 1)).all (fun (a, next) => a.1 < next.1) = true) (h1 : (pc : Int) + dflt = (td : Int)) (h2 : ts.map (fun q => (q.1, (q.2 : Int))) = ps.toList.map (fun q => (q.1, (pc : Int) + q.2))) : zX m pc L (vI a :: st) h = zsw ts td a (fun t => zX m t L st h) := by
  have ha : zact m (.lookupswitch dflt ps) pc len L (vI a :: st) h = if (ps.toList.zip (ps.toList.drop 1)).all (fun (a, next) => a.1 < next.1) = true then zjmp pc (Op.lookupswitch.offset ps.toList dflt a) L st h else zno := rfl
  rw [if_pos hc] at ha
  have key : ∀ (ts : List (Int × Nat)) (os : List (Int × Int)), ts.map (fun q => (q.1, (q.2 : Int))) = os.map (fun q => (q.1, (pc : Int) + q.2)) → zsw ts td a (fun t => zX m t L st h) = zX m ((pc : Int) + Op.lookupswitch.offset os dflt a).toNat L st h ∧ 0 ≤ (pc : Int) + Op.lookupswitch.offset os dflt a := by
    intro ts
    induction ts with
    | nil =>
      intro os g
      cases os with
      | nil =>
        have e1 : Op.lookupswitch.offset [] dflt a = dflt := rfl
        rw [e1, h1]
        exact ⟨rfl, by omega⟩
      | cons o os => cases g
    | cons q r ih =>
      intro os g
      cases os with
      | nil => cases g
      | cons o os =>
        obtain ⟨v, t⟩ := q
        obtain ⟨o1, o2⟩ := o
        simp only [List.map_cons] at g
        obtain ⟨g1, g2⟩ := List.cons.inj g
        obtain ⟨g3, g4⟩ := Prod.mk.inj g1
        have g3 : v = o1 := g3
        have g4 : (t : Int) = (pc : Int) + o2 := g4
        obtain ⟨i1, i2⟩ := ih os g2
        show (if a = v then zX m t L st h else zsw r td a (fun t => zX m t L st h)) = _ ∧ _
        by_cases hav : a = v
        · have e1 : Op.lookupswitch.offset ((o1, o2) :: os) dflt a = o2 := by
            subst hav
            rw [← g3]
            simp [Op.lookupswitch.offset]
          rw [if_pos hav, e1, ← g4]
          exact ⟨rfl, by omega⟩
        · have e1 : Op.lookupswitch.offset ((o1, o2) :: os) dflt a = Op.lookupswitch.offset os dflt a := by
            have hne : ¬ a = o1 := fun z => hav (z.trans g3.symm)
            have hne2 : ¬ o1 = a := fun z => hne z.symm
            simp [Op.lookupswitch.offset, hne, hne2]
          rw [if_neg hav, e1]
          exact ⟨i1, i2⟩
  obtain ⟨k1, k2⟩ := key ts ps.toList h2
  rw [k1]
  refine zX_go hd ?_
  rw [ha]
  unfold zjmp
  rw [if_pos k2]
end XR
