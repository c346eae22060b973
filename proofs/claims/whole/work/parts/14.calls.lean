/-! ===== what a run keeps; calls ===== -/
theorem znar_b {a : Int} (h1 : -128 ≤ a) (h2 : a < 128) : narrow .byte (.int (Int32.ofInt a)) = .int (Int32.ofInt a) := by
  show Value.int ((Int32.ofInt a).toInt8.toInt32) = _
  congr 1
  apply Int32.toInt_inj.mp
  rw [Int8.toInt_toInt32, Int32.toInt_toInt8, zi_to ⟨by omega, by omega⟩, Int.bmod_def]
  split <;> omega
theorem znar_c {a : Int} (h1 : 0 ≤ a) (h2 : a < 65536) : narrow .char (.int (Int32.ofInt a)) = .int (Int32.ofInt a) := by
  show Value.int ((Int32.ofInt a).toUInt32.toUInt16.toUInt32.toInt32) = _
  congr 1
  obtain ⟨n, rfl⟩ : ∃ n : Nat, a = (n : Int) := ⟨a.toNat, by omega⟩
  rw [Int32.ofInt_eq_ofNat]
  apply Int32.toBitVec_inj.mp
  apply BitVec.eq_of_toNat_eq
  simp
  omega
/-- what is only read stays, cells don't go -/
def zkp (h h' : zH) : Prop := h.2.2.1 ≤ h'.2.2.1 ∧ h'.2.2.1 ≤ zNP ∧ h'.2.2.2 = h.2.2.2 ∧ ∀ p, 899 ≤ p → h'.1 p = h.1 p ∧ h'.2.1 p = h.2.1 p
theorem zkp.rf {h : zH} (hn : h.2.2.1 ≤ zNP) : zkp h h := ⟨Nat.le_refl _, hn, rfl, fun _ _ => ⟨rfl, rfl⟩⟩
theorem zkp.tr {a b c : zH} (h1 : zkp a b) (h2 : zkp b c) : zkp a c := ⟨Nat.le_trans h1.1 h2.1, h2.2.1, h2.2.2.1.trans h1.2.2.1, fun p hp => ⟨(h2.2.2.2 p hp).1.trans (h1.2.2.2 p hp).1, (h2.2.2.2 p hp).2.trans (h1.2.2.2 p hp).2⟩⟩
theorem zkp.wI {h : zH} (hn : h.2.2.1 ≤ zNP) {p : Nat} (hp : p ≤ h.2.2.1) {k x : Int} : zkp h (sI h.1 p k x, h.2) := by
  have hNP : zNP = 103 := rfl
  refine ⟨Nat.le_refl _, hn, rfl, fun q hq => ⟨?_, rfl⟩⟩
  funext j
  show sI h.1 p k x q j = h.1 q j
  unfold sI
  rw [if_neg (by omega)]
theorem zkp.wR {h : zH} (hn : h.2.2.1 ≤ zNP) {p : Nat} (hp : p ≤ h.2.2.1) {k : Int} {x : Nat} : zkp h (h.1, sR h.2.1 p k x, h.2.2) := by
  have hNP : zNP = 103 := rfl
  refine ⟨Nat.le_refl _, hn, rfl, fun q hq => ⟨rfl, ?_⟩⟩
  funext j
  show sR h.2.1 p k x q j = h.2.1 q j
  unfold sR
  rw [if_neg (by omega)]
theorem zkp.cp {h : zH} (hn : h.2.2.1 ≤ zNP) {a p : Nat} (hp : p ≤ h.2.2.1) {sp dp n : Int} : zkp h (zcpy h.1 a sp p dp n, h.2) := by
  have hNP : zNP = 103 := rfl
  refine ⟨Nat.le_refl _, hn, rfl, fun q hq => ⟨?_, rfl⟩⟩
  funext j
  show zcpy h.1 a sp p dp n q j = h.1 q j
  unfold zcpy
  rw [if_neg (by omega)]
theorem zkp.mk {h : zH} (hn : h.2.2.1 < zNP) : zkp h (zmk h) := by
  have hNP : zNP = 103 := rfl
  exact ⟨Nat.le_succ _, hn, rfl, fun q hq => ⟨zmk_1 (by omega), zmk_2 (by omega)⟩⟩
theorem zcall_go {m o idx pc k1 k2 : Nat} {L st : List zV} {h : zH} {q : Nat × List zV × List zV × zH} (ha : zcall m o idx pc k1 k2 L st h = .inl q) : ∃ k d, zml o idx = some (k, d) ∧
    ((k = 10 ∧ k2 = 3 ∧ ∃ x s1, st = vR x :: s1 ∧ (1 ≤ x ∧ x ≤ h.2.2.1 ∧ 1 ≤ zfr m ∧ (s1.map zcat).sum + 12 ≤ zlo m) ∧ q = (pc, L, s1, h)) ∨
     (k = 11 ∧ k1 = 1 ∧ ∃ n dp x sp y s1, st = vI n :: vI dp :: vR x :: vI sp :: vR y :: s1 ∧ ((zkd x).1 = 1 ∧ x ≤ h.2.2.1 ∧ (zkd y).1 = 1 ∧ y ≤ h.2.2.1 ∧ 0 ≤ n ∧ 0 ≤ dp ∧ 0 ≤ sp ∧ sp + n ≤ (zkd y).2 ∧ dp + n ≤ (zkd x).2 ∧ 1 ≤ zfr m ∧ (s1.map zcat).sum + 30 ≤ zlo m) ∧ q = (pc, L, s1, (zcpy h.1 y sp x dp n, h.2))) ∨
     (k = 12 ∧ k1 = 0 ∧ ∃ s1, st = vR 900 :: s1 ∧ (zkd (h.2.2.1 + 1) = (1, 5) ∧ h.2.2.1 < zNP ∧ 1 ≤ zfr m ∧ (s1.map zcat).sum + 30 ≤ zlo m) ∧ q = (pc, L, vR (h.2.2.1 + 1) :: s1, (zcpy (zmk h).1 900 0 (h.2.2.1 + 1) 0 5, (zmk h).2)))) := by
  unfold zcall at ha
  split at ha
  · rename_i k d hk
    refine ⟨k, d, hk, ?_⟩
    split at ha
    · split at ha
      · split at ha
        · cases ha
        · split at ha
          · split at ha
            · cases ha
            · cases ha
          · cases ha
      · cases ha
    · split at ha
      · rename_i h10
        split at ha
        · rename_i x s1
          split at ha
          · rename_i hc
            exact Or.inl ⟨h10.1, h10.2, x, s1, rfl, hc, (Sum.inl.inj ha).symm⟩
          · cases ha
        · cases ha
      · split at ha
        · rename_i h11
          split at ha
          · rename_i n dp x sp y s1
            split at ha
            · rename_i hc
              exact Or.inr (Or.inl ⟨h11.1, h11.2, n, dp, x, sp, y, s1, rfl, hc, (Sum.inl.inj ha).symm⟩)
            · cases ha
          · cases ha
        · split at ha
          · rename_i h12
            split at ha
            · rename_i x s1
              split at ha
              · rename_i hc
                obtain ⟨rfl, hc⟩ := hc
                exact Or.inr (Or.inr ⟨h12.1, h12.2, s1, rfl, hc, (Sum.inl.inj ha).symm⟩)
              · cases ha
            · cases ha
          · cases ha
  · cases ha
theorem zcall_call {m o idx pc k1 k2 : Nat} {L st : List zV} {h : zH} {d pc' : Nat} {as st' : List zV} (ha : zcall m o idx pc k1 k2 L st h = .inr (.inl (d, as, pc', st'))) : ∃ k, zml o idx = some (k, d) ∧ (k = k1 ∨ k = k2) ∧ zna d ≤ st.length ∧ d < 217 ∧ zfr d + 1 ≤ zfr m ∧ 8 + (zL d + 11) + zlo d ≤ zlo m ∧ ((st.drop (zna d)).map zcat).sum ≤ 8 ∧ (st.take (zna d)).all (fun v => v.isSome && (zhl d || znl v)) = true ∧ (zent as).length ≤ zL d ∧ as = (st.take (zna d)).reverse ∧ pc' = pc ∧ st' = st.drop (zna d) ∧ (k ≠ 1 → ∃ x rest, as = vR x :: rest ∧ ((zkd x = (0, zo d) ∧ x ≤ h.2.2.1) ∨ (zo d = 13 ∧ zkd x = (0, 20)))) := by
  unfold zcall at ha
  split at ha
  · rename_i k d' hk
    split at ha
    · rename_i hkk
      split at ha
      · rename_i hc
        obtain ⟨c1, c2, c3, c4, c5, c6, c7⟩ := hc
        split at ha
        · rename_i h1
          cases Sum.inl.inj (Sum.inr.inj ha)
          exact ⟨k, hk, hkk, c1, c2, c3, c4, c5, c6, c7, rfl, rfl, rfl, fun z => absurd h1 z⟩
        · split at ha
          · rename_i x rest hx
            split at ha
            · rename_i hr
              cases Sum.inl.inj (Sum.inr.inj ha)
              exact ⟨k, hk, hkk, c1, c2, c3, c4, c5, c6, c7, rfl, rfl, rfl, fun _ => ⟨x, rest, hx, hr⟩⟩
            · cases ha
          · cases ha
      · cases ha
    · split at ha
      · split at ha
        · split at ha
          · cases ha
          · cases ha
        · cases ha
      · split at ha
        · split at ha
          · split at ha
            · cases ha
            · cases ha
          · cases ha
        · split at ha
          · split at ha
            · split at ha
              · cases ha
              · cases ha
            · cases ha
          · cases ha
  · cases ha
set_option maxHeartbeats 2000000 in
theorem zac0_kp {m pc len : Nat} {i : Instr} {L st : List zV} {h : zH} {q : Nat × List zV × List zV × zH} (hn : h.2.2.1 ≤ zNP) (ha : zac0 m i pc len L st h = .inl q) : zkp h q.2.2.2 := by
  have hNP : zNP = 103 := rfl
  cases i <;> simp only [zac0] at ha
  case invokevirtual k =>
    obtain ⟨k, d, _, ⟨_, _, x, s1, _, _, rfl⟩ | ⟨_, _, n, dp, x, sp, y, s1, _, hc, rfl⟩ | ⟨_, _, s1, _, hc, rfl⟩⟩ := zcall_go ha
    · exact zkp.rf hn
    · exact zkp.cp hn hc.2.1
    · exact (zkp.mk hc.2.1).tr (zkp.cp (h := zmk h) hc.2.1 (Nat.le_refl _))
  case invokestatic k =>
    obtain ⟨k, d, _, ⟨_, _, x, s1, _, _, rfl⟩ | ⟨_, _, n, dp, x, sp, y, s1, _, hc, rfl⟩ | ⟨_, _, s1, _, hc, rfl⟩⟩ := zcall_go ha
    · exact zkp.rf hn
    · exact zkp.cp hn hc.2.1
    · exact (zkp.mk hc.2.1).tr (zkp.cp (h := zmk h) hc.2.1 (Nat.le_refl _))
  case invokespecial k =>
    obtain ⟨k, d, _, ⟨_, _, x, s1, _, _, rfl⟩ | ⟨_, _, n, dp, x, sp, y, s1, _, hc, rfl⟩ | ⟨_, _, s1, _, hc, rfl⟩⟩ := zcall_go ha
    · exact zkp.rf hn
    · exact zkp.cp hn hc.2.1
    · exact (zkp.mk hc.2.1).tr (zkp.cp (h := zmk h) hc.2.1 (Nat.le_refl _))
  case putfield k =>
    unfold zput at ha
    split at ha
    · split at ha
      · rename_i hc
        cases Sum.inl.inj ha
        exact zkp.wI hn hc.2.1
      · cases ha
    · split at ha
      · rename_i hc
        cases Sum.inl.inj ha
        exact zkp.wR hn hc.2.1
      · cases ha
    · cases ha
  case iastore =>
    unfold zast at ha
    split at ha
    · split at ha
      · rename_i hc
        cases Sum.inl.inj ha
        exact zkp.wI hn hc.2.1
      · cases ha
    · cases ha
  case bastore =>
    unfold zbast at ha
    split at ha
    · split at ha
      · rename_i hc
        split at ha
        · cases Sum.inl.inj ha
          exact zkp.wI hn hc.1
        · split at ha
          · cases Sum.inl.inj ha
            exact zkp.wI hn hc.1
          · cases ha
      · cases ha
    · cases ha
  case lastore =>
    unfold zlast at ha
    split at ha
    · split at ha
      · rename_i hc
        cases Sum.inl.inj ha
        exact zkp.wI hn hc.2.1
      · cases ha
    · cases ha
  case aastore =>
    unfold zaast at ha
    split at ha
    · split at ha
      · rename_i hc
        cases Sum.inl.inj ha
        exact zkp.wR hn hc.2.2.1
      · cases ha
    · cases ha
  case new k =>
    unfold znew at ha
    split at ha
    · split at ha
      · rename_i hc
        cases Sum.inl.inj ha
        exact zkp.mk hc.2
      · cases ha
    · cases ha
  case newarray k =>
    unfold znewa at ha
    split at ha
    · split at ha
      · rename_i hc
        cases Sum.inl.inj ha
        exact zkp.mk hc.2.2.2
      · cases ha
    · cases ha
  case anewarray k =>
    unfold zanew at ha
    split at ha
    · split at ha
      · rename_i hc
        cases Sum.inl.inj ha
        exact zkp.mk hc.2.2.2
      · cases ha
    · cases ha
  all_goals first
    | (cases ha; done)
    | (try simp only [zldI, zldL, zldR, zstI, zstR, zstJ, zinc, zbin, zdv, zjmp, zif, zicmp, zifnull, ztab, zlook, zget, zgst, zald, zlen, zrt] at ha
       repeat' split at ha
       all_goals first
         | (cases ha; done)
         | (cases Sum.inl.inj ha; exact zkp.rf hn))
theorem zac0_call {m pc len : Nat} {i : Instr} {L st : List zV} {h : zH} {x : Nat × List zV × Nat × List zV} (ha : zac0 m i pc len L st h = .inr (.inl x)) : ∃ idx k1 k2, zcall m (zo m) idx (pc + len) k1 k2 L st h = .inr (.inl x) ∧ (i = .invokevirtual idx ∧ k1 = 0 ∧ k2 = 0 ∨ i = .invokestatic idx ∧ k1 = 1 ∧ k2 = 1 ∨ i = .invokespecial idx ∧ k1 = 2 ∧ k2 = 3) := by
  cases i <;> simp only [zac0] at ha
  case invokevirtual k => exact ⟨k, 0, 0, ha, Or.inl ⟨rfl, rfl, rfl⟩⟩
  case invokestatic k => exact ⟨k, 1, 1, ha, Or.inr (Or.inl ⟨rfl, rfl, rfl⟩)⟩
  case invokespecial k => exact ⟨k, 2, 3, ha, Or.inr (Or.inr ⟨rfl, rfl, rfl⟩)⟩
  all_goals first
    | (cases ha; done)
    | (try simp only [zldI, zldL, zldR, zstI, zstR, zstJ, zinc, zbin, zdv, zjmp, zif, zicmp, zifnull, ztab, zlook, zget, zput, zgst, zald, zast, zbast, zlast, zaast, zlen, znew, znewa, zanew, zrt] at ha
       repeat' split at ha
       all_goals (cases ha; done))
theorem zac0_ret {m pc len : Nat} {i : Instr} {L st : List zV} {h : zH} {r : Option zV} (ha : zac0 m i pc len L st h = .inr (.inr (.inl r))) : (i = .return_ ∧ st = [] ∧ zret m = none ∧ r = none) ∨ (i = .ireturn ∧ ∃ a ty, st = [vI a] ∧ r = some (vI a) ∧ zret m = some ty ∧ (zRI a → narrow ty (.int (Int32.ofInt a)) = .int (Int32.ofInt a))) := by
  cases i <;> simp only [zac0] at ha
  case ireturn =>
    right
    refine ⟨rfl, ?_⟩
    unfold zrt at ha
    split at ha
    · rename_i a
      split at ha
      · rename_i hr
        cases Sum.inl.inj (Sum.inr.inj (Sum.inr.inj ha))
        exact ⟨a, _, rfl, rfl, hr, fun _ => rfl⟩
      · rename_i hr
        split at ha
        · rename_i hc
          cases Sum.inl.inj (Sum.inr.inj (Sum.inr.inj ha))
          exact ⟨a, _, rfl, rfl, hr, fun _ => by rcases hc with rfl | rfl <;> decide⟩
        · cases ha
      · rename_i hr
        split at ha
        · rename_i hc
          cases Sum.inl.inj (Sum.inr.inj (Sum.inr.inj ha))
          exact ⟨a, _, rfl, rfl, hr, fun ra => znar_c hc.1 hc.2⟩
        · cases ha
      · rename_i hr
        split at ha
        · rename_i hc
          cases Sum.inl.inj (Sum.inr.inj (Sum.inr.inj ha))
          exact ⟨a, _, rfl, rfl, hr, fun ra => znar_b hc.1 hc.2⟩
        · cases ha
      · cases ha
    · cases ha
  case return_ =>
    split at ha
    · rename_i hc
      cases Sum.inl.inj (Sum.inr.inj (Sum.inr.inj ha))
      exact Or.inl ⟨rfl, hc.1, hc.2, rfl⟩
    · cases ha
  case invokevirtual k =>
    exfalso
    unfold zcall at ha
    repeat' split at ha
    all_goals (cases ha; done)
  case invokestatic k =>
    exfalso
    unfold zcall at ha
    repeat' split at ha
    all_goals (cases ha; done)
  case invokespecial k =>
    exfalso
    unfold zcall at ha
    repeat' split at ha
    all_goals (cases ha; done)
  all_goals first
    | (cases ha; done)
    | (exfalso
       try simp only [zldI, zldL, zldR, zstI, zstR, zstJ, zinc, zbin, zdv, zjmp, zif, zicmp, zifnull, ztab, zlook, zget, zput, zgst, zald, zast, zbast, zlast, zaast, zlen, znew, znewa, zanew] at ha
       repeat' split at ha
       all_goals (cases ha; done))
theorem zact_inv {m pc len : Nat} {i : Instr} {L st : List zV} {h : zH} {y : zA} (hy : y ≠ zno) (ha : zact m i pc len L st h = y) : (ziln i = 0 ∨ ziln i = len) ∧ zac0 m i pc len L st h = y := by
  unfold zact at ha
  split at ha
  · rename_i hc
    exact ⟨hc, ha⟩
  · exact absurd ha.symm hy
theorem zev_kp : ∀ (n : Nat) {m pc : Nat} {L st : List zV} {h : zH} {o : Option zV × zH}, h.2.2.1 ≤ zNP → zev n m pc L st h = some o → zkp h o.2 := by
  intro n
  induction n with
  | zero => intro m pc L st h o hn e; cases e
  | succ n ih =>
    intro m pc L st h o hn e
    cases hd : decode (zb m) pc with
    | error z => rw [zev, hd] at e; cases e
    | ok q =>
      obtain ⟨i, len⟩ := q
      rw [zev_step hd] at e
      cases ha : zact m i pc len L st h with
      | inl q =>
        obtain ⟨pc', L', st', h'⟩ := q
        rw [ha] at e
        have h1 := zac0_kp hn (zact_inv (by simp) ha).2
        exact h1.tr (ih h1.2.1 e)
      | inr q =>
        cases q with
        | inl q =>
          obtain ⟨c, as, pc', st'⟩ := q
          rw [ha] at e
          simp only at e
          cases hc : zev n c 0 (zin0 c as) [] h with
          | none => rw [hc] at e; cases e
          | some r =>
            rw [hc] at e
            have h1 := ih hn hc
            exact h1.tr (ih h1.2.1 e)
        | inr q =>
          rw [ha] at e
          cases q with
          | inl r => cases e; exact zkp.rf hn
          | inr _ => cases e
