/-! ===== the abstract machine's cells over the heap ===== -/
abbrev zRI (a : Int) : Prop := -2147483648 ≤ a ∧ a ≤ 2147483647
abbrev zRL (a : Int) : Prop := -9223372036854775808 ≤ a ∧ a ≤ 9223372036854775807
theorem zi_to {a : Int} (h : zRI a) : (Int32.ofInt a).toInt = a := Int32.toInt_ofInt_of_le (by omega) (by omega)
theorem zl_to {a : Int} (h : zRL a) : (Int64.ofInt a).toInt = a := Int64.toInt_ofInt_of_le (by omega) (by omega)
theorem wr_id {a : Int} (h1 : -2147483648 ≤ a) (h2 : a ≤ 2147483647) : wr a = a := zi_to ⟨h1, h2⟩
theorem zt_RI (x : Int32) : zRI x.toInt := ⟨by have := x.le_toInt; omega, by have := x.toInt_lt; omega⟩
theorem zt_RL (x : Int64) : zRL x.toInt := ⟨by have := x.le_toInt; omega, by have := x.toInt_lt; omega⟩
theorem wr_RI (a : Int) : zRI (wr a) := zt_RI _
theorem zi_wr (a : Int) : Int32.ofInt (wr a) = Int32.ofInt a := by unfold wr; exact Int32.ofInt_toInt _
theorem w2_RI (f : Int32 → Int32 → Int32) (a b : Int) : zRI (w2 f a b) := zt_RI _
theorem zi_w2 (f : Int32 → Int32 → Int32) (a b : Int) : Int32.ofInt (w2 f a b) = f (Int32.ofInt a) (Int32.ofInt b) := by unfold w2; exact Int32.ofInt_toInt _
theorem zi_lt {a b : Int} (ha : zRI a) (hb : zRI b) : Int32.ofInt a < Int32.ofInt b ↔ a < b := by rw [Int32.lt_iff_toInt_lt, zi_to ha, zi_to hb]
theorem zi_le {a b : Int} (ha : zRI a) (hb : zRI b) : Int32.ofInt a ≤ Int32.ofInt b ↔ a ≤ b := by rw [Int32.le_iff_toInt_le, zi_to ha, zi_to hb]
theorem zi_eq {a b : Int} (ha : zRI a) (hb : zRI b) : Int32.ofInt a = Int32.ofInt b ↔ a = b := by rw [← Int32.toInt_inj, zi_to ha, zi_to hb]
theorem zi_0 : Int32.ofInt 0 = 0 := rfl
theorem zR0 : zRI 0 := ⟨by omega, by omega⟩
theorem zi_nat {a : Int} (h : zRI a) (h0 : 0 ≤ a) : (Int32.ofInt a).toNatClampNeg = a.toNat := by rw [← Int32.toNat_toInt, zi_to h]
theorem zi_in {a : Int} {n : Nat} (h : zRI a) (h0 : 0 ≤ a) (hn : a < n) : vp_in (Int32.ofInt a) n := by
  unfold vp_in
  rw [zi_nat h h0]
  rintro (q | q)
  · have := (zi_lt h zR0).mp (by rw [zi_0]; exact q)
    omega
  · omega
theorem zi_neg {a : Int} (h : zRI a) (h0 : 0 ≤ a) : ¬ Int32.ofInt a < 0 := fun q => by
  have := (zi_lt h zR0).mp (by rw [zi_0]; exact q)
  omega
theorem zi_div {a b : Int} (ha : zRI a) (hb : zRI b) : Int32.ofInt (wr (a.tdiv b)) = Int32.ofInt a / Int32.ofInt b := by
  rw [zi_wr]
  exact Int32.ofInt_tdiv ha.1 ha.2 hb.1 hb.2
theorem zi_rem {a b : Int} (ha : zRI a) (hb : zRI b) : Int32.ofInt (a.tmod b) = Int32.ofInt a - Int32.ofInt a / Int32.ofInt b * Int32.ofInt b := by
  rw [← zi_div ha hb, zi_wr, ← Int32.ofInt_mul, ← Int32.ofInt_sub]
  congr 1
  have := Int.tmod_add_mul_tdiv a b
  have h2 : b * a.tdiv b = a.tdiv b * b := Int.mul_comm _ _
  omega
theorem zi_remR {a b : Int} (ha : zRI a) : zRI (a.tmod b) := by
  have h := Int.natAbs_tmod a b
  have h2 : a.natAbs % b.natAbs ≤ a.natAbs := Nat.mod_le _ _
  rcases Int.le_total 0 a with q | q
  · have h3 := Int.tmod_nonneg b q
    omega
  · have h4 : a.tmod b ≤ 0 := by
      have h5 := Int.tmod_nonneg b (show 0 ≤ -a by omega)
      rw [Int.neg_tmod] at h5
      omega
    by_cases h6 : a = -2147483648
    · subst h6
      omega
    · omega
def zrfo (ad : Nat → Nat) (q : Nat) : Option Nat := if q = 0 then none else some (ad q)
def zcv (ad : Nat → Nat) (sv : Value) (v : zV) : Value := match v with
  | some (.inl a) => .int (Int32.ofInt a)
  | some (.inr (.inl a)) => .long (Int64.ofInt a)
  | some (.inr (.inr q)) => if q = 1200 then sv else va_rf (zrfo ad q)
  | none => .int 0
def zfv (ad : Nat → Nat) (h : zH) (p ci k : Nat) : Value := if zft ci k = 2 then va_rf (zrfo ad (h.2.1 p k)) else .int (Int32.ofInt (h.1 p k))
def zcell (cs : Nat → ClassId) (ad : Nat → Nat) (h : zH) (p : Nat) : va_E :=
  if (zkd p).1 = 0 then .inr ((zkd p).2, (List.range (znF (zkd p).2)).map (fun k => zfv ad h p (zkd p).2 k))
  else if (zkd p).1 ≤ 3 then .inl (cs (zkd p).1, (zkd p).2, .inl (fun j => Int32.ofInt (h.1 p j)))
  else if (zkd p).1 = 4 then .inl (cs 4, (zkd p).2, .inr (.inl (fun j => Int64.ofInt (h.1 p j))))
  else .inl (cs (zkd p).1, (zkd p).2, .inr (.inr (.inr (.inr (fun j => zrfo ad (h.2.1 p j))))))
def zws (cs : Nat → ClassId) (ad : Nat → Nat) (h : zH) : va_W := (List.range h.2.2.1).map (fun j => (ad (j + 1), zcell cs ad h (j + 1)))
theorem zws_at (cs : Nat → ClassId) (ad : Nat → Nat) {h : zH} {p : Nat} (h1 : 1 ≤ p) (h2 : p ≤ h.2.2.1) : (zws cs ad h)[p - 1]? = some (ad p, zcell cs ad h p) := by
  unfold zws
  rw [List.getElem?_map, List.getElem?_range (by omega)]
  simp only [Option.map_some]
  rw [show p - 1 + 1 = p by omega]
theorem zws_inv {cs : Nat → ClassId} {ad : Nat → Nat} {h : zH} {k : Nat} {q : Nat × va_E} (e : (zws cs ad h)[k]? = some q) : k < h.2.2.1 ∧ q = (ad (k + 1), zcell cs ad h (k + 1)) := by
  unfold zws at e
  rw [List.getElem?_map] at e
  cases hr : (List.range h.2.2.1)[k]? with
  | none => rw [hr] at e; cases e
  | some j =>
    rw [hr] at e
    have hk : k < h.2.2.1 := by
      have := (List.getElem?_eq_some_iff.mp hr).1
      simpa using this
    rw [List.getElem?_range hk] at hr
    cases hr
    exact ⟨hk, (Option.some.inj e).symm⟩
theorem zws_set {cs : Nat → ClassId} {ad : Nat → Nat} {h h' : zH} {p : Nat} (h1 : 1 ≤ p) (h2 : p ≤ h.2.2.1) (hn : h'.2.2.1 = h.2.2.1) (hq : ∀ q, q ≠ p → zcell cs ad h' q = zcell cs ad h q) {e : va_E} (he : e = zcell cs ad h' p) : (zws cs ad h).set (p - 1) (ad p, e) = zws cs ad h' := by
  subst he
  apply List.ext_getElem?
  intro k
  by_cases hk : k < h.2.2.1
  · rw [List.getElem?_set]
    have e1 : (zws cs ad h')[k]? = some (ad (k + 1), zcell cs ad h' (k + 1)) := by
      have := zws_at cs ad (h := h') (p := k + 1) (by omega) (by omega)
      simpa using this
    rw [e1]
    by_cases hp : p - 1 = k
    · rw [if_pos hp, if_pos (by unfold zws; simp; omega), ← hp, show p - 1 + 1 = p by omega]
    · rw [if_neg hp, hq (k + 1) (by omega)]
      have := zws_at cs ad (h := h) (p := k + 1) (by omega) (by omega)
      simpa using this
  · rw [List.getElem?_eq_none (by unfold zws; simp; omega), List.getElem?_eq_none (by unfold zws; simp; omega)]
theorem zws_push {cs : Nat → ClassId} {ad ad' : Nat → Nat} {h h' : zH} (hn : h'.2.2.1 = h.2.2.1 + 1) (ha : ∀ q, 1 ≤ q → q ≤ h.2.2.1 → ad' q = ad q) (hq : ∀ q, 1 ≤ q → q ≤ h.2.2.1 → zcell cs ad' h' q = zcell cs ad h q) {e : va_E} {a : Nat} (hea : a = ad' (h.2.2.1 + 1)) (he : e = zcell cs ad' h' (h.2.2.1 + 1)) : zws cs ad h ++ [(a, e)] = zws cs ad' h' := by
  subst he; subst hea
  unfold zws
  rw [hn, List.range_succ, List.map_append]
  congr 1
  apply List.map_congr_left
  intro j hj
  have hj := List.mem_range.mp hj
  rw [ha (j + 1) (by omega) (by omega), hq (j + 1) (by omega) (by omega)]
theorem zcell_sI {cs : Nat → ClassId} {ad : Nat → Nat} {h : zH} {p : Nat} {k x : Int} {q : Nat} (hq : q ≠ p) : zcell cs ad (sI h.1 p k x, h.2) q = zcell cs ad h q := by
  have e : ∀ j, sI h.1 p k x q j = h.1 q j := fun j => by unfold sI; rw [if_neg (fun z => hq z.1)]
  unfold zcell zfv
  simp only [e]
theorem zcell_sR {cs : Nat → ClassId} {ad : Nat → Nat} {h : zH} {p : Nat} {k : Int} {x : Nat} {q : Nat} (hq : q ≠ p) : zcell cs ad (h.1, sR h.2.1 p k x, h.2.2) q = zcell cs ad h q := by
  have e : ∀ j, sR h.2.1 p k x q j = h.2.1 q j := fun j => by unfold sR; rw [if_neg (fun z => hq z.1)]
  unfold zcell zfv
  simp only [e]
theorem zcell_cpy {cs : Nat → ClassId} {ad : Nat → Nat} {h : zH} {a p : Nat} {sp dp n : Int} {q : Nat} (hq : q ≠ p) : zcell cs ad (zcpy h.1 a sp p dp n, h.2) q = zcell cs ad h q := by
  have e : ∀ j, zcpy h.1 a sp p dp n q j = h.1 q j := fun j => by unfold zcpy; rw [if_neg (fun z => hq z.1)]
  unfold zcell zfv
  simp only [e]
def zokI (h : zH) : Prop := ∀ p k, zRI (h.1 p k)
/-- references of the world stay within it -/
def zokR (h : zH) : Prop := (∀ p k, p ≤ h.2.2.1 → h.2.1 p k ≤ h.2.2.1) ∧ ∀ j, j < 6 → h.2.1 (1000 + j) 0 = 1100 + j
theorem zcell_mk {cs : Nat → ClassId} {ad ad' : Nat → Nat} {h : zH} (hr : zokR h) (ha : ∀ q, q ≤ h.2.2.1 → ad' q = ad q) {q : Nat} (hq : q ≤ h.2.2.1) : zcell cs ad' (zmk h) q = zcell cs ad h q := by
  have e1 : ∀ j, (zmk h).1 q j = h.1 q j := fun j => by unfold zmk zfill; simp only; rw [if_neg (by omega)]
  have e2 : ∀ j, (zmk h).2.1 q j = h.2.1 q j := fun j => by unfold zmk zfilR; simp only; rw [if_neg (by omega)]
  have e3 : ∀ j, zrfo ad' (h.2.1 q j) = zrfo ad (h.2.1 q j) := fun j => by unfold zrfo; rw [ha _ (hr.1 q j hq)]
  unfold zcell zfv
  simp only [e1, e2, e3]
/-- locals -/
def zlr (ad : Nat → Nat) (sv : Value) (L : List zV) (ls : Array Slot) : Prop := ls.size = L.length ∧ lv_wf ls ∧ ∀ (k : Nat) (w : Int ⊕ Int ⊕ Nat), L[k]? = some (some w) → ls[k]? = some (.val (zcv ad sv (some w)))
/-- a value is in its bounds -/
def zvo (n : Nat) (v : zV) : Prop := match v with
  | some (.inl a) => zRI a
  | some (.inr (.inl a)) => zRL a
  | some (.inr (.inr q)) => q ≤ n ∨ 899 ≤ q
  | none => True
theorem zvo_mono {n n' : Nat} (hn : n ≤ n') {v : zV} (h : zvo n v) : zvo n' v := by
  obtain _ | (a | a | q) := v
  · trivial
  · exact h
  · exact h
  · exact h.elim (fun z => Or.inl (by omega)) Or.inr
theorem zcv_ext {ad ad' : Nat → Nat} {sv : Value} {n : Nat} (ha : ∀ q, q ≤ n ∨ 899 ≤ q → ad' q = ad q) {v : zV} (h : zvo n v) : zcv ad' sv v = zcv ad sv v := by
  obtain _ | (a | a | q) := v
  · rfl
  · rfl
  · rfl
  · unfold zcv zrfo
    simp only
    rw [ha q h]
theorem zcat_cv {ad : Nat → Nat} {sv : Value} (hsv : sv.category = 1) (v : zV) : (zcv ad sv v).category = zcat v := by
  obtain _ | (a | a | q) := v
  · rfl
  · rfl
  · rfl
  · show (if q = 1200 then sv else va_rf (zrfo ad q)).category = 1
    by_cases h : q = 1200
    · rw [if_pos h]; exact hsv
    · rw [if_neg h]
      unfold zrfo va_rf
      by_cases h0 : q = 0
      · rw [if_pos h0]; rfl
      · rw [if_neg h0]; rfl
theorem zcat_sum {ad : Nat → Nat} {sv : Value} (hsv : sv.category = 1) (st : List zV) : ((st.map (zcv ad sv)).map fun v => v.category).sum = (st.map zcat).sum := by
  rw [List.map_map]
  congr 1
  apply List.map_congr_left
  intro v _
  exact zcat_cv hsv v
