/-! ===== the pool ===== -/
def fit (pl : Int → Int) (pm p : Int) (row : Int → Int) (n : Int) : Prop := ∀ i, 0 ≤ i → i < n → p + i < pm → pl (p + i) = row i
def fpl (pl : Int → Int) (pm : Int) (row : Int → Int) (n p : Int) : Prop := 0 ≤ p ∧ p ≤ pm ∧ fit pl pm p row n ∧ ∀ q, 0 ≤ q → q < p → ¬ fit pl pm q row n
def mi (a c : Int) : Int := if c < a then c else a
def poolIs (T : Int → Int) (m : Int) (fs cm pl : Int → Int) (pm : Int) : Prop := ∃ z : Int → Int, z 0 = 0 ∧ z m = pm ∧ ∀ s, 0 ≤ s → s < m → fpl pl (z s) (lv T s) (mn T s) (fs s) ∧ cm s = mn T s - mi (mn T s) (z s - fs s) ∧ z (s + 1) = z s + cm s ∧ ∀ i, 0 ≤ i → i < mn T s → pl (fs s + i) = lv T s i
section A52
variable {T T' fs fs' cm cm' pl pl' row : Int → Int} {m pm pm' n p p' : Int}
theorem mi_b {a c : Int} : mi a c ≤ a ∧ mi a c ≤ c ∧ (mi a c = a ∨ mi a c = c) := by unfold mi; split <;> omega
theorem fpl_u (h : fpl pl pm row n p) (h' : fpl pl pm row n p') : p = p' := by
  by_cases h1 : p < p'
  · exact absurd h.2.2.1 (h'.2.2.2 p h.1 h1)
  · by_cases h2 : p' < p
    · exact absurd h'.2.2.1 (h.2.2.2 p' h'.1 h2)
    · omega
theorem fit_c {row' : Int → Int} (hp : ∀ j, 0 ≤ j → j < pm → pl' j = pl j) (hr : ∀ i, 0 ≤ i → i < n → row' i = row i) {q : Int} (hq : 0 ≤ q) : fit pl pm q row n ↔ fit pl' pm q row' n := by
  constructor
  · intro h i i0 i1 i2; rw [hp _ (by omega) i2, hr i i0 i1]; exact h i i0 i1 i2
  · intro h i i0 i1 i2; rw [← hp _ (by omega) i2, ← hr i i0 i1]; exact h i i0 i1 i2
theorem fpl_c {row' : Int → Int} (hp : ∀ j, 0 ≤ j → j < pm → pl' j = pl j) (hr : ∀ i, 0 ≤ i → i < n → row' i = row i) (h : fpl pl pm row n p) : fpl pl' pm row' n p := ⟨h.1, h.2.1, (fit_c hp hr h.1).mp h.2.2.1, fun q q0 q1 z => h.2.2.2 q q0 q1 ((fit_c hp hr q0).mpr z)⟩
theorem pool_z (hm : ∀ s, 0 ≤ s → s < m → 1 ≤ mn T s ∧ mn T s ≤ 16) {z : Int → Int} (z0 : z 0 = 0) (h : ∀ s, 0 ≤ s → s < m → fpl pl (z s) (lv T s) (mn T s) (fs s) ∧ cm s = mn T s - mi (mn T s) (z s - fs s) ∧ z (s + 1) = z s + cm s ∧ ∀ i, 0 ≤ i → i < mn T s → pl (fs s + i) = lv T s i) : ∀ k : Nat, (k : Int) ≤ m → 0 ≤ z k ∧ z k ≤ 16 * k ∧ ∀ j : Nat, j ≤ k → z j ≤ z k := by
  intro k
  induction k with
  | zero => intro _; refine ⟨by rw [show ((0 : Nat) : Int) = 0 by rfl, z0]; decide, by rw [show ((0 : Nat) : Int) = 0 by rfl, z0]; decide, fun j hj => by rw [show j = 0 by omega]; exact Int.le_refl _⟩
  | succ k ih =>
    intro hk
    have a := ih (by omega)
    have s := h k (by omega) (by omega)
    have mm := hm k (by omega) (by omega)
    have b := mi_b (a := mn T k) (c := z k - fs k)
    have f1 := s.1.1
    have f2 := s.1.2.1
    rw [show ((k + 1 : Nat) : Int) = (k : Int) + 1 by omega, s.2.2.1]
    refine ⟨by omega, by omega, fun j hj => ?_⟩
    by_cases e : j = k + 1
    · rw [e, show ((k + 1 : Nat) : Int) = (k : Int) + 1 by omega, s.2.2.1]; exact Int.le_refl _
    · have := a.2.2 j (by omega); omega
theorem pool_c (hm : 0 ≤ m) (hmn : ∀ s, 0 ≤ s → s < m → 1 ≤ mn T s ∧ mn T s ≤ 16) (hT : ∀ s, 0 ≤ s → s < m → mn T' s = mn T s ∧ ∀ i, 0 ≤ i → i < mn T s → lv T' s i = lv T s i) (hf : ∀ s, 0 ≤ s → s < m → fs' s = fs s ∧ cm' s = cm s) (hp : ∀ j, 0 ≤ j → j < pm → pl' j = pl j) (h : poolIs T m fs cm pl pm) : poolIs T' m fs' cm' pl' pm := by
  obtain ⟨z, z0, zm, h⟩ := h
  have zz := pool_z hmn z0 h
  refine ⟨z, z0, zm, fun s s0 s1 => ?_⟩
  have a := h s s0 s1
  have t := hT s s0 s1
  have f := hf s s0 s1
  have zs := zz m.toNat (by omega)
  have zle := zs.2.2 s.toNat (by omega)
  have zl1 := zs.2.2 (s + 1).toNat (by omega)
  rw [show ((m.toNat : Nat) : Int) = m by omega, zm] at zle zl1
  rw [show ((s.toNat : Nat) : Int) = s by omega] at zle
  rw [show (((s + 1).toNat : Nat) : Int) = s + 1 by omega] at zl1
  have b := mi_b (a := mn T s) (c := z s - fs s)
  have f1 := a.1.1
  rw [t.1, f.1, f.2]
  refine ⟨fpl_c (fun j j0 j1 => hp j j0 (by omega)) t.2 a.1, a.2.1, a.2.2.1, fun i i0 i1 => ?_⟩
  rw [t.2 i i0 i1, hp _ (by omega) (by omega)]
  exact a.2.2.2 i i0 i1
theorem pool_u (hm : 0 ≤ m) (hmn : ∀ s, 0 ≤ s → s < m → 1 ≤ mn T s ∧ mn T s ≤ 16) (h : poolIs T m fs cm pl pm) (h' : poolIs T m fs' cm' pl' pm') : pm = pm' ∧ (∀ s, 0 ≤ s → s < m → fs s = fs' s ∧ cm s = cm' s) ∧ ∀ j, 0 ≤ j → j < pm → pl j = pl' j := by
  obtain ⟨z, z0, zm, h⟩ := h
  obtain ⟨y, y0, ym, h'⟩ := h'
  have key : ∀ k : Nat, (k : Int) ≤ m → z k = y k ∧ (∀ s : Int, 0 ≤ s → s < (k : Int) → fs s = fs' s ∧ cm s = cm' s) ∧ ∀ j, 0 ≤ j → j < z k → pl j = pl' j := by
    intro k
    induction k with
    | zero => intro _; refine ⟨by rw [show ((0 : Nat) : Int) = 0 by rfl, z0, y0], fun s s0 s1 => by omega, fun j j0 j1 => by rw [show ((0 : Nat) : Int) = 0 by rfl, z0] at j1; omega⟩
    | succ k ih =>
      intro hk
      have a := ih (by omega)
      have s := h k (by omega) (by omega)
      have s' := h' k (by omega) (by omega)
      have e := fpl_u (fpl_c (pl' := pl') (row' := lv T k) (fun j j0 j1 => (a.2.2 j j0 j1).symm) (fun _ _ _ => rfl) s.1) (by rw [a.1]; exact s'.1)
      have ec : cm k = cm' k := by rw [s.2.1, s'.2.1, a.1, e]
      rw [show ((k + 1 : Nat) : Int) = (k : Int) + 1 by omega, s.2.2.1, s'.2.2.1, a.1, ec]
      refine ⟨rfl, fun t t0 t1 => ?_, fun j j0 j1 => ?_⟩
      · by_cases et : t = k
        · rw [et]; exact ⟨e, ec⟩
        · exact a.2.1 t t0 (by omega)
      · by_cases hj : j < z k
        · exact a.2.2 j j0 hj
        · have b := mi_b (a := mn T k) (c := z k - fs k)
          have f2 := s.1.2.1
          have s2 := s.2.1
          have x1 := s.2.2.2 (j - fs k) (by omega) (by omega)
          have x2 := s'.2.2.2 (j - fs k) (by omega) (by omega)
          rw [← e] at x2
          rw [show fs k + (j - fs k) = j by omega] at x1 x2
          rw [x1, x2]
  have K := key m.toNat (by omega)
  rw [show ((m.toNat : Nat) : Int) = m by omega, zm, ym] at K
  exact K
theorem pool_add {c : Int} (hm : 0 ≤ m) (h : poolIs T m fs cm pl pm) (hmn : ∀ s, 0 ≤ s → s < m → 1 ≤ mn T s ∧ mn T s ≤ 16) (hn : mn T m = n) (hr : ∀ i, 0 ≤ i → i < n → row i = lv T m i) (hp : fpl pl pm row n p) (hc : c = n - mi n (pm - p)) (hpl : ∀ j, pl' j = if pm ≤ j ∧ j < pm + c then row (j - p) else pl j) : poolIs T (m + 1) (up fs m p) (up cm m c) pl' (pm + c) := by
  obtain ⟨z, z0, zm, h⟩ := h
  have zz := (pool_z hmn z0 h m.toNat (by omega))
  rw [show ((m.toNat : Nat) : Int) = m by omega, zm] at zz
  have b := mi_b (a := n) (c := pm - p)
  have p0 := hp.1
  have p1 := hp.2.1
  refine ⟨up z (m + 1) (pm + c), by rw [up_n (by omega)]; exact z0, up_s, fun s s0 s1 => ?_⟩
  by_cases es : s = m
  · subst es
    rw [up_n (by omega), up_s, up_s, up_s, zm, hn]
    refine ⟨fpl_c (fun j j0 j1 => by rw [hpl, if_neg (by omega)]) (fun i i0 i1 => (hr i i0 i1).symm) hp, hc, rfl, fun i i0 i1 => ?_⟩
    rw [hpl]
    by_cases hj : pm ≤ p + i
    · rw [if_pos (by omega), show p + i - p = i by omega, hr i i0 i1]
    · rw [if_neg (by omega), ← hr i i0 i1]
      exact hp.2.2.1 i i0 i1 (by omega)
  · have a := h s s0 (by omega)
    have zle := zz.2.2 s.toNat (by omega)
    have zl1 := zz.2.2 (s + 1).toNat (by omega)
    rw [show ((s.toNat : Nat) : Int) = s by omega] at zle
    rw [show (((s + 1).toNat : Nat) : Int) = s + 1 by omega] at zl1
    have b' := mi_b (a := mn T s) (c := z s - fs s)
    have f1 := a.1.1
    rw [up_n (show s ≠ m + 1 by omega), up_n es, up_n es, up_n (show s + 1 ≠ m + 1 by omega)]
    refine ⟨fpl_c (fun j j0 j1 => by rw [hpl, if_neg (by omega)]) (fun _ _ _ => rfl) a.1, a.2.1, a.2.2.1, fun i i0 i1 => ?_⟩
    rw [hpl, if_neg (by omega)]
    exact a.2.2.2 i i0 i1
theorem pool_ok (ht : 0 ≤ T 0 ∧ T 0 ≤ 8) (hmn : ∀ s, 0 ≤ s → s < T 0 → 1 ≤ mn T s ∧ mn T s ≤ 16) (h : poolIs T (T 0) fs cm pl pm) : poolOk T fs pl pm := by
  obtain ⟨z, z0, zm, h⟩ := h
  have zz := (pool_z hmn z0 h (T 0).toNat (by omega))
  rw [show (((T 0).toNat : Nat) : Int) = T 0 by omega, zm] at zz
  refine ⟨zz.1, by omega, fun s s0 s1 => ?_⟩
  have a := h s s0 s1
  have zl1 := zz.2.2 (s + 1).toNat (by omega)
  rw [show (((s + 1).toNat : Nat) : Int) = s + 1 by omega] at zl1
  have b' := mi_b (a := mn T s) (c := z s - fs s)
  have f1 := a.1.1
  exact ⟨f1, by omega, a.2.2.2⟩
end A52
