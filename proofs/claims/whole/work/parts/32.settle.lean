/-! ===== settling ends; what it leaves alone ===== -/
section A32
variable {T : Int → Int} {lg : Int}
theorem mk_6 {m : Int} {f : Int → Int} (h : 0 ≤ f 6) : (mkF lg m f) 6 = f 6 ∨ (mkF lg m f) 6 = f 6 + 1 := by
  unfold mkF
  split
  · exact Or.inl rfl
  · split
    · exact Or.inr up_s
    · exact Or.inr up_s
theorem mk_c {m c : Int} {f : Int → Int} (h : 0 ≤ f 6) (hc : c ≠ 6) (hc2 : c < 312 ∨ 392 ≤ c) : (mkF lg m f) c = f c := by
  unfold mkF
  split
  · rfl
  · split
    · rw [up_n hc, up_n (by omega), up_n (by omega)]
    · rw [up_n hc, up_n (by omega), up_n (by omega)]
      unfold shF
      rw [if_neg (by omega)]
theorem nx_1 {i : Int} {f : Int → Int} (ok : tOk T) (h0 : 0 ≤ i) (h1 : i < T 1) : 0 ≤ (nx T lg i f).1 := by
  have z := (ok.2.2.2.2 i h0 h1).2.2.2.2.2.2
  unfold nx
  split
  · rename_i h4
    have z := z h4
    unfold bE
    split
    · dsimp only
      split <;> omega
    · dsimp only
      split <;> omega
  · show 0 ≤ i + 1
    omega
theorem nx_6 {i : Int} {f : Int → Int} (ok : tOk T) (h0 : 0 ≤ i) (h1 : i < T 1) (hf : 0 ≤ f 6) : (nx T lg i f).2 6 = f 6 ∨ (nx T lg i f).2 6 = f 6 + 1 := by
  have z := (ok.2.2.2.2 i h0 h1)
  unfold nx
  split
  · rename_i h4
    have z2 := z.2.2.2.2.2.2 h4
    have z3 := (ok.2.2.2.2 (pt T i) (by omega) (by omega))
    unfold bE
    split
    · exact Or.inl (up_n (by omega))
    · exact Or.inl (up_n (by omega))
  · show (if kd T i = 1 then mkF lg (nb T i) f else if kd T i = 2 then up f (18 + i) 0 else f) 6 = _ ∨ (if kd T i = 1 then mkF lg (nb T i) f else if kd T i = 2 then up f (18 + i) 0 else f) 6 = _
    split
    · exact mk_6 hf
    · split
      · exact Or.inl (up_n (by omega))
      · exact Or.inl rfl
theorem nx_c {i c : Int} {f : Int → Int} (ok : tOk T) (h0 : 0 ≤ i) (h1 : i < T 1) (hf : 0 ≤ f 6) (hc : c ≤ 5 ∨ c = 7 ∨ c = 8 ∨ (13 ≤ c ∧ c < 18) ∨ (42 ≤ c ∧ c < 312) ∨ 392 ≤ c) : (nx T lg i f).2 c = f c := by
  have z := (ok.2.2.2.2 i h0 h1)
  unfold nx
  split
  · rename_i h4
    have z2 := z.2.2.2.2.2.2 h4
    have z3 := (ok.2.2.2.2 (pt T i) (by omega) (by omega))
    have h24 := ok.2.1
    unfold bE
    split
    · exact (up_n (by omega))
    · have z4 := z3.2.2.2.2.1 (by omega)
      exact (up_n (by omega))
  · show (if kd T i = 1 then mkF lg (nb T i) f else if kd T i = 2 then up f (18 + i) 0 else f) c = _
    split
    · exact mk_c hf (by omega) (by omega)
    · split
      · have h24 := ok.2.1
        exact (up_n (by omega))
      · rfl
theorem stN_stop {n : Nat} {i : Int} {f : Int → Int} (h : T 1 ≤ i ∨ kd T i = 0) : stN T lg n i f = some (i, f) := by
  cases n <;> (unfold stN; rw [if_pos h])
theorem stN_go {n : Nat} {i : Int} {f : Int → Int} (h : ¬ (T 1 ≤ i ∨ kd T i = 0)) : stN T lg (n + 1) i f = stN T lg n (nx T lg i f).1 (nx T lg i f).2 := by
  show (if _ then _ else _) = _
  rw [if_neg h]
theorem stN_0 {i : Int} {f : Int → Int} (h : ¬ (T 1 ≤ i ∨ kd T i = 0)) : stN T lg 0 i f = none := by
  show (if _ then _ else _) = _
  rw [if_neg h]
theorem stN_mono : ∀ (n m : Nat) (i : Int) (f : Int → Int) r, stN T lg n i f = some r → n ≤ m → stN T lg m i f = some r := by
  intro n
  induction n with
  | zero =>
    intro m i f r h _
    by_cases hs : T 1 ≤ i ∨ kd T i = 0
    · rw [stN_stop hs] at h ⊢; exact h
    · rw [stN_0 hs] at h; cases h
  | succ n ih =>
    intro m i f r h hm
    by_cases hs : T 1 ≤ i ∨ kd T i = 0
    · rw [stN_stop hs] at h ⊢; exact h
    · rw [stN_go hs] at h
      obtain ⟨m', rfl⟩ : ∃ m', m = m' + 1 := ⟨m - 1, by omega⟩
      rw [stN_go hs]
      exact ih m' _ _ r h (by omega)
theorem stN_A (ok : tOk T) : ∀ (n : Nat) (q : Int) (f : Int → Int) (p : Int), p = q + n → 0 ≤ q → p < T 1 → kd T p = 0 → (∀ x, q ≤ x → x < p → kd T x = 1 ∨ kd T x = 2 ∨ kd T x = 3) → ∃ r, stN T lg n q f = some r := by
  intro n
  induction n with
  | zero =>
    intro q f p hp hq hp1 hk _
    exact ⟨(q, f), stN_stop (Or.inr (by rw [show q = p by omega]; exact hk))⟩
  | succ n ih =>
    intro q f p hp hq hp1 hk hx
    have hq1 := hx q (by omega) (by omega)
    rw [stN_go (by omega)]
    have : (nx T lg q f).1 = q + 1 := by
      unfold nx; rw [if_neg (by omega)]
    rw [this]
    exact ih (q + 1) _ p (by omega) (by omega) hp1 hk (fun x h1 h2 => hx x (by omega) h2)
theorem stN_B (ok : tOk T) : ∀ (n : Nat) (i : Int) (f : Int → Int), T 1 - i ≤ n → 0 ≤ i → ∃ r, stN T lg (n + 22) i f = some r := by
  intro n
  induction n with
  | zero =>
    intro i f h h0
    exact ⟨(i, f), stN_stop (Or.inl (by omega))⟩
  | succ n ih =>
    intro i f h h0
    by_cases hs : T 1 ≤ i ∨ kd T i = 0
    · exact ⟨(i, f), stN_stop hs⟩
    · rw [show n + 1 + 22 = (n + 22) + 1 by omega, stN_go hs]
      by_cases h4 : kd T i = 4
      · have z := (ok.2.2.2.2 i h0 (by omega)).2.2.2.2.2.2 h4
        obtain ⟨z1, z2, z3, z4, p, z5, z6, z7, z8⟩ := z
        have h24 := ok.2.1
        have : (nx T lg i f).1 = i + 1 ∨ (nx T lg i f).1 = pt T i + 1 := by
          unfold nx; rw [if_pos h4]; unfold bE
          split
          · show (if _ then _ else _) = _ ∨ (if _ then _ else _) = _
            split
            · exact Or.inr rfl
            · exact Or.inl rfl
          · show (if _ then _ else _) = _ ∨ (if _ then _ else _) = _
            split
            · exact Or.inl rfl
            · exact Or.inr rfl
        rcases this with h1 | h1
        · rw [h1]; exact ih _ _ (by omega) (by omega)
        · rw [h1]
          obtain ⟨r, hr⟩ := stN_A (lg := lg) ok (p - (pt T i + 1)).toNat (pt T i + 1) (nx T lg i f).2 p (by omega) (by omega) (by omega) z7 (fun x y1 y2 => z8 x (by omega) y2)
          exact ⟨r, stN_mono _ _ _ _ r hr (by omega)⟩
      · have : (nx T lg i f).1 = i + 1 := by
          unfold nx; rw [if_neg h4]
        rw [this]; exact ih _ _ (by omega) (by omega)
theorem stN_ok (ok : tOk T) (i : Int) (f : Int → Int) (h0 : 0 ≤ i) : ∃ r, stN T lg 46 i f = some r := stN_B ok 24 i f (by have := ok.2.1; omega) h0
/-! what holds at its end -/
theorem stN_end (ok : tOk T) : ∀ (n : Nat) (i : Int) (f : Int → Int) r, stN T lg n i f = some r → 0 ≤ i → 0 ≤ f 6 → (0 ≤ r.1 ∧ (T 1 ≤ r.1 ∨ kd T r.1 = 0)) ∧ (f 6 ≤ r.2 6 ∧ r.2 6 ≤ f 6 + n) ∧ ∀ c, (c ≤ 5 ∨ c = 7 ∨ c = 8 ∨ (13 ≤ c ∧ c < 18) ∨ (42 ≤ c ∧ c < 312) ∨ 392 ≤ c) → r.2 c = f c := by
  intro n
  induction n with
  | zero =>
    intro i f r h h0 h6
    by_cases hs : T 1 ≤ i ∨ kd T i = 0
    · rw [stN_stop hs] at h; cases h
      exact ⟨⟨h0, hs⟩, ⟨by show f 6 ≤ f 6; omega, by show f 6 ≤ f 6 + _; omega⟩, fun c _ => rfl⟩
    · rw [stN_0 hs] at h; cases h
  | succ n ih =>
    intro i f r h h0 h6
    by_cases hs : T 1 ≤ i ∨ kd T i = 0
    · rw [stN_stop hs] at h; cases h
      exact ⟨⟨h0, hs⟩, ⟨by show f 6 ≤ f 6; omega, by show f 6 ≤ f 6 + _; omega⟩, fun c _ => rfl⟩
    · rw [stN_go hs] at h
      have a6 := nx_6 (lg := lg) (f := f) ok h0 (by omega) h6
      have a := ih _ _ r h (nx_1 ok h0 (by omega)) (by omega)
      exact ⟨a.1, ⟨by omega, by omega⟩, fun c hc => (a.2.2 c hc).trans (nx_c ok h0 (by omega) h6 hc)⟩
theorem setF_eq (ok : tOk T) {i : Int} {f : Int → Int} (h0 : 0 ≤ i) : ∃ r, stN T lg 46 i f = some r ∧ setF T lg i f = fi T r := by
  obtain ⟨r, hr⟩ := stN_ok (lg := lg) ok i f h0
  exact ⟨r, hr, by unfold setF; rw [hr]; rfl⟩
theorem setF_end (ok : tOk T) {i : Int} {f : Int → Int} (h0 : 0 ≤ i) (h6 : 0 ≤ f 6) : ((setF T lg i f 0 = -4 ∧ setF T lg i f 1 = 0) ∨ (0 ≤ setF T lg i f 0 ∧ setF T lg i f 0 < T 1 ∧ kd T (setF T lg i f 0) = 0 ∧ setF T lg i f 1 = f 1)) ∧ (f 6 ≤ setF T lg i f 6 ∧ setF T lg i f 6 ≤ f 6 + 46) ∧ ∀ c, (c < 0 ∨ (2 ≤ c ∧ c ≤ 5) ∨ c = 7 ∨ c = 8 ∨ (13 ≤ c ∧ c < 18) ∨ (42 ≤ c ∧ c < 312) ∨ 392 ≤ c) → setF T lg i f c = f c := by
  obtain ⟨r, hr, he⟩ := setF_eq (lg := lg) (f := f) ok h0
  have a := stN_end ok _ _ _ r hr h0 h6
  rw [he]
  unfold fi
  by_cases h1 : T 1 ≤ r.1
  · rw [if_pos h1]
    refine ⟨Or.inl ⟨by rw [up_n (by omega), up_s], up_s⟩, ?_, fun c hc => ?_⟩
    · rw [up_n (by omega), up_n (by omega)]; exact a.2.1
    · rw [up_n (by omega), up_n (by omega)]; exact a.2.2 c (by omega)
  · rw [if_neg h1]
    refine ⟨Or.inr ⟨by rw [up_s]; omega, by rw [up_s]; omega, ?_, ?_⟩, ?_, fun c hc => ?_⟩
    · rw [up_s]; omega
    · rw [up_n (by omega)]; exact a.2.2 1 (by omega)
    · rw [up_n (by omega)]; exact a.2.1
    · rw [up_n (by omega)]; exact a.2.2 c (by omega)
end A32
