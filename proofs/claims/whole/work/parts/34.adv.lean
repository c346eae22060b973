/-! ===== going on; pages ===== -/
def atOk (T f : Int → Int) : Prop := f 0 = -4 ∨ (0 ≤ f 0 ∧ f 0 < T 1 ∧ kd T (f 0) = 0)
def phOk (T f : Int → Int) : Prop := 0 ≤ f 1 ∧ (f 0 = -4 → f 1 = 0) ∧ (f 0 ≠ -4 → f 1 < lenAt T f)
section A34
variable {T : Int → Int} {lg : Int}
theorem at_seg {f : Int → Int} (ok : tOk T) (h : atOk T f) (h0 : f 0 ≠ -4) : (0 ≤ segAt T f ∧ segAt T f < T 0) ∧ (1 ≤ mn T (segAt T f) ∧ mn T (segAt T f) ≤ 16) := by
  rcases h with h | h
  · exact absurd h h0
  · have a := (ok.2.2.2.2 (f 0) h.1 h.2.1).2.1 h.2.2
    exact ⟨a, ok.2.2.1 _ a.1 a.2⟩
theorem advN_stop {n : Nat} {f : Int → Int} (h : f 0 = -4 ∨ f 1 < lenAt T f) : advN T lg n f = some f := by
  cases n <;> (unfold advN; rw [if_pos h])
theorem advN_go {n : Nat} {f : Int → Int} (h : ¬ (f 0 = -4 ∨ f 1 < lenAt T f)) : advN T lg (n + 1) f = advN T lg n (setF T lg (f 0 + 1) (up f 1 (f 1 - lenAt T f))) := by
  show (if _ then _ else _) = _
  rw [if_neg h]
theorem adv_ok (ok : tOk T) : ∀ (n : Nat) (f : Int → Int), atOk T f → 0 ≤ f 1 → (f 0 = -4 → f 1 = 0) → f 1 < 16 * ((n : Int) + 1) → 0 ≤ f 6 → ∃ g, advN T lg n f = some g ∧ atOk T g ∧ phOk T g ∧ (f 6 ≤ g 6 ∧ g 6 ≤ f 6 + 46 * n) ∧ ∀ c, (c < 0 ∨ (2 ≤ c ∧ c ≤ 5) ∨ c = 7 ∨ c = 8 ∨ (13 ≤ c ∧ c < 18) ∨ (42 ≤ c ∧ c < 312) ∨ 392 ≤ c) → g c = f c := by
  intro n
  induction n with
  | zero =>
    intro f ha h1 h2 h3 h6
    have hs : f 0 = -4 ∨ f 1 < lenAt T f := by
      by_cases h0 : f 0 = -4
      · exact Or.inl h0
      · have a := at_seg ok ha h0
        unfold lenAt
        exact Or.inr (by omega)
    refine ⟨f, advN_stop hs, ha, ⟨h1, h2, fun h => hs.resolve_left h⟩, ⟨by omega, by omega⟩, fun c _ => rfl⟩
  | succ n ih =>
    intro f ha h1 h2 h3 h6
    by_cases hs : f 0 = -4 ∨ f 1 < lenAt T f
    · exact ⟨f, advN_stop hs, ha, ⟨h1, h2, fun h => hs.resolve_left h⟩, ⟨by omega, by omega⟩, fun c _ => rfl⟩
    · rw [advN_go hs]
      have h0 : f 0 ≠ -4 := fun z => hs (Or.inl z)
      have a := at_seg ok ha h0
      have hl : 16 ≤ lenAt T f := by unfold lenAt; omega
      have hf : 0 ≤ f 0 := by rcases ha with z | z; exact absurd z h0; exact z.1
      have u6 : up f 1 (f 1 - lenAt T f) 6 = f 6 := up_n (by omega)
      have u1 : up f 1 (f 1 - lenAt T f) 1 = f 1 - lenAt T f := up_s
      have e := setF_end (lg := lg) (f := up f 1 (f 1 - lenAt T f)) (i := f 0 + 1) ok (by omega) (by omega)
      rw [u6, u1] at e
      obtain ⟨g, g1, g2, g3, g4, g5⟩ := ih (setF T lg (f 0 + 1) (up f 1 (f 1 - lenAt T f))) (by
        rcases e.1 with z | z
        · exact Or.inl z.1
        · exact Or.inr ⟨z.1, z.2.1, z.2.2.1⟩) (by rcases e.1 with z | z <;> omega) (by rcases e.1 with z | z <;> omega) (by rcases e.1 with z | z <;> omega) (by omega)
      refine ⟨g, g1, g2, g3, ⟨by omega, by omega⟩, fun c hc => ?_⟩
      rw [g5 c hc, e.2.2 c (by omega), up_n (by omega)]
theorem advF_eq (ok : tOk T) {f : Int → Int} (ha : atOk T f) (h0 : f 0 ≠ -4) (hp : phOk T f) (h13 : 1 ≤ f 13 ∧ f 13 ≤ 64) (h6 : 0 ≤ f 6) : advN T lg 20 (up f 1 (f 1 + f 13)) = some (advF T lg f) ∧ atOk T (advF T lg f) ∧ phOk T (advF T lg f) ∧ (f 6 ≤ advF T lg f 6 ∧ advF T lg f 6 ≤ f 6 + 920) ∧ ∀ c, (c < 0 ∨ (2 ≤ c ∧ c ≤ 5) ∨ c = 7 ∨ c = 8 ∨ (13 ≤ c ∧ c < 18) ∨ (42 ≤ c ∧ c < 312) ∨ 392 ≤ c) → advF T lg f c = f c := by
  have a := at_seg ok ha h0
  have hl := hp.2.2 h0
  have u0 : up f 1 (f 1 + f 13) 0 = f 0 := up_n (by omega)
  have u6 : up f 1 (f 1 + f 13) 6 = f 6 := up_n (by omega)
  have u1 : up f 1 (f 1 + f 13) 1 = f 1 + f 13 := up_s
  have hp1 := hp.1
  have hle : lenAt T f ≤ 256 := by unfold lenAt; omega
  obtain ⟨g, g1, g2, g3, g4, g5⟩ := adv_ok (lg := lg) ok 20 (up f 1 (f 1 + f 13)) (by unfold atOk; rw [u0]; exact ha) (by omega) (fun z => absurd (u0.symm.trans z) h0) (by omega) (by omega)
  have e : advF T lg f = g := by unfold advF; rw [g1]; rfl
  rw [e]
  exact ⟨g1, g2, g3, ⟨by omega, by omega⟩, fun c hc => by rw [g5 c hc, up_n (by omega)]⟩
theorem td_ed {x : Int} (h : 0 ≤ x) (k : Int) : x.tdiv k = x / k := Int.tdiv_eq_ediv_of_nonneg h
theorem tm_em {x : Int} (h : 0 ≤ x) (k : Int) : x.tmod k = x % k := Int.tmod_eq_emod_of_nonneg h
theorem fnd_r {a : Int → Int} {v : Int} : ∀ (n : Nat) (k : Int), 0 ≤ k → (fnd a v n k = -4 ∧ ∀ j, k ≤ j → j < k + n → a j ≠ v) ∨ (k ≤ fnd a v n k ∧ fnd a v n k < k + n ∧ a (fnd a v n k) = v) := by
  intro n
  induction n with
  | zero => intro k _; exact Or.inl ⟨rfl, fun j _ _ => by omega⟩
  | succ n ih =>
    intro k hk
    unfold fnd
    by_cases h : a k = v
    · rw [if_pos h]; exact Or.inr ⟨by omega, by omega, h⟩
    · rw [if_neg h]
      rcases ih (k + 1) (by omega) with z | z
      · refine Or.inl ⟨z.1, fun j h1 h2 => ?_⟩
        by_cases hj : j = k
        · rw [hj]; exact h
        · exact z.2 j (by omega) (by omega)
      · exact Or.inr ⟨by omega, by omega, z.2.2⟩
theorem fnd_c {a a' : Int → Int} {v : Int} : ∀ (n : Nat) (k : Int), (∀ j, k ≤ j → j < k + n → a j = a' j) → fnd a v n k = fnd a' v n k := by
  intro n
  induction n with
  | zero => intro k _; rfl
  | succ n ih =>
    intro k h
    unfold fnd
    rw [h k (by omega) (by omega), ih (k + 1) (fun j h1 h2 => h j (by omega) (by omega))]
theorem ca_r {f : Int → Int} {pg : Int} (h : 0 ≤ f 7) : (caF f pg = -4 ∧ ∀ j, 0 ≤ j → j < f 7 → f (42 + j) ≠ pg) ∨ (0 ≤ caF f pg ∧ caF f pg < f 7 ∧ f (42 + caF f pg) = pg) := by
  have a := fnd_r (a := fun k => f (42 + k)) (v := pg) (f 7).toNat 0 (by omega)
  unfold caF
  rw [show (0 : Int) + ((f 7).toNat : Int) = f 7 by omega] at a
  exact a
theorem as_r {f : Int → Int} {pg : Int} (h : 0 ≤ f 8) : (asF f pg = -4 ∧ ∀ j, 0 ≤ j → j < f 8 → f (48 + j) ≠ pg) ∨ (0 ≤ asF f pg ∧ asF f pg < f 8 ∧ f (48 + asF f pg) = pg) := by
  have a := fnd_r (a := fun k => f (48 + k)) (v := pg) (f 8).toNat 0 (by omega)
  unfold asF
  rw [show (0 : Int) + ((f 8).toNat : Int) = f 8 by omega] at a
  exact a
end A34
