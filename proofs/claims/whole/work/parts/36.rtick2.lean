/-! ===== the reference's tick, whole ===== -/
def pvB (T f : Int → Int) (N : Int) : Prop := atOk T f ∧ phOk T f ∧ (1 ≤ f 13 ∧ f 13 ≤ 64) ∧ (0 ≤ f 14 ∧ f 14 ≤ 2) ∧ (1 ≤ f 15 ∧ f 15 ≤ 6) ∧ (0 ≤ f 16 ∧ f 16 ≤ 9) ∧ (0 ≤ f 17 ∧ f 17 ≤ 16) ∧ (0 ≤ f 7 ∧ f 7 ≤ f 15) ∧ (0 ≤ f 8 ∧ f 8 ≤ 16) ∧ (0 ≤ f 4 ∧ f 4 ≤ N) ∧ (0 ≤ f 6 ∧ f 6 ≤ N)
def fsOk (T fs : Int → Int) : Prop := ∀ s, 0 ≤ s → s < T 0 → 0 ≤ fs s ∧ fs s ≤ 128
theorem at_c {T f g : Int → Int} (h : g 0 = f 0) (ha : atOk T f) : atOk T g := by unfold atOk; rw [h]; exact ha
theorem ph_c {T f g : Int → Int} (h : g 0 = f 0) (h1 : g 1 = f 1) (ha : phOk T f) : phOk T g := by
  unfold phOk lenAt segAt; rw [h, h1]; exact ha
theorem arN_c : ∀ (n : Nat) (k l : Int) (f : Int → Int), k + n ≤ 16 → 0 ≤ l → l ≤ k → 0 ≤ f 7 ∧ f 7 ≤ f 15 ∧ 1 ≤ f 15 ∧ f 15 ≤ 6 → (0 ≤ arN n k l f 7 ∧ arN n k l f 7 ≤ f 15) ∧ (0 ≤ arN n k l f 8 ∧ arN n k l f 8 ≤ l + n) ∧ ∀ c, (c < 7 ∨ (9 ≤ c ∧ c < 42) ∨ 112 ≤ c) → arN n k l f c = f c := by
  intro n
  induction n with
  | zero =>
    intro k l f h h0 h1 h7
    unfold arN
    refine ⟨by rw [up_n (by omega)]; omega, by rw [up_s]; omega, fun c hc => up_n (by omega)⟩
  | succ n ih =>
    intro k l f h h0 h1 h7
    unfold arN
    by_cases hw : f 2 < f (80 + k)
    · rw [if_pos hw]
      have e15 : up (up f (48 + l) (f (48 + k))) (80 + l) (f (80 + k)) 15 = f 15 := by rw [up_n (by omega), up_n (by omega)]
      have e7 : up (up f (48 + l) (f (48 + k))) (80 + l) (f (80 + k)) 7 = f 7 := by rw [up_n (by omega), up_n (by omega)]
      have z := ih (k + 1) (l + 1) (up (up f (48 + l) (f (48 + k))) (80 + l) (f (80 + k))) (by omega) (by omega) (by omega) (by rw [e7, e15]; exact h7)
      rw [e15] at z
      exact ⟨z.1, by omega, fun c hc => by rw [z.2.2 c hc, up_n (by omega), up_n (by omega)]⟩
    · rw [if_neg hw]
      have c7 := co_7 (pg := f (48 + k)) h7
      have e15 := c7.2 15 (by omega)
      have z := ih (k + 1) l (coF (f (48 + k)) f) (by omega) (by omega) (by omega) (by rw [e15]; omega)
      rw [e15] at z
      exact ⟨z.1, by omega, fun c hc => by rw [z.2.2 c hc, c7.2 c (by omega)]⟩
theorem arF_c {f : Int → Int} (h8 : 0 ≤ f 8 ∧ f 8 ≤ 16) (h7 : 0 ≤ f 7 ∧ f 7 ≤ f 15 ∧ 1 ≤ f 15 ∧ f 15 ≤ 6) : (0 ≤ arF f 7 ∧ arF f 7 ≤ f 15) ∧ (0 ≤ arF f 8 ∧ arF f 8 ≤ f 8) ∧ ∀ c, (c < 7 ∨ (9 ≤ c ∧ c < 42) ∨ 112 ≤ c) → arF f c = f c := by
  have z := arN_c (f 8).toNat 0 0 f (by omega) (by omega) (by omega) h7
  unfold arF
  exact ⟨z.1, by omega, z.2.2⟩
theorem ou_c {f : Int → Int} {x : Int} (h : 0 ≤ f 4) : ouF x f 4 = f 4 + 1 ∧ ouF x f 3 = x ∧ ∀ c, c ≠ 3 → c ≠ 4 → (c < 112 ∨ 312 ≤ c) → ouF x f c = f c := by
  unfold ouF
  refine ⟨by rw [up_n (by omega), up_s], up_s, fun c h3 h4 h5 => ?_⟩
  rw [up_n h3, up_n h4]
  split
  · rw [up_n (by omega)]
  · rfl
theorem us_c {f : Int → Int} {pg k : Int} (h : 0 ≤ k ∧ k < f 7 ∧ f 7 ≤ 6) : ∀ c, (c < 42 ∨ 48 ≤ c) → inF pg (lvs k f) c = f c := by
  intro c hc
  unfold inF
  have e7 : lvs k f 7 = f 7 - 1 := up_s
  rw [e7]
  by_cases h7 : c = 7
  · rw [h7, up_s]; omega
  · rw [up_n h7, up_n (by omega)]
    unfold lvs
    rw [up_n h7, if_neg (by omega)]
section A36
variable {I : Nat → Int → Int} {b : Bool} {S : Nat}
theorem pg_wr {T fs f : Int → Int} (ok : tOk T) (hfs : fsOk T fs) (ha : atOk T f) (h0 : f 0 ≠ -4) (hp : phOk T f) : wr ((wr (fs (segAt T f) + (f 1).tdiv 16)).tdiv 8) = pgF T fs f ∧ 0 ≤ pgF T fs f := by
  have a := at_seg ok ha h0
  have hl := hp.2.2 h0
  have hp1 := hp.1
  unfold lenAt at hl
  have z := hfs _ a.1.1 a.1.2
  unfold pgF
  rw [td_ed hp1, wr_id (a := _ + f 1 / 16) (by omega) (by omega), td_ed (by omega), wr_id (by omega) (by omega)]
  exact ⟨rfl, by omega⟩
theorem so_ok {T fs f : Int → Int} {N : Int} (ok : tOk T) (h : pvB T f N) (h0 : f 0 ≠ -4) : pvB T (soF T fs f) (N + 1000) ∧ ∀ c, (c < 0 ∨ 392 ≤ c) → soF T fs f c = f c := by
  obtain ⟨ha, hp, h13, h14, h15, h16, h17, h7, h8, h4, h6⟩ := h
  unfold soF
  by_cases hc : caF f (pgF T fs f) = -4
  · rw [if_pos hc]
    have u : ∀ c, c ≠ 5 → up f 5 (wr (f 5 + 1)) c = f c := fun c hc => up_n hc
    have o := ou_c (f := up f 5 (wr (f 5 + 1))) (x := f 3) (by rw [u 4 (by omega)]; omega)
    have o2 : ∀ c, c ≠ 3 → c ≠ 4 → c ≠ 5 → (c < 112 ∨ 312 ≤ c) → ouF (f 3) (up f 5 (wr (f 5 + 1))) c = f c := fun c a1 a2 a3 a4 => (o.2.2 c a1 a2 a4).trans (u c a3)
    have o4 := o.1
    rw [u 4 (by omega)] at o4
    refine ⟨⟨at_c (o2 0 (by omega) (by omega) (by omega) (by omega)) ha, ph_c (o2 0 (by omega) (by omega) (by omega) (by omega)) (o2 1 (by omega) (by omega) (by omega) (by omega)) hp, ?_, ?_, ?_, ?_, ?_, ?_, ?_, ?_, ?_⟩, fun c hc => o2 c (by omega) (by omega) (by omega) (by omega)⟩
    · rw [o2 13 (by omega) (by omega) (by omega) (by omega)]; exact h13
    · rw [o2 14 (by omega) (by omega) (by omega) (by omega)]; exact h14
    · rw [o2 15 (by omega) (by omega) (by omega) (by omega)]; exact h15
    · rw [o2 16 (by omega) (by omega) (by omega) (by omega)]; exact h16
    · rw [o2 17 (by omega) (by omega) (by omega) (by omega)]; exact h17
    · rw [o2 7 (by omega) (by omega) (by omega) (by omega), o2 15 (by omega) (by omega) (by omega) (by omega)]; exact h7
    · rw [o2 8 (by omega) (by omega) (by omega) (by omega)]; exact h8
    · rw [o4]; omega
    · rw [o2 6 (by omega) (by omega) (by omega) (by omega)]; omega
  · rw [if_neg hc]
    have cr := (ca_r (pg := pgF T fs f) h7.1).resolve_left (fun z => hc z.1)
    have us := us_c (pg := pgF T fs f) (k := caF f (pgF T fs f)) (f := f) (by omega)
    dsimp only
    generalize inF (pgF T fs f) (lvs (caF f (pgF T fs f)) f) = g at us ⊢
    have o := ou_c (f := g) (x := lvF T g) (by rw [us 4 (by omega)]; omega)
    generalize ouF (lvF T g) g = e at o ⊢
    have oe : ∀ c, c ≠ 3 → c ≠ 4 → (c < 42 ∨ (48 ≤ c ∧ c < 112) ∨ 312 ≤ c) → e c = f c := fun c a1 a2 a3 => (o.2.2 c a1 a2 (by omega)).trans (us c (by omega))
    have e0 := oe 0 (by omega) (by omega) (by omega)
    have e1 := oe 1 (by omega) (by omega) (by omega)
    have e6 := oe 6 (by omega) (by omega) (by omega)
    have e13 := oe 13 (by omega) (by omega) (by omega)
    have e4 := o.1
    rw [us 4 (by omega)] at e4
    have d := advF_eq (lg := 1) (f := e) ok (at_c e0 ha) (by rw [e0]; exact h0) (ph_c e0 e1 hp) (by omega) (by omega)
    obtain ⟨-, d2, d3, d4, d5⟩ := d
    refine ⟨⟨d2, d3, ?_, ?_, ?_, ?_, ?_, ?_, ?_, ?_, ?_⟩, fun c hc => by rw [d5 c (by omega), oe c (by omega) (by omega) (by omega)]⟩
    · rw [d5 13 (by omega), e13]; exact h13
    · rw [d5 14 (by omega), oe 14 (by omega) (by omega) (by omega)]; exact h14
    · rw [d5 15 (by omega), oe 15 (by omega) (by omega) (by omega)]; exact h15
    · rw [d5 16 (by omega), oe 16 (by omega) (by omega) (by omega)]; exact h16
    · rw [d5 17 (by omega), oe 17 (by omega) (by omega) (by omega)]; exact h17
    · rw [d5 7 (by omega), oe 7 (by omega) (by omega) (by omega), d5 15 (by omega), oe 15 (by omega) (by omega) (by omega)]; exact h7
    · rw [d5 8 (by omega), oe 8 (by omega) (by omega) (by omega)]; exact h8
    · rw [d5 4 (by omega), e4]; omega
    · omega
theorem r_sounds {f : Int → Int} {N : Int} (ok : tOk (I 88)) (hfs : fsOk (I 88) (I 91)) (h : pvB (I 88) f N) (hN : N < 2147400000) (h0 : f 0 ≠ -4) (hl : I 87 21 = 1) : zrun 176 [vR 87] (sP I 99 f, zRs b, 103, S) = some (none, (sP I 99 (soF (I 88) (I 91) f), zRs b, 103, S)) := by
  obtain ⟨ha, hp, h13, h14, h15, h16, h17, h7, h8, h4, h6⟩ := h
  have pw := pg_wr ok hfs ha h0 hp
  rw [run176, e176_0, r_placeAt ok ha h0 hp, Option.bind_some]
  simp only [zpush_s]
  rw [e176_4, pw.1, r_cachedAt (by omega), Option.bind_some]
  simp only [zpush_s]
  rw [e176_13]
  unfold soF
  by_cases hc : caF f (pgF (I 88) (I 91) f) = -4
  · rw [if_pos hc, if_pos hc, sIP, sP_s, r_outs (by rw [up_n (by omega)]; omega), Option.bind_some]
    simp only [zpush_n]
    rw [e176_40]
  · rw [if_neg hc, if_neg hc]
    have cr := (ca_r (pg := pgF (I 88) (I 91) f) h7.1).resolve_left (fun z => hc z.1)
    rw [r_leaves (by omega), Option.bind_some]
    simp only [zpush_n]
    have us := us_c (pg := pgF (I 88) (I 91) f) (k := caF f (pgF (I 88) (I 91) f)) (f := f) (by omega)
    have e7 : lvs (caF f (pgF (I 88) (I 91) f)) f 7 = f 7 - 1 := up_s
    rw [e176_46, sP_s, e7, wr_id (by omega) (by omega), if_pos (by omega), sIP, sP_s, up_n (by omega), e7, wr_id (by omega) (by omega), sIP]
    have ie : up (up (lvs (caF f (pgF (I 88) (I 91) f)) f) (42 + (f 7 - 1)) (pgF (I 88) (I 91) f)) 7 (f 7 - 1 + 1) = inF (pgF (I 88) (I 91) f) (lvs (caF f (pgF (I 88) (I 91) f)) f) := by
      unfold inF; rw [e7]
    rw [ie]
    generalize inF (pgF (I 88) (I 91) f) (lvs (caF f (pgF (I 88) (I 91) f)) f) = g at us ⊢
    have g0 := us 0 (by omega)
    have g1 := us 1 (by omega)
    have g4 := us 4 (by omega)
    rw [r_levelNow ok (at_c g0 ha) (by rw [g0]; exact h0) (ph_c g0 g1 hp), Option.bind_some]
    simp only [zpush_s]
    rw [e176_78, r_outs (by rw [g4]; omega), Option.bind_some]
    simp only [zpush_n]
    have o := ou_c (f := g) (x := lvF (I 88) g) (by rw [g4]; omega)
    generalize ouF (lvF (I 88) g) g = e at o ⊢
    have oe : ∀ c, c ≠ 3 → c ≠ 4 → (c < 42 ∨ (48 ≤ c ∧ c < 112) ∨ 312 ≤ c) → e c = f c := fun c a1 a2 a3 => (o.2.2 c a1 a2 (by omega)).trans (us c (by omega))
    have e0 := oe 0 (by omega) (by omega) (by omega)
    have e1 := oe 1 (by omega) (by omega) (by omega)
    have e6 := oe 6 (by omega) (by omega) (by omega)
    have e13 := oe 13 (by omega) (by omega) (by omega)
    rw [e176_81, r_steps ok (at_c e0 ha) (by rw [e0]; exact h0) (ph_c e0 e1 hp) (by omega) (by omega) (by omega), Option.bind_some, hl]
    simp only [zpush_n]
    rw [e176_85]
end A36
theorem r_seekL {b : Bool} {S : Nat} {T fs : Int → Int} (ok : tOk T) (hfs : fsOk T fs) : ∀ (n : Nat) (I : Nat → Int → Int) (a : Int) (f : Int → Int), I 88 = T → I 91 = fs → I 87 21 = 0 → I 87 23 = a → a + n = I 93 17 + 1 → 0 ≤ a → I 93 17 ≤ 16 → atOk T f → phOk T f → 1 ≤ f 13 ∧ f 13 ≤ 64 → 0 ≤ f 6 → f 6 + 920 * n < 2147480000 → ∃ X Z, zX 177 12 [vR 87, vI a] [] (sP I 99 f, zRs b, 103, S) = some (none, (sP (sP (sP I 100 X) 87 (up (I 87) 23 (a + ((skF T fs n f).length : Int)))) 99 Z, zRs b, 103, S)) ∧ (∀ j : Nat, j < (skF T fs n f).length → X (a + (j : Int)) = (skF T fs n f).getD j 0) ∧ (∀ j, j < a → X j = I 100 j) ∧ ∀ c, (c < 0 ∨ 392 ≤ c) → Z c = f c := by
  have stop : ∀ (I : Nat → Int → Int) (a : Int) (f : Int → Int), I 87 23 = a → (I 93 17 < a ∨ f 0 = -4) → zX 177 12 [vR 87, vI a] [] (sP I 99 f, zRs b, 103, S) = some (none, (sP (sP (sP I 100 (I 100)) 87 (up (I 87) 23 (a + 0))) 99 f, zRs b, 103, S)) := by
    intro I a f h23 h
    rw [sP_I, show a + 0 = I 87 23 by omega, up_id, sP_I, e177_12, sP_s, sP_n (by decide)]
    by_cases h1 : I 93 17 < a
    · rw [if_pos h1]
    · rw [if_neg h1, if_pos (h.resolve_left h1)]
  intro n
  induction n with
  | zero =>
    intro I a f hT hF h21 h23 hn h0 h17 ha hp h13 h6 h7
    exact ⟨I 100, f, stop I a f h23 (Or.inl (by omega)), fun j hj => absurd hj (Nat.not_lt_zero j), fun _ _ => rfl, fun _ _ => rfl⟩
  | succ n ih =>
    intro I a f hT hF h21 h23 hn h0 h17 ha hp h13 h6 h7
    by_cases hf : f 0 = -4
    · have e : skF T fs (n + 1) f = [] := by unfold skF; rw [if_pos hf]
      rw [e]
      exact ⟨I 100, f, stop I a f h23 (Or.inr hf), fun j hj => absurd hj (Nat.not_lt_zero j), fun _ _ => rfl, fun _ _ => rfl⟩
    · have e : skF T fs (n + 1) f = pgF T fs f :: skF T fs n (advF T 0 f) := by
        show (if _ then _ else _) = _
        rw [if_neg hf]
      have pw := pg_wr ok hfs ha hf hp
      subst hT hF
      have d := advF_eq (lg := 0) (f := f) ok ha hf hp h13 h6
      obtain ⟨X, Z, q1, q2, q3, q4⟩ := ih (sI (sI I 100 a (pgF (I 88) (I 91) f)) 87 23 (a + 1)) (a + 1) (advF (I 88) 0 f) (by funext j; rw [sI_p (by decide), sI_p (by decide)]) (by funext j; rw [sI_p (by decide), sI_p (by decide)]) (by rw [sI_k (by decide), sI_p (by decide)]; exact h21) sI_s (by rw [sI_p (by decide), sI_p (by decide)]; omega) (by omega) (by rw [sI_p (by decide), sI_p (by decide)]; exact h17) d.2.1 d.2.2.1 (by rw [d.2.2.2.2 13 (by omega)]; exact h13) (by omega) (by omega)
      refine ⟨X, Z, ?_, ?_, fun j hj => ?_, fun c hc => by rw [q4 c hc, d.2.2.2.2 c (by omega)]⟩
      · rw [e177_12, sP_s, sP_n (by decide), if_neg (by omega), if_neg hf, r_placeAt ok ha hf hp, Option.bind_some]
        simp only [zpush_s, sP_n (show 87 ≠ 99 by decide)]
        rw [h23, e177_46, if_pos (by omega), pw.1, sIP_n (by decide), sIP_n (by decide), sP_n (by decide), h23, wr_id (by omega) (by omega)]
        have hs := r_steps (I := sI (sI I 100 a (pgF (I 88) (I 91) f)) 87 23 (a + 1)) (b := b) (S := S) (f := f) (by rw [show (sI (sI I 100 a (pgF (I 88) (I 91) f)) 87 23 (a + 1)) 88 = I 88 by funext j; rw [sI_p (by decide), sI_p (by decide)]]; exact ok) (by rw [show (sI (sI I 100 a (pgF (I 88) (I 91) f)) 87 23 (a + 1)) 88 = I 88 by funext j; rw [sI_p (by decide), sI_p (by decide)]]; exact ha) hf (by rw [show (sI (sI I 100 a (pgF (I 88) (I 91) f)) 87 23 (a + 1)) 88 = I 88 by funext j; rw [sI_p (by decide), sI_p (by decide)]]; exact hp) h13 h6 (by omega)
        rw [hs, Option.bind_some]
        simp only [zpush_n]
        rw [e177_64, wr_id (by omega) (by omega), show (sI (sI I 100 a (pgF (I 88) (I 91) f)) 87 23 (a + 1)) 88 = I 88 by funext j; rw [sI_p (by decide), sI_p (by decide)], sI_k (by decide), sI_p (by decide), h21, q1, e]
        congr 2
        congr 1
        rw [sI_sP (p := 87), sI_sP (p := 100), sP_s, sP_n (show 87 ≠ 100 by decide)]
        rw [sP_c (show 87 ≠ 100 by decide), sP_sP, sP_sP]
        rw [show up (up (I 87) 23 (a + 1)) 23 (a + 1 + ((skF (I 88) (I 91) n (advF (I 88) 0 f)).length : Int)) = up (I 87) 23 (a + ((pgF (I 88) (I 91) f :: skF (I 88) (I 91) n (advF (I 88) 0 f)).length : Int)) by
          funext c; unfold up; split
          · rw [List.length_cons]; omega
          · rfl]
      · rw [e]
        intro j hj
        cases j with
        | zero =>
          show X (a + 0) = pgF (I 88) (I 91) f
          rw [q3 (a + 0) (by omega), sI_p (by decide), show a + 0 = a by omega, sI_s]
        | succ j =>
          show X (a + ((j + 1 : Nat) : Int)) = (skF (I 88) (I 91) n (advF (I 88) 0 f)).getD j 0
          rw [← q2 j (by rw [List.length_cons] at hj; omega), show a + ((j + 1 : Nat) : Int) = a + 1 + (j : Int) by omega]
      · rw [q3 j (by omega), sI_p (by decide), sI_k (by omega)]
