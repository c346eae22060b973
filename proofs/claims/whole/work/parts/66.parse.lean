/-! ===== a text, token by token, purely ===== -/
abbrev Cf : Type := Int × Int × (Int → Int) × (Int → Int) × List Int × Int × Int
def lvA (D : Int → Int) (v : Int) : Int → Int := up (up D (3 + 17 * D 0 + mn D (D 0)) v) (2 + 17 * D 0) (mn D (D 0) + 1)
def grT (D : Int → Int) (ik : Int) : Int := if ik = 0 then D 0 - 1 else if ik = 3 then 3 else 9
def st0 (t : Int → Int) (n p : Int) (D su : Int → Int) (st : List Int) (ik iv : Int) : Int × Cf := if nmG t n p then (-1, (2, tE t n p, D, su, st, ik, iv)) else if nmS t n p then (if D 0 < 8 then (-1, (1, tE t n p, D, su, st, ik, iv)) else (4, (0, p, D, su, st, ik, iv))) else (2, (0, p, D, su, st, ik, iv))
def st1 (t : Int → Int) (n p : Int) (D su : Int → Int) (st : List Int) (ik iv : Int) : Int × Cf := if 0 < mn D (D 0) ∧ sgT t n p 59 then (-1, (0, tE t n p, up D 0 (D 0 + 1), su, st, ik, iv)) else if tK t n p = 1 then (if mn D (D 0) < 16 then (-1, (1, tE t n p, lvA D (tV t n p), su, st, ik, iv)) else (4, (1, p, D, su, st, ik, iv))) else (2, (1, p, D, su, st, ik, iv))
def stE (t : Int → Int) (n p : Int) (D su : Int → Int) (ik iv : Int) : List Int → Int × Cf
  | [] => (2, (2, p, D, su, [], ik, iv))
  | o :: st => if D 1 < 24 then (if 0 < su (D 1) then (-1, (2, tE t n p, enI D o st.length, up su (D 1 + 1) (aE (su o) (mE D o (su (D 1)))), st, ik, iv)) else (6, (2, p, D, su, o :: st, ik, iv))) else (4, (2, p, D, su, o :: st, ik, iv))
def st2 (t : Int → Int) (n p : Int) (D su : Int → Int) (st : List Int) (ik iv : Int) : Int × Cf := if sgT t n p 41 then stE t n p D su ik iv st else if sgT t n p 59 ∧ (st.length : Int) = 0 then (-1, (5, tE t n p, D, su, st, ik, iv)) else if 0 ≤ kN t n p then (if D 1 < 24 then (-1, (3, tE t n p, D, su, st, kN t n p, iv)) else (4, (2, p, D, su, st, ik, iv))) else (2, (2, p, D, su, st, ik, iv))
def st3 (t : Int → Int) (n p : Int) (D su : Int → Int) (st : List Int) (ik iv : Int) : Int × Cf := if tK t n p = 1 then (if (if ik = 2 then 1 else 0) ≤ tV t n p ∧ tV t n p ≤ grT D ik then (if ik = 0 then (-1, (2, tE t n p, adI D 0 (tV t n p) (-4) st.length, up su (D 1 + 1) (aE (su (D 1)) (mn D (tV t n p))), st, ik, tV t n p)) else if ik = 1 then (-1, (2, tE t n p, adI D 1 (tV t n p) (-4) st.length, up su (D 1 + 1) (su (D 1)), st, ik, tV t n p)) else (-1, (4, tE t n p, D, su, st, ik, tV t n p))) else (3, (3, p, D, su, st, ik, iv))) else (2, (3, p, D, su, st, ik, iv))
def st4 (t : Int → Int) (n p : Int) (D su : Int → Int) (st : List Int) (ik iv : Int) : Int × Cf := if sgT t n p 40 then (if (st.length : Int) < 4 then (-1, (2, tE t n p, adI D ik iv (-4) st.length, up su (D 1 + 1) 0, D 1 :: st, ik, iv)) else (5, (4, p, D, su, st, ik, iv))) else (2, (4, p, D, su, st, ik, iv))
def stp (t : Int → Int) (n : Int) (c : Cf) : Int × Cf := if tK t n c.2.1 = 4 then (1, c) else if c.1 = 0 then st0 t n c.2.1 c.2.2.1 c.2.2.2.1 c.2.2.2.2.1 c.2.2.2.2.2.1 c.2.2.2.2.2.2 else if c.1 = 1 then st1 t n c.2.1 c.2.2.1 c.2.2.2.1 c.2.2.2.2.1 c.2.2.2.2.2.1 c.2.2.2.2.2.2 else if c.1 = 2 then st2 t n c.2.1 c.2.2.1 c.2.2.2.1 c.2.2.2.2.1 c.2.2.2.2.2.1 c.2.2.2.2.2.2 else if c.1 = 3 then st3 t n c.2.1 c.2.2.1 c.2.2.2.1 c.2.2.2.2.1 c.2.2.2.2.2.1 c.2.2.2.2.2.2 else if c.1 = 4 then st4 t n c.2.1 c.2.2.1 c.2.2.2.1 c.2.2.2.2.1 c.2.2.2.2.2.1 c.2.2.2.2.2.2 else if tK t n c.2.1 = 3 then (0, c) else (2, c)
def pz (t : Int → Int) (n : Int) : Nat → Cf → Int × Int × Cf
  | 0, c => (9, 0, c)
  | m + 1, c => if (stp t n c).1 = -1 then pz t n m (stp t n c).2 else ((stp t n c).1, tS t n c.2.1, c)
def ph0 (D su : Int → Int) (st : List Int) : Prop := D 1 = 0 ∧ su = (fun _ => 0) ∧ st = []
def phO (q : Int) (D su : Int → Int) (st : List Int) (ik iv : Int) : Prop := (0 ≤ q ∧ q ≤ 5) ∧ (q = 0 → ph0 D su st ∧ ∀ s, D 0 ≤ s → s < 8 → mn D s = 0) ∧ (q = 1 → ph0 D su st ∧ D 0 < 8 ∧ (0 ≤ mn D (D 0) ∧ mn D (D 0) ≤ 16) ∧ (∀ i, 0 ≤ i → i < mn D (D 0) → 0 ≤ lv D (D 0) i ∧ lv D (D 0) i ≤ 99) ∧ ∀ s, D 0 < s → s < 8 → mn D s = 0) ∧ (q = 3 → D 1 < 24 ∧ 0 ≤ ik ∧ ik ≤ 3) ∧ (q = 4 → D 1 < 24 ∧ ((ik = 2 ∧ 1 ≤ iv ∧ iv ≤ 9) ∨ (ik = 3 ∧ 0 ≤ iv ∧ iv ≤ 3))) ∧ (q = 5 → st = [])
def cOk (n : Int) (c : Cf) : Prop := (0 ≤ c.2.1 ∧ c.2.1 ≤ n) ∧ bOk c.2.2.1 c.2.2.2.1 c.2.2.2.2.1 ∧ Z4 c.2.2.1 ∧ phO c.1 c.2.2.1 c.2.2.2.1 c.2.2.2.2.1 c.2.2.2.2.2.1 c.2.2.2.2.2.2
section A66
variable {t : Int → Int} {n p : Int} {D su : Int → Int} {st : List Int} {ik iv : Int}
theorem kN_b : kN t n p = 0 ∨ kN t n p = 1 ∨ kN t n p = 2 ∨ kN t n p = 3 ∨ kN t n p = -4 := by
  unfold kN
  split
  · omega
  · split
    · omega
    · split
      · omega
      · split <;> omega
theorem kN_0 (h : 0 ≤ kN t n p) : tK t n p = 0 := by
  unfold kN at h
  split at h
  · rename_i z; exact z.1
  · split at h
    · rename_i z; exact z.1
    · split at h
      · rename_i z; exact z.1
      · split at h
        · rename_i z; exact z.1
        · omega
theorem lvA_f : (∀ c, c ≠ 3 + 17 * D 0 + mn D (D 0) → c ≠ 2 + 17 * D 0 → lvA D p c = D c) := fun c h1 h2 => by unfold lvA; rw [up_n h2, up_n h1]
theorem lvA_sg (hs : sgO D) (h8 : D 0 < 8) (hm : 0 ≤ mn D (D 0) ∧ mn D (D 0) < 16) : sgO (lvA D p) := by
  obtain ⟨h1, h2, h3⟩ := hs
  have e0 : lvA D p 0 = D 0 := lvA_f 0 (by omega) (by omega)
  have em : ∀ s, 0 ≤ s → s < D 0 → mn (lvA D p) s = mn D s := fun s s0 s1 => by
    have : lvA D p (2 + 17 * s) = D (2 + 17 * s) := lvA_f _ (by omega) (by omega)
    exact this
  refine ⟨by rw [e0]; exact h1, fun s s0 s1 => ?_, fun s i s0 s1 i0 i1 => ?_⟩
  · rw [e0] at s1; rw [em s s0 s1]; exact h2 s s0 s1
  · rw [e0] at s1
    rw [em s s0 s1] at i1
    have := h2 s s0 s1
    have e : lv (lvA D p) s i = lv D s i := by unfold lv; exact lvA_f _ (by omega) (by omega)
    rw [e]; exact h3 s i s0 s1 i0 i1
theorem stE_c {o : Int} : stE t n p D su ik iv (o :: st) = if D 1 < 24 then (if 0 < su (D 1) then (-1, (2, tE t n p, enI D o st.length, up su (D 1 + 1) (aE (su o) (mE D o (su (D 1)))), st, ik, iv)) else (6, (2, p, D, su, o :: st, ik, iv))) else (4, (2, p, D, su, o :: st, ik, iv)) := rfl
theorem ph_2 : phO 2 D su st ik iv := ⟨by decide, fun z => absurd z (by decide), fun z => absurd z (by decide), fun z => absurd z (by decide), fun z => absurd z (by decide), fun z => absurd z (by decide)⟩
theorem c_next (hn : n ≤ 300) {c : Cf} (h : cOk n c) (hs : (stp t n c).1 = -1) : cOk n (stp t n c).2 ∧ tK t n c.2.1 ≠ 3 ∧ tK t n c.2.1 ≠ 4 ∧ (stp t n c).2.2.1 = tE t n c.2.1 := by
  obtain ⟨q, p, D, su, st, ik, iv⟩ := c
  obtain ⟨hp, hb, hz, ⟨hq, h0, h1, h3, h4, h5⟩⟩ := h
  simp only at hp hb hz hq h0 h1 h3 h4 h5 hs ⊢
  have tb := tok_b (t := t) hp
  have pE : 0 ≤ tE t n p ∧ tE t n p ≤ n := by omega
  have hD := hb.2.1
  unfold stp at hs ⊢
  simp only at hs ⊢
  by_cases k4 : tK t n p = 4
  · rw [if_pos k4] at hs; exact absurd hs (show ¬ (1 : Int) = -1 by decide)
  · rw [if_neg k4] at hs ⊢
    by_cases q0 : q = 0
    · rw [if_pos q0] at hs ⊢
      obtain ⟨⟨d1, dsu, dst⟩, dz⟩ := h0 q0
      unfold st0 at hs ⊢
      by_cases c1 : nmG t n p
      · rw [if_pos c1]
        exact ⟨⟨pE, hb, hz, ph_2⟩, by have := c1.1; omega, k4, rfl⟩
      · rw [if_neg c1] at hs ⊢
        by_cases c2 : nmS t n p
        · rw [if_pos c2] at hs ⊢
          by_cases c3 : D 0 < 8
          · rw [if_pos c3]
            have z := dz (D 0) (Int.le_refl _) c3
            exact ⟨⟨pE, hb, hz, ⟨by simp only; decide, fun w => absurd w (show ¬ (1 : Int) = 0 by decide), fun _ => ⟨⟨d1, dsu, dst⟩, c3, by simp only; omega, fun i i0 i1 => by simp only at i1; omega, fun s s0 s1 => dz s (by simp only at s0; omega) s1⟩, fun w => absurd w (show ¬ (1 : Int) = 3 by decide), fun w => absurd w (show ¬ (1 : Int) = 4 by decide), fun w => absurd w (show ¬ (1 : Int) = 5 by decide)⟩⟩, by have := c2.1; omega, k4, rfl⟩
          · rw [if_neg c3] at hs; exact absurd hs (show ¬ (4 : Int) = -1 by decide)
        · rw [if_neg c2] at hs; exact absurd hs (show ¬ (2 : Int) = -1 by decide)
    · rw [if_neg q0] at hs ⊢
      by_cases q1 : q = 1
      · rw [if_pos q1] at hs ⊢
        obtain ⟨⟨d1, dsu, dst⟩, d8, dm, dl, dz⟩ := h1 q1
        have sg := hb.1
        unfold st1 at hs ⊢
        by_cases c1 : 0 < mn D (D 0) ∧ sgT t n p 59
        · rw [if_pos c1]
          have u0 : up D 0 (D 0 + 1) 0 = D 0 + 1 := up_s
          have u1 : ∀ c, c ≠ 0 → up D 0 (D 0 + 1) c = D c := fun c hc => up_n hc
          have um : ∀ s, 0 ≤ s → mn (up D 0 (D 0 + 1)) s = mn D s := fun s s0 => by unfold mn; rw [u1 _ (by omega)]
          have ul : ∀ s i, 0 ≤ s → 0 ≤ i → lv (up D 0 (D 0 + 1)) s i = lv D s i := fun s i s0 i0 => by unfold lv; rw [u1 _ (by omega)]
          have sg' : sgO (up D 0 (D 0 + 1)) := by
            refine ⟨by rw [u0]; have := sg.1; omega, fun s s0 s1 => ?_, fun s i s0 s1 i0 i1 => ?_⟩
            · rw [u0] at s1
              rw [um s s0]
              by_cases e : s = D 0
              · rw [e]; omega
              · exact sg.2.1 s s0 (by omega)
            · rw [u0] at s1
              rw [um s s0] at i1
              rw [ul s i s0 i0]
              by_cases e : s = D 0
              · rw [e] at i1 ⊢; exact dl i i0 i1
              · exact sg.2.2 s i s0 (by omega) i0 i1
          have b0 : bOk (up D 0 (D 0 + 1)) (fun _ => 0) [] := bOk_0 (by rw [u1 1 (by decide)]; exact d1) sg'
          refine ⟨⟨pE, by simp only; rw [dsu, dst]; exact b0, z4_up hz (by decide), ⟨by simp only; decide, fun _ => ⟨⟨by simp only; rw [u1 1 (by decide)]; exact d1, dsu, dst⟩, fun s s0 s1 => ?_⟩, fun w => absurd w (show ¬ (0 : Int) = 1 by decide), fun w => absurd w (show ¬ (0 : Int) = 3 by decide), fun w => absurd w (show ¬ (0 : Int) = 4 by decide), fun w => absurd w (show ¬ (0 : Int) = 5 by decide)⟩⟩, by have := c1.2.1; omega, k4, rfl⟩
          simp only at s0 ⊢
          rw [u0] at s0
          rw [um s (by have := sg.1; omega)]
          exact dz s (by omega) s1
        · rw [if_neg c1] at hs ⊢
          by_cases c2 : tK t n p = 1
          · rw [if_pos c2] at hs ⊢
            by_cases c3 : mn D (D 0) < 16
            · rw [if_pos c3]
              have tv := tV_b c2 hp
              have f := lvA_f (D := D) (p := tV t n p)
              have e0 : lvA D (tV t n p) 0 = D 0 := f 0 (by have := sg.1; omega) (by have := sg.1; omega)
              have e1 : lvA D (tV t n p) 1 = 0 := by rw [f 1 (by have := sg.1; omega) (by have := sg.1; omega)]; exact d1
              have em : mn (lvA D (tV t n p)) (D 0) = mn D (D 0) + 1 := up_s
              have b0 : bOk (lvA D (tV t n p)) (fun _ => 0) [] := bOk_0 e1 (lvA_sg sg d8 ⟨dm.1, c3⟩)
              refine ⟨⟨pE, by simp only; rw [dsu, dst]; exact b0, z4_up (z4_up hz (by have := sg.1; omega)) (by have := sg.1; omega), ⟨by simp only; decide, fun w => absurd w (show ¬ (1 : Int) = 0 by decide), fun _ => ⟨⟨e1, dsu, dst⟩, by simp only; omega, by simp only; rw [e0, em]; omega, fun i i0 i1 => ?_, fun s s0 s1 => ?_⟩, fun w => absurd w (show ¬ (1 : Int) = 3 by decide), fun w => absurd w (show ¬ (1 : Int) = 4 by decide), fun w => absurd w (show ¬ (1 : Int) = 5 by decide)⟩⟩, by omega, k4, rfl⟩
              · simp only at i1 ⊢
                rw [e0, em] at i1
                rw [e0]
                by_cases e : i = mn D (D 0)
                · have : lv (lvA D (tV t n p)) (D 0) i = tV t n p := by unfold lv lvA; rw [e, up_n (by omega), up_s]
                  rw [this]; exact tv
                · have : lv (lvA D (tV t n p)) (D 0) i = lv D (D 0) i := by unfold lv; exact f _ (by omega) (by omega)
                  rw [this]; exact dl i i0 (by omega)
              · simp only at s0 ⊢
                rw [e0] at s0
                have : mn (lvA D (tV t n p)) s = mn D s := by unfold mn; unfold mn at f dm c3; exact f _ (by have := sg.1; omega) (by omega)
                rw [this]; exact dz s s0 s1
            · rw [if_neg c3] at hs; exact absurd hs (show ¬ (4 : Int) = -1 by decide)
          · rw [if_neg c2] at hs; exact absurd hs (show ¬ (2 : Int) = -1 by decide)
      · rw [if_neg q1] at hs ⊢
        by_cases q2 : q = 2
        · rw [if_pos q2] at hs ⊢
          unfold st2 at hs ⊢
          by_cases c1 : sgT t n p 41
          · rw [if_pos c1] at hs ⊢
            cases st with
            | nil => exact absurd hs (show ¬ (2 : Int) = -1 by decide)
            | cons o st =>
              rw [stE_c] at hs ⊢
              by_cases c2 : D 1 < 24
              · rw [if_pos c2] at hs ⊢
                by_cases c3 : 0 < su (D 1)
                · rw [if_pos c3]
                  have om := lvl_mem _ _ hb.2.2.2.2.2.2.2 o List.mem_cons_self
                  exact ⟨⟨pE, b_end hb c2 c3, z4_en hz ⟨hD.1, c2⟩ (by omega), ph_2⟩, by have := c1.1; omega, k4, rfl⟩
                · rw [if_neg c3] at hs; exact absurd hs (show ¬ (6 : Int) = -1 by decide)
              · rw [if_neg c2] at hs; exact absurd hs (show ¬ (4 : Int) = -1 by decide)
          · rw [if_neg c1] at hs ⊢
            by_cases c2 : sgT t n p 59 ∧ (st.length : Int) = 0
            · rw [if_pos c2]
              exact ⟨⟨pE, hb, hz, ⟨by simp only; decide, fun w => absurd w (show ¬ (5 : Int) = 0 by decide), fun w => absurd w (show ¬ (5 : Int) = 1 by decide), fun w => absurd w (show ¬ (5 : Int) = 3 by decide), fun w => absurd w (show ¬ (5 : Int) = 4 by decide), fun _ => List.eq_nil_of_length_eq_zero (by simp only; omega)⟩⟩, by have := c2.1.1; omega, k4, rfl⟩
            · rw [if_neg c2] at hs ⊢
              by_cases c3 : 0 ≤ kN t n p
              · rw [if_pos c3] at hs ⊢
                by_cases c4 : D 1 < 24
                · rw [if_pos c4]
                  have kb := kN_b (t := t) (n := n) (p := p)
                  exact ⟨⟨pE, hb, hz, ⟨by simp only; decide, fun w => absurd w (show ¬ (3 : Int) = 0 by decide), fun w => absurd w (show ¬ (3 : Int) = 1 by decide), fun _ => ⟨c4, c3, by simp only; omega⟩, fun w => absurd w (show ¬ (3 : Int) = 4 by decide), fun w => absurd w (show ¬ (3 : Int) = 5 by decide)⟩⟩, by have := kN_0 c3; omega, k4, rfl⟩
                · rw [if_neg c4] at hs; exact absurd hs (show ¬ (4 : Int) = -1 by decide)
              · rw [if_neg c3] at hs; exact absurd hs (show ¬ (2 : Int) = -1 by decide)
        · rw [if_neg q2] at hs ⊢
          by_cases q3 : q = 3
          · rw [if_pos q3] at hs ⊢
            obtain ⟨dn, dk⟩ := h3 q3
            unfold st3 at hs ⊢
            by_cases c1 : tK t n p = 1
            · rw [if_pos c1] at hs ⊢
              have tv := tV_b c1 hp
              by_cases c2 : (if ik = 2 then 1 else 0) ≤ tV t n p ∧ tV t n p ≤ grT D ik
              · rw [if_pos c2] at hs ⊢
                unfold grT at c2
                by_cases c3 : ik = 0
                · rw [if_pos c3]
                  rw [if_neg (by omega), if_pos c3] at c2
                  have bs := b_simple (d := st.length) hb dn (Or.inl ⟨rfl, tv.1, by omega⟩)
                  rw [if_pos rfl] at bs
                  exact ⟨⟨pE, bs, z4_ad hz ⟨hD.1, dn⟩, ph_2⟩, by omega, k4, rfl⟩
                · rw [if_neg c3]
                  rw [if_neg (show ¬ ik = 0 from c3)] at c2
                  by_cases c4 : ik = 1
                  · rw [if_pos c4]
                    rw [if_neg (show ¬ ik = 3 by omega)] at c2
                    have bs := b_simple (d := st.length) hb dn (Or.inr ⟨rfl, tv.1, c2.2⟩)
                    rw [if_neg (by decide)] at bs
                    exact ⟨⟨pE, bs, z4_ad hz ⟨hD.1, dn⟩, ph_2⟩, by omega, k4, rfl⟩
                  · rw [if_neg c4]
                    refine ⟨⟨pE, hb, hz, ⟨by simp only; decide, fun w => absurd w (show ¬ (4 : Int) = 0 by decide), fun w => absurd w (show ¬ (4 : Int) = 1 by decide), fun w => absurd w (show ¬ (4 : Int) = 3 by decide), fun _ => ⟨dn, ?_⟩, fun w => absurd w (show ¬ (4 : Int) = 5 by decide)⟩⟩, by omega, k4, rfl⟩
                    simp only
                    by_cases c5 : ik = 2
                    · rw [if_pos c5, if_neg (by omega)] at c2
                      exact Or.inl ⟨c5, c2.1, c2.2⟩
                    · rw [if_neg c5, if_pos (by omega)] at c2
                      exact Or.inr ⟨by omega, c2.1, c2.2⟩
              · rw [if_neg c2] at hs; exact absurd hs (show ¬ (3 : Int) = -1 by decide)
            · rw [if_neg c1] at hs; exact absurd hs (show ¬ (2 : Int) = -1 by decide)
          · rw [if_neg q3] at hs ⊢
            by_cases q4 : q = 4
            · rw [if_pos q4] at hs ⊢
              obtain ⟨dn, dk⟩ := h4 q4
              unfold st4 at hs ⊢
              by_cases c1 : sgT t n p 40
              · rw [if_pos c1] at hs ⊢
                by_cases c2 : (st.length : Int) < 4
                · rw [if_pos c2]
                  exact ⟨⟨pE, b_begin (d := st.length) hb dn (by omega) dk, z4_ad hz ⟨hD.1, dn⟩, ph_2⟩, by have := c1.1; omega, k4, rfl⟩
                · rw [if_neg c2] at hs; exact absurd hs (show ¬ (5 : Int) = -1 by decide)
              · rw [if_neg c1] at hs; exact absurd hs (show ¬ (2 : Int) = -1 by decide)
            · rw [if_neg q4] at hs
              split at hs
              · exact absurd hs (show ¬ (0 : Int) = -1 by decide)
              · exact absurd hs (show ¬ (2 : Int) = -1 by decide)
theorem i9 {P : Prop} {inst : Decidable P} {x y : Int × Cf} (h1 : x.1 ≠ 9) (h2 : y.1 ≠ 9) : (if P then x else y).1 ≠ 9 := by split; exact h1; exact h2
theorem n9 {a : Int} {c : Cf} (h : a ≠ 9) : ((a, c) : Int × Cf).1 ≠ 9 := h
theorem stE_9 : ∀ st : List Int, (stE t n p D su ik iv st).1 ≠ 9 := by
  intro st
  cases st with
  | nil => exact n9 (by decide)
  | cons o st => rw [stE_c]; exact i9 (i9 (n9 (by decide)) (n9 (by decide))) (n9 (by decide))
theorem stp_9 {c : Cf} : (stp t n c).1 ≠ 9 := by
  unfold stp
  refine i9 (n9 (by decide)) (i9 ?_ (i9 ?_ (i9 ?_ (i9 ?_ (i9 ?_ (i9 (n9 (by decide)) (n9 (by decide))))))))
  · unfold st0; exact i9 (n9 (by decide)) (i9 (i9 (n9 (by decide)) (n9 (by decide))) (n9 (by decide)))
  · unfold st1; exact i9 (n9 (by decide)) (i9 (i9 (n9 (by decide)) (n9 (by decide))) (n9 (by decide)))
  · unfold st2; exact i9 (stE_9 _) (i9 (n9 (by decide)) (i9 (i9 (n9 (by decide)) (n9 (by decide))) (n9 (by decide))))
  · unfold st3; exact i9 (i9 (i9 (n9 (by decide)) (i9 (n9 (by decide)) (n9 (by decide)))) (n9 (by decide))) (n9 (by decide))
  · unfold st4; exact i9 (i9 (n9 (by decide)) (n9 (by decide))) (n9 (by decide))
theorem pz_9 (hn : n ≤ 300) : ∀ (m : Nat) (c : Cf), cOk n c → n - c.2.1 < m → (pz t n m c).1 ≠ 9 := by
  intro m
  induction m with
  | zero => intro c h hl; have := h.1; omega
  | succ m ih =>
    intro c h hl
    show (if _ then _ else _ : Int × Int × Cf).1 ≠ 9
    by_cases hs : (stp t n c).1 = -1
    · rw [if_pos hs]
      have a := c_next hn h hs
      have tb := tok_b (t := t) h.1
      exact ih _ a.1 (by have := tb.2.2.2.2.2 a.2.1; rw [a.2.2.2]; omega)
    · rw [if_neg hs]; exact stp_9
end A66
