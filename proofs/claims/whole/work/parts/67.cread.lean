/-! ===== the class reads a text ===== -/
def plI (I : Nat → Int → Int) (g : Nat) (D : Int → Int) : Prop := I (g + 1) 5 = D 0 ∧ (∀ s, 0 ≤ s → s < D 0 → I (g + 4) s = mn D s) ∧ poolIs D (D 0) (I (g + 3)) (I (g + 5)) (I (g + 2)) (I (g + 1) 4)
def cRp (I : Nat → Int → Int) (g : Nat) (c : Cf) : Prop := I 4 7 = c.1 ∧ cI I g c.2.2.1 c.2.2.2.1 c.2.2.2.2.1 ∧ plI I g c.2.2.1 ∧ (c.1 = 1 → I 4 4 = mn c.2.2.1 (c.2.2.1 0) ∧ ∀ i, 0 ≤ i → i < mn c.2.2.1 (c.2.2.1 0) → I 5 i = lv c.2.2.1 (c.2.2.1 0) i) ∧ (c.1 = 3 → I 4 5 = c.2.2.2.2.2.1) ∧ (c.1 = 4 → I 4 5 = c.2.2.2.2.2.1 ∧ I 4 6 = c.2.2.2.2.2.2)
def tkC (I : Nat → Int → Int) (t : Int → Int) (n p : Int) : Prop := I 2 1 = n ∧ I 2 2 = tK t n p ∧ I 2 3 = tS t n p ∧ I 2 4 = tE t n p ∧ (tK t n p = 1 → I 2 5 = tV t n p) ∧ ∀ j, 0 ≤ j → j < n → I 3 j = t j
def frT (g : Nat) (I I' : Nat → Int → Int) : Prop := ∀ q, q ≠ 4 → q ≠ 5 → (q < g ∨ g + 12 < q) → I' q = I q
def tkR (t : Int → Int) (n : Int) (g : Nat) (c : Cf) (I : Nat → Int → Int) (r : Int) (I' : Nat → Int → Int) : Prop := ((stp t n c).1 = -1 → r = 0 ∧ cRp I' g (stp t n c).2) ∧ ((stp t n c).1 ≠ -1 → r = (stp t n c).1) ∧ ((stp t n c).1 = 0 → I' = I ∧ c.1 = 5 ∧ tK t n c.2.1 = 3) ∧ frT g I I'
section A67
variable {I I' : Nat → Int → Int} {b : Bool} {S : Nat} {g : Nat} {t : Int → Int} {n p : Int} {D D' su : Int → Int} {st : List Int} {ik iv : Int} {J0 : Nat → Int → Int}
theorem plI_c (hs : sgO D) (hD : ∀ c, 0 ≤ c → c < 138 → c ≠ 1 → D' c = D c) (hI : ∀ q, g + 1 ≤ q → q ≤ g + 5 → I' q = I q) (h : plI I g D) : plI I' g D' := by
  obtain ⟨h1, h2, h3⟩ := h
  have e0 := hD 0 (by decide) (by decide) (by decide)
  have := hs.1
  have em : ∀ s, 0 ≤ s → s < D 0 → mn D' s = mn D s := fun s s0 s1 => by unfold mn; rw [hD _ (by omega) (by omega) (by omega)]
  unfold plI
  rw [e0, hI (g + 1) (by omega) (by omega), hI (g + 2) (by omega) (by omega), hI (g + 3) (by omega) (by omega), hI (g + 4) (by omega) (by omega), hI (g + 5) (by omega) (by omega)]
  refine ⟨h1, fun s s0 s1 => by rw [em s s0 s1]; exact h2 s s0 s1, pool_c (T := D) this.1 hs.2.1 (fun s s0 s1 => ⟨em s s0 s1, fun i i0 i1 => ?_⟩) (fun _ _ _ => ⟨rfl, rfl⟩) (fun _ _ _ => rfl) h3⟩
  have := hs.2.1 s s0 s1
  unfold lv; rw [hD _ (by omega) (by omega) (by omega)]
theorem frT_r : frT g I I := fun _ _ _ _ => rfl
theorem frT_s (hg : isProg g) {q : Nat} {j v : Int} (h : q = 4 ∨ q = 5 ∨ (g ≤ q ∧ q ≤ g + 12)) : frT g I (sI I q j v) := fun r h1 h2 h3 => sI_o (by have := isP_b hg; omega)
theorem frT_t {J : Nat → Int → Int} (h1 : frT g I I') (h2 : frT g I' J) : frT g I J := fun q a c d => (h2 q a c d).trans (h1 q a c d)
theorem frT_B (h : frB g I I') : frT g I I' := fun q _ _ d => h q (by omega)
theorem c_kindN (hJ : stJ J0) (hro : ∀ q, 103 < q → I q = J0 q) (hn : n ≤ 300) (hp : 0 ≤ p ∧ p ≤ n) (hk : tkC I t n p) : zrun 75 [vR 4] (I, zRs b, 103, S) = some (some (vI (kN t n p)), (I, zRs b, 103, S)) := by
  obtain ⟨k1, k2, k3, k4, k5, k6⟩ := hk
  rw [run75, e75_0, c_nmP hJ hro hn hp k2 k3 k4 k6, Option.bind_some]
  simp only [zpush_s]
  rw [e75_9]
  unfold kN
  by_cases h1 : nmP t n p
  · rw [if_pos h1, if_neg (by decide), if_pos h1]
  · rw [if_neg h1, if_pos rfl, if_neg h1, c_nmM hJ hro hn hp k2 k3 k4 k6, Option.bind_some]
    simp only [zpush_s]
    rw [e75_23]
    by_cases h2 : nmM t n p
    · rw [if_pos h2, if_neg (by decide), if_pos h2]
    · rw [if_neg h2, if_pos rfl, if_neg h2, c_nmL hJ hro hn hp k2 k3 k4 k6, Option.bind_some]
      simp only [zpush_s]
      rw [e75_37]
      by_cases h3 : nmL t n p
      · rw [if_pos h3, if_neg (by decide), if_pos h3]
      · rw [if_neg h3, if_pos rfl, if_neg h3, c_nmU hJ hro hn hp k2 k3 k4 k6, Option.bind_some]
        simp only [zpush_s]
        rw [e75_51]
        by_cases h4 : nmU t n p
        · rw [if_pos h4, if_neg (by decide), if_pos h4]
        · rw [if_neg h4, if_pos rfl, if_neg h4]
theorem tk_stop {c : Cf} {a : Int} (hs : stp t n c = (a, c)) (ha : a ≠ -1) (ha0 : a ≠ 0) (hf : frT g I I') : tkR t n g c I a I' := ⟨fun z => by rw [hs] at z; exact absurd z ha, fun _ => by rw [hs], fun z => by rw [hs] at z; exact absurd z ha0, hf⟩
theorem tk_go {c d : Cf} (hs : stp t n c = (-1, d)) (hr : cRp I' g d) (hf : frT g I I') : tkR t n g c I 0 I' := ⟨fun _ => ⟨rfl, by rw [hs]; exact hr⟩, fun z => absurd (by rw [hs]) z, fun z => by rw [hs] at z; exact absurd z (show ¬ (-1 : Int) = 0 by decide), hf⟩
/-! a seg, the go -/
theorem take0 (hg : isProg g) (hJ : stJ J0) (hro : ∀ q, 103 < q → I q = J0 q) (hn : n ≤ 300) (h : cOk n (0, p, D, su, st, ik, iv)) (hk : tkC I t n p) (k4 : tK t n p ≠ 4) (hr : cRp I g (0, p, D, su, st, ik, iv)) : ∃ r I', zrun 72 [vR 4, vR (g + 1)] (I, zRs b, 103, S) = some (some (vI r), (I', zRs b, 103, S)) ∧ tkR t n g (0, p, D, su, st, ik, iv) I r I' := by
  obtain ⟨hp, hb, hz, ⟨hq, h0, _⟩⟩ := h
  simp only at hp hb hz hq h0
  obtain ⟨k1, k2, k3, k4', k5, k6⟩ := hk
  have gg := isP_b hg
  obtain ⟨⟨d1, dsu, dst⟩, dz⟩ := h0 trivial
  obtain ⟨r1, r2, r3, _⟩ := hr
  simp only at r1 r2 r3
  have es : stp t n (0, p, D, su, st, ik, iv) = st0 t n p D su st ik iv := by
    unfold stp; simp only; rw [if_neg k4, if_pos trivial]
  have go : zrun 72 [vR 4, vR (g + 1)] (I, zRs b, 103, S) = zX 72 9 [vR 4, vR (g + 1)] [vI (if nmG t n p then 1 else 0)] (I, zRs b, 103, S) := by
    rw [run72, e72_0 (isProg_pool hg), c_nmG hJ hro hn hp k2 k3 k4' k6, Option.bind_some]
    simp only [zpush_s]
  unfold st0 at es
  by_cases c1 : nmG t n p
  · rw [if_pos c1] at es
    refine ⟨0, sI I 4 7 2, ?_, tk_go es ⟨sI_s, cI_c (fun q q1 q2 => sI_o (by omega)) r2, plI_c hb.1 (fun _ _ _ _ => rfl) (fun q q1 q2 => sI_o (by omega)) r3, fun z => absurd z (show ¬ (2 : Int) = 1 by decide), fun z => absurd z (show ¬ (2 : Int) = 3 by decide), fun z => absurd z (show ¬ (2 : Int) = 4 by decide)⟩ (frT_s hg (Or.inl rfl))⟩
    rw [go, if_pos c1, e72_9 (isProg_pool hg), if_neg (by decide)]
  · rw [if_neg c1] at es
    have go2 : zrun 72 [vR 4, vR (g + 1)] (I, zRs b, 103, S) = zX 72 28 [vR 4, vR (g + 1)] [vI (if nmS t n p then 1 else 0)] (I, zRs b, 103, S) := by
      rw [go, if_neg c1, e72_9 (isProg_pool hg), if_pos rfl, c_nmS hJ hro hn hp k2 k3 k4' k6, Option.bind_some]
      simp only [zpush_s]
    by_cases c2 : nmS t n p
    · rw [if_pos c2] at es
      by_cases c3 : D 0 < 8
      · rw [if_pos c3] at es
        have z0 := dz (D 0) (Int.le_refl _) c3
        refine ⟨0, sI (sI I 4 4 0) 4 7 1, ?_, tk_go es ⟨sI_s, cI_c (fun q q1 q2 => by rw [sI_o (by omega), sI_o (by omega)]) r2, plI_c hb.1 (fun _ _ _ _ => rfl) (fun q q1 q2 => by rw [sI_o (by omega), sI_o (by omega)]) r3, fun _ => ⟨by simp only; rw [sI_k (by decide), sI_s, z0], fun i i0 i1 => by simp only at i1; omega⟩, fun z => absurd z (show ¬ (1 : Int) = 3 by decide), fun z => absurd z (show ¬ (1 : Int) = 4 by decide)⟩ (frT_t (frT_s hg (Or.inl rfl)) (frT_s hg (Or.inl rfl)))⟩
        rw [go2, if_pos c2, e72_28 (isProg_pool hg), if_neg (by decide), r3.1, if_pos c3]
      · rw [if_neg c3] at es
        refine ⟨4, I, ?_, tk_stop es (by decide) (by decide) frT_r⟩
        rw [go2, if_pos c2, e72_28 (isProg_pool hg), if_neg (by decide), r3.1, if_neg c3]
    · rw [if_neg c2] at es
      refine ⟨2, I, ?_, tk_stop es (by decide) (by decide) frT_r⟩
      rw [go2, if_neg c2, e72_28 (isProg_pool hg), if_pos rfl]
/-! a level -/
theorem take1 (hg : isProg g) (hn : n ≤ 300) (h : cOk n (1, p, D, su, st, ik, iv)) (hk : tkC I t n p) (k4 : tK t n p ≠ 4) (hr : cRp I g (1, p, D, su, st, ik, iv)) : ∃ r I', zrun 73 [vR 4, vR (g + 1)] (I, zRs b, 103, S) = some (some (vI r), (I', zRs b, 103, S)) ∧ tkR t n g (1, p, D, su, st, ik, iv) I r I' := by
  obtain ⟨hp, hb, hz, ⟨hq, _, h1, _⟩⟩ := h
  simp only at hp hb hz hq h1
  obtain ⟨k1, k2, k3, k4', k5, k6⟩ := hk
  have gg := isP_b hg
  obtain ⟨⟨d1, dsu, dst⟩, d8, dm, dl, dz⟩ := h1 trivial
  obtain ⟨r1, r2, r3, r4, _⟩ := hr
  simp only at r1 r2 r3 r4
  obtain ⟨r4a, r4b⟩ := r4 trivial
  have sg := hb.1
  have es : stp t n (1, p, D, su, st, ik, iv) = st1 t n p D su st ik iv := by
    unfold stp; simp only; rw [if_neg k4, if_neg (by decide), if_pos trivial]
  unfold st1 at es
  have go : zrun 73 [vR 4, vR (g + 1)] (I, zRs b, 103, S) = if 0 < mn D (D 0) ∧ sgT t n p 59 then (zrun 45 [vR (g + 1), vR 5, vI (mn D (D 0))] (I, zRs b, 103, S)).bind (fun q => zX 73 31 [vR 4, vR (g + 1)] (zpush q.1 []) q.2) else if tK t n p = 1 then if mn D (D 0) < 16 then some (some (vI 0), (sI (sI I 5 (mn D (D 0)) (I 2 5)) 4 4 (mn D (D 0) + 1), zRs b, 103, S)) else some (some (vI 4), (I, zRs b, 103, S)) else some (some (vI 2), (I, zRs b, 103, S)) := by
    rw [run73, e73_0 (isProg_pool hg), r4a, k2, wr_id (by omega) (by omega)]
    by_cases c0 : mn D (D 0) ≤ 0
    · rw [if_pos c0, if_neg (show ¬ (0 < mn D (D 0) ∧ sgT t n p 59) by omega)]
      by_cases ck : tK t n p = 1
      · rw [if_pos ck, if_pos ck]
        by_cases c2 : mn D (D 0) < 16
        · rw [if_pos c2, if_pos ⟨dm.1, c2⟩, if_pos c2]
        · rw [if_neg c2, if_neg c2]
      · rw [if_neg ck, if_neg ck]
    · rw [if_neg c0, c_sign hn hp k2 k3 k6, Option.bind_some]
      simp only [zpush_s]
      rw [e73_16 (isProg_pool hg), r4a, k2, wr_id (by omega) (by omega)]
      by_cases c1 : sgT t n p 59
      · rw [if_pos c1, if_neg (by decide), if_pos ⟨by omega, c1⟩]
      · rw [if_neg c1, if_pos rfl, if_neg (show ¬ (0 < mn D (D 0) ∧ sgT t n p 59) from fun z => c1 z.2)]
        by_cases ck : tK t n p = 1
        · rw [if_pos ck, if_pos ck]
          by_cases c2 : mn D (D 0) < 16
          · rw [if_pos c2, if_pos ⟨dm.1, c2⟩, if_pos c2]
          · rw [if_neg c2, if_neg c2]
        · rw [if_neg ck, if_neg ck]
  by_cases c1 : 0 < mn D (D 0) ∧ sgT t n p 59
  · rw [if_pos c1] at es go
    have u0 : up D 0 (D 0 + 1) 0 = D 0 + 1 := up_s
    have u1 : ∀ c, c ≠ 0 → up D 0 (D 0 + 1) c = D c := fun c hc => up_n hc
    have um : ∀ s, 0 ≤ s → mn (up D 0 (D 0 + 1)) s = mn D s := fun s s0 => by unfold mn; rw [u1 _ (by omega)]
    have hz4 : 0 ≤ I (g + 1) 4 ∧ I (g + 1) 4 ≤ 16 * D 0 := by
      obtain ⟨z, y0, ym, hh⟩ := r3.2.2
      have := sg.1
      have zz := pool_z (m := D 0) sg.2.1 y0 hh (D 0).toNat (by omega)
      rw [show (((D 0).toNat : Nat) : Int) = D 0 by omega, ym] at zz
      exact ⟨zz.1, zz.2.1⟩
    obtain ⟨pp, c, K, p1, cc, e1, e2, e3, e4, e5, e6, e7, e8⟩ := c_addSeg (I := I) (b := b) (S := S) (r := 5) (n := mn D (D 0)) (m := D 0) (pm := I (g + 1) 4) hg (Or.inl rfl) (by omega) (by have := sg.1; omega) r3.1 rfl (by omega)
    have hadd := pool_add (row := I 5) (n := mn D (D 0)) (p := pp) (c := c) (pl' := K (g + 2)) sg.1.1 r3.2.2 sg.2.1 rfl (fun i i0 i1 => r4b i i0 i1) p1 cc e4
    rw [← e5, ← e7, ← e2] at hadd
    have hmn1 : ∀ s, 0 ≤ s → s < D 0 + 1 → 1 ≤ mn D s ∧ mn D s ≤ 16 := fun s s0 s1 => by
      by_cases e : s = D 0
      · rw [e]; omega
      · exact sg.2.1 s s0 (by omega)
    have hpool : poolIs (up D 0 (D 0 + 1)) (D 0 + 1) (K (g + 3)) (K (g + 5)) (K (g + 2)) (K (g + 1) 4) := pool_c (T := D) (by have := sg.1; omega) hmn1 (fun s s0 s1 => ⟨um s s0, fun i i0 i1 => by unfold lv; rw [u1 _ (by omega)]⟩) (fun _ _ _ => ⟨rfl, rfl⟩) (fun _ _ _ => rfl) hadd
    have i6 : I g 6 = 0 := by rw [r2.1]; exact d1
    have i8 : I g 8 = 0 := by rw [r2.2.1, dst]; rfl
    have i12 : I (g + 12) 0 = 0 := by
      have y := stk_top r2.2.2.2.1
      rw [dst, dsu] at y
      exact y
    refine ⟨0, sI K 4 7 0, ?_, tk_go es ⟨sI_s, ?_, ⟨?_, fun s s0 s1 => ?_, ?_⟩, fun z => absurd z (show ¬ (0 : Int) = 1 by decide), fun z => absurd z (show ¬ (0 : Int) = 3 by decide), fun z => absurd z (show ¬ (0 : Int) = 4 by decide)⟩ (fun q q1 q2 q3 => by rw [sI_o q1, e8 q (by omega)])⟩
    · rw [go, e1, Option.bind_some]
      simp only [zpush_n]
      rw [e73_31 (isProg_pool hg)]
    · simp only
      rw [dsu, dst]
      exact cI_0 (by rw [u1 1 (by decide)]; exact d1) (by rw [sI_o (by omega), e8 g (by omega)]; exact i6) (by rw [sI_o (by omega), e8 g (by omega)]; exact i8) (by rw [sI_o (by omega), e8 (g + 12) (by omega)]; exact i12)
    · simp only; rw [sI_o (by omega), e3, u0]
    · simp only at s1 ⊢
      rw [u0] at s1
      rw [sI_o (by omega), e6, um s s0]
      by_cases e : s = D 0
      · rw [e, up_s]
      · rw [up_n e]; exact r3.2.1 s s0 (by omega)
    · simp only
      rw [u0, sI_o (by omega), sI_o (by omega), sI_o (by omega), sI_o (by omega)]
      exact hpool
  · rw [if_neg c1] at es go
    by_cases c2 : tK t n p = 1
    · rw [if_pos c2] at es go
      by_cases c3 : mn D (D 0) < 16
      · rw [if_pos c3] at es go
        rw [k5 c2] at go
        have f := lvA_f (D := D) (p := tV t n p)
        have := sg.1
        have e0 : lvA D (tV t n p) 0 = D 0 := f 0 (by omega) (by omega)
        have e1 : lvA D (tV t n p) 1 = 0 := by rw [f 1 (by omega) (by omega)]; exact d1
        have em : mn (lvA D (tV t n p)) (D 0) = mn D (D 0) + 1 := up_s
        have emt : ∀ s, 0 ≤ s → s < D 0 → mn (lvA D (tV t n p)) s = mn D s := fun s s0 s1 => by
          have : lvA D (tV t n p) (2 + 17 * s) = D (2 + 17 * s) := f _ (by omega) (by omega)
          exact this
        have i6 : I g 6 = 0 := by rw [r2.1]; exact d1
        have i8 : I g 8 = 0 := by rw [r2.2.1, dst]; rfl
        have i12 : I (g + 12) 0 = 0 := by
          have y := stk_top r2.2.2.2.1
          rw [dst, dsu] at y
          exact y
        have jo : ∀ q, q ≠ 4 → q ≠ 5 → sI (sI I 5 (mn D (D 0)) (tV t n p)) 4 4 (mn D (D 0) + 1) q = I q := fun q q1 q2 => by rw [sI_o q1, sI_o q2]
        refine ⟨0, _, go, tk_go es ⟨?_, ?_, ⟨?_, fun s s0 s1 => ?_, ?_⟩, fun _ => ⟨?_, fun i i0 i1 => ?_⟩, fun z => absurd z (show ¬ (1 : Int) = 3 by decide), fun z => absurd z (show ¬ (1 : Int) = 4 by decide)⟩ (fun q q1 q2 _ => jo q q1 q2)⟩
        · rw [sI_k (by decide), sI_o (by decide)]; exact r1
        · simp only
          rw [dsu, dst]
          exact cI_0 e1 (by rw [jo g (by omega) (by omega)]; exact i6) (by rw [jo g (by omega) (by omega)]; exact i8) (by rw [jo (g + 12) (by omega) (by omega)]; exact i12)
        · simp only; rw [e0, jo _ (by omega) (by omega)]; exact r3.1
        · simp only at s1 ⊢
          rw [e0] at s1
          rw [jo _ (by omega) (by omega), emt s s0 s1]; exact r3.2.1 s s0 s1
        · simp only
          rw [e0, jo _ (by omega) (by omega), jo _ (by omega) (by omega), jo _ (by omega) (by omega), jo _ (by omega) (by omega)]
          refine pool_c (T := D) this.1 sg.2.1 (fun s s0 s1 => ⟨emt s s0 s1, fun i i0 i1 => ?_⟩) (fun _ _ _ => ⟨rfl, rfl⟩) (fun _ _ _ => rfl) r3.2.2
          have w := sg.2.1 s s0 s1
          have : lv (lvA D (tV t n p)) s i = lv D s i := by unfold lv; exact f _ (by omega) (by omega)
          exact this
        · simp only; rw [sI_s, e0, em]
        · simp only at i1 ⊢
          rw [e0, em] at i1
          rw [e0, sI_o (by decide)]
          by_cases e : i = mn D (D 0)
          · rw [e, sI_s]; unfold lv lvA; rw [up_n (by omega), up_s]
          · have w : lv (lvA D (tV t n p)) (D 0) i = lv D (D 0) i := by unfold lv; exact f _ (by omega) (by omega)
            rw [sI_k e, w]; exact r4b i i0 (by omega)
      · rw [if_neg c3] at es go
        exact ⟨4, I, go, tk_stop es (by decide) (by decide) frT_r⟩
    · rw [if_neg c2] at es go
      exact ⟨2, I, go, tk_stop es (by decide) (by decide) frT_r⟩
/-! an item's name, an END, the last sign -/
theorem take2 (hg : isProg g) (hJ : stJ J0) (hro : ∀ q, 103 < q → I q = J0 q) (hn : n ≤ 300) (h : cOk n (2, p, D, su, st, ik, iv)) (hk : tkC I t n p) (k4 : tK t n p ≠ 4) (hr : cRp I g (2, p, D, su, st, ik, iv)) : ∃ r I', zrun 74 [vR 4, vR g] (I, zRs b, 103, S) = some (some (vI r), (I', zRs b, 103, S)) ∧ tkR t n g (2, p, D, su, st, ik, iv) I r I' := by
  obtain ⟨hp, hb, hz, _⟩ := h
  simp only at hp hb hz
  have hk' := hk
  obtain ⟨k1, k2, k3, k4', k5, k6⟩ := hk
  have gg := isP_b hg
  obtain ⟨r1, r2, r3, _⟩ := hr
  simp only at r1 r2 r3
  have hl4 := hb.2.2.1
  have es : stp t n (2, p, D, su, st, ik, iv) = st2 t n p D su st ik iv := by
    unfold stp; simp only; rw [if_neg k4, if_neg (by decide), if_neg (by decide), if_pos trivial]
  unfold st2 at es
  have go : zrun 74 [vR 4, vR g] (I, zRs b, 103, S) = zX 74 9 [vR 4, vR g] [vI (if sgT t n p 41 then 1 else 0)] (I, zRs b, 103, S) := by
    rw [run74, e74_0 hg, c_sign hn hp k2 k3 k6, Option.bind_some]
    simp only [zpush_s]
  by_cases c1 : sgT t n p 41
  · rw [if_pos c1] at es
    have top : ∀ r J, zrun 76 [vR 4, vR g] (I, zRs b, 103, S) = some (some (vI r), (J, zRs b, 103, S)) → zrun 74 [vR 4, vR g] (I, zRs b, 103, S) = some (some (vI r), (J, zRs b, 103, S)) := fun r J hj => by
      rw [go, if_pos c1, e74_9 hg, if_neg (by decide), hj, Option.bind_some]
      simp only [zpush_s]
      rw [e74_17 hg]
    cases st with
    | nil =>
      refine ⟨2, I, top 2 I ?_, tk_stop es (by decide) (by decide) frT_r⟩
      rw [run76, e76_0 hg, r2.2.1, if_pos (by rw [List.length_nil]; rfl)]
    | cons o st =>
      rw [stE_c] at es
      have l1 : (((o :: st).length : Nat) : Int) = st.length + 1 := by rw [List.length_cons]; omega
      rw [List.length_cons] at hl4
      have go2 : zrun 76 [vR 4, vR g] (I, zRs b, 103, S) = zX 76 13 [vR 4, vR g] [vI (if D 1 < 24 then 0 else 1)] (I, zRs b, 103, S) := by
        rw [run76, e76_0 hg, r2.2.1, l1, if_neg (by omega), c_isFull hg, r2.1, Option.bind_some]
        simp only [zpush_s]
      by_cases c2 : D 1 < 24
      · rw [if_pos c2] at es
        have go3 : zrun 76 [vR 4, vR g] (I, zRs b, 103, S) = zX 76 22 [vR 4, vR g] [vI (if su (D 1) ≤ 0 then 0 else 1)] (I, zRs b, 103, S) := by
          have tp := stk_top r2.2.2.2.1
          rw [l1] at tp
          rw [go2, if_pos c2, e76_13 hg, if_pos rfl, run60, e60_0 hg, r2.2.1, l1, if_pos (by omega), tp]
          by_cases q : su (D 1) ≤ 0
          · rw [if_pos q, if_pos q, Option.bind_some]
            simp only [zpush_s]
          · rw [if_neg q, if_neg q, Option.bind_some]
            simp only [zpush_s]
        by_cases c3 : 0 < su (D 1)
        · rw [if_pos c3] at es
          obtain ⟨J, j1, j2, j3⟩ := c_ends (I := I) (b := b) (S := S) hg hb r2 c2 c3
          have om := lvl_mem _ _ hb.2.2.2.2.2.2.2 o List.mem_cons_self
          have ef := (en_f (D := D) (d := st.length) hb.2.1.1 ⟨om.1, om.2.1⟩).2.2.2.2.2.2.2.1
          refine ⟨0, J, top 0 J ?_, tk_go es ⟨by simp only; rw [j3 4 (by omega)]; exact r1, j2, plI_c hb.1 (fun c c0 h1 h2 => ef c h1 h2) (fun q q1 q2 => j3 q (by omega)) r3, fun z => absurd z (show ¬ (2 : Int) = 1 by decide), fun z => absurd z (show ¬ (2 : Int) = 3 by decide), fun z => absurd z (show ¬ (2 : Int) = 4 by decide)⟩ (frT_B j3)⟩
          rw [go3, if_neg (by omega), e76_22 hg, if_neg (by decide), j1, Option.bind_some]
          simp only [zpush_n]
          rw [e76_32 hg]
        · rw [if_neg c3] at es
          refine ⟨6, I, top 6 I ?_, tk_stop es (by decide) (by decide) frT_r⟩
          rw [go3, if_pos (by omega), e76_22 hg, if_pos rfl]
      · rw [if_neg c2] at es
        refine ⟨4, I, top 4 I ?_, tk_stop es (by decide) (by decide) frT_r⟩
        rw [go2, if_neg c2, e76_13 hg, if_neg (by decide)]
  · rw [if_neg c1] at es
    have go2 : zrun 74 [vR 4, vR g] (I, zRs b, 103, S) = if sgT t n p 59 ∧ (st.length : Int) = 0 then some (some (vI 0), (sI I 4 7 5, zRs b, 103, S)) else zX 74 49 [vR 4, vR g] [vI (kN t n p), vR 4] (I, zRs b, 103, S) := by
      rw [go, if_neg c1, e74_9 hg, if_pos rfl, c_sign hn hp k2 k3 k6, Option.bind_some]
      simp only [zpush_s]
      rw [e74_27 hg, c_kindN hJ hro hn hp hk', r2.2.1, Option.bind_some]
      simp only [zpush_s]
      by_cases q : sgT t n p 59
      · rw [if_pos q, if_neg (by decide)]
        by_cases q2 : (st.length : Int) = 0
        · rw [if_pos q2, if_pos ⟨q, q2⟩]
        · rw [if_neg q2, if_neg (fun z => q2 z.2)]
      · rw [if_neg q, if_pos rfl, if_neg (fun z => q z.1)]
    by_cases c2 : sgT t n p 59 ∧ (st.length : Int) = 0
    · rw [if_pos c2] at es go2
      exact ⟨0, sI I 4 7 5, go2, tk_go es ⟨sI_s, cI_c (fun q q1 q2 => sI_o (by omega)) r2, plI_c hb.1 (fun _ _ _ _ => rfl) (fun q q1 q2 => sI_o (by omega)) r3, fun z => absurd z (show ¬ (5 : Int) = 1 by decide), fun z => absurd z (show ¬ (5 : Int) = 3 by decide), fun z => absurd z (show ¬ (5 : Int) = 4 by decide)⟩ (frT_s hg (Or.inl rfl))⟩
    · rw [if_neg c2] at es go2
      by_cases c3 : 0 ≤ kN t n p
      · rw [if_pos c3] at es
        have go3 : zrun 74 [vR 4, vR g] (I, zRs b, 103, S) = zX 74 65 [vR 4, vR g] [vI (if D 1 < 24 then 0 else 1)] (sI I 4 5 (kN t n p), zRs b, 103, S) := by
          rw [go2, e74_49 hg, if_pos c3, c_isFull hg, sI_o (by omega), r2.1, Option.bind_some]
          simp only [zpush_s]
        by_cases c4 : D 1 < 24
        · rw [if_pos c4] at es
          refine ⟨0, sI (sI I 4 5 (kN t n p)) 4 7 3, ?_, tk_go es ⟨sI_s, cI_c (fun q q1 q2 => by rw [sI_o (by omega), sI_o (by omega)]) r2, plI_c hb.1 (fun _ _ _ _ => rfl) (fun q q1 q2 => by rw [sI_o (by omega), sI_o (by omega)]) r3, fun z => absurd z (show ¬ (3 : Int) = 1 by decide), fun _ => by rw [sI_k (by decide), sI_s], fun z => absurd z (show ¬ (3 : Int) = 4 by decide)⟩ (frT_t (frT_s hg (Or.inl rfl)) (frT_s hg (Or.inl rfl)))⟩
          rw [go3, if_pos c4, e74_65 hg, if_pos rfl]
        · rw [if_neg c4] at es
          refine ⟨4, sI I 4 5 (kN t n p), ?_, tk_stop es (by decide) (by decide) (frT_s hg (Or.inl rfl))⟩
          rw [go3, if_neg c4, e74_65 hg, if_neg (by decide)]
      · rw [if_neg c3] at es
        refine ⟨2, sI I 4 5 (kN t n p), ?_, tk_stop es (by decide) (by decide) (frT_s hg (Or.inl rfl))⟩
        rw [go2, e74_49 hg, if_neg c3]
/-! an item's number -/
theorem take3 (hg : isProg g) (hn : n ≤ 300) (h : cOk n (3, p, D, su, st, ik, iv)) (hk : tkC I t n p) (k4 : tK t n p ≠ 4) (hr : cRp I g (3, p, D, su, st, ik, iv)) : ∃ r I', zrun 77 [vR 4, vR g] (I, zRs b, 103, S) = some (some (vI r), (I', zRs b, 103, S)) ∧ tkR t n g (3, p, D, su, st, ik, iv) I r I' := by
  obtain ⟨hp, hb, hz, ⟨hq, _, _, h3, _⟩⟩ := h
  simp only at hp hb hz hq h3
  obtain ⟨dn, dk⟩ := h3 trivial
  obtain ⟨k1, k2, k3, k4', k5, k6⟩ := hk
  have gg := isP_b hg
  obtain ⟨r1, r2, r3, _, r5, _⟩ := hr
  simp only at r1 r2 r3 r5
  have i45 := r5 trivial
  have sg := hb.1
  have es : stp t n (3, p, D, su, st, ik, iv) = st3 t n p D su st ik iv := by
    unfold stp; simp only; rw [if_neg k4, if_neg (by decide), if_neg (by decide), if_neg (by decide), if_pos trivial]
  unfold st3 at es
  by_cases c1 : tK t n p = 1
  · rw [if_pos c1] at es
    have tv := tV_b c1 hp
    have v5 := k5 c1
    generalize hA : sI I 4 6 (tV t n p) = A
    have ao : ∀ q, q ≠ 4 → A q = I q := fun q hq => by rw [← hA, sI_o hq]
    have a5 : A 4 5 = ik := by rw [← hA, sI_k (by decide)]; exact i45
    have a6 : A 4 6 = tV t n p := by rw [← hA, sI_s]
    have fA : frT g I A := by rw [← hA]; exact frT_s hg (Or.inl rfl)
    have gr : zrun 78 [vR 4, vR g] (A, zRs b, 103, S) = some (some (vI (grT D ik)), (A, zRs b, 103, S)) := by
      rw [run78, e78_0 hg, a5, ao (g + 1) (by omega), r3.1]
      unfold grT
      have := sg.1
      by_cases q : ik = 0
      · rw [if_pos q, if_pos q, wr_id (by omega) (by omega)]
      · rw [if_neg q, if_neg q]
        by_cases q2 : ik = 3
        · rw [if_pos q2, if_pos q2]
        · rw [if_neg q2, if_neg q2]
    have go : zrun 77 [vR 4, vR g] (I, zRs b, 103, S) = if (if ik = 2 then 1 else 0) ≤ tV t n p then zX 77 53 [vR 4, vR g] [vI (grT D ik), vI (tV t n p)] (A, zRs b, 103, S) else some (some (vI 3), (A, zRs b, 103, S)) := by
      rw [run77, e77_0 hg, k2, if_pos c1, i45, v5, hA, gr, Option.bind_some]
      simp only [zpush_s]
      by_cases q : ik = 2
      · rw [if_pos q, if_pos q]
        by_cases q2 : tV t n p < 1
        · rw [if_pos q2, if_neg (by omega)]
        · rw [if_neg q2, if_pos (by omega)]
      · rw [if_neg q, if_neg q, if_neg (by omega), if_pos tv.1]
    by_cases c2 : (if ik = 2 then 1 else 0) ≤ tV t n p ∧ tV t n p ≤ grT D ik
    · rw [if_pos c2] at es
      have go2 : zrun 77 [vR 4, vR g] (I, zRs b, 103, S) = zX 77 53 [vR 4, vR g] [vI (grT D ik), vI (tV t n p)] (A, zRs b, 103, S) := by rw [go, if_pos c2.1]
      generalize hB : sI A 4 7 2 = B
      have bo : ∀ q, q ≠ 4 → B q = I q := fun q hq => by rw [← hB, sI_o hq]; exact ao q hq
      have b7 : B 4 7 = 2 := by rw [← hB, sI_s]
      have fB : frT g I B := frT_t fA (by rw [← hB]; exact frT_s hg (Or.inl rfl))
      by_cases c3 : ik = 0
      · rw [if_pos c3] at es
        have vD : 0 ≤ tV t n p ∧ tV t n p < D 0 := by
          have := c2.2
          unfold grT at this
          rw [if_pos c3] at this
          omega
        obtain ⟨J, j1, j2, j3⟩ := c_play (I := B) (b := b) (S := S) (v := tV t n p) hg hb (cI_c (fun q q1 q2 => bo q (by omega)) r2) dn vD (by rw [bo _ (by omega)]; exact r3.1) (by rw [bo _ (by omega)]; exact r3.2.1 _ vD.1 vD.2)
        have ef := (ad_c (D := D) (k := 0) (v := tV t n p) (p := -4) (d := st.length) hb.2.1.1).2.2.2.2.2.2.2
        refine ⟨0, J, ?_, tk_go es ⟨by simp only; rw [j3 4 (by omega)]; exact b7, j2, plI_c hb.1 (fun c c0 h1 h2 => ef c h1 h2) (fun q q1 q2 => (j3 q (by omega)).trans (bo q (by omega))) r3, fun z => absurd z (show ¬ (2 : Int) = 1 by decide), fun z => absurd z (show ¬ (2 : Int) = 3 by decide), fun z => absurd z (show ¬ (2 : Int) = 4 by decide)⟩ (frT_t fB (frT_B j3))⟩
        rw [go2, e77_53 hg, if_pos c2.2, a5, if_pos c3, a6, hB, j1, Option.bind_some]
        simp only [zpush_n]
        rw [e77_78 hg]
      · rw [if_neg c3] at es
        by_cases c4 : ik = 1
        · rw [if_pos c4] at es
          obtain ⟨J, j1, j2, j3⟩ := c_mark (I := B) (b := b) (S := S) (v := tV t n p) hg hb (cI_c (fun q q1 q2 => bo q (by omega)) r2) dn
          have ef := (ad_c (D := D) (k := 1) (v := tV t n p) (p := -4) (d := st.length) hb.2.1.1).2.2.2.2.2.2.2
          refine ⟨0, J, ?_, tk_go es ⟨by simp only; rw [j3 4 (by omega)]; exact b7, j2, plI_c hb.1 (fun c c0 h1 h2 => ef c h1 h2) (fun q q1 q2 => (j3 q (by omega)).trans (bo q (by omega))) r3, fun z => absurd z (show ¬ (2 : Int) = 1 by decide), fun z => absurd z (show ¬ (2 : Int) = 3 by decide), fun z => absurd z (show ¬ (2 : Int) = 4 by decide)⟩ (frT_t fB (frT_B j3))⟩
          rw [go2, e77_53 hg, if_pos c2.2, a5, if_neg c3, if_pos c4, a6, hB, j1, Option.bind_some]
          simp only [zpush_n]
          rw [e77_97 hg]
        · rw [if_neg c4] at es
          refine ⟨0, sI B 4 7 4, ?_, tk_go es ⟨sI_s, cI_c (fun q q1 q2 => by rw [sI_o (by omega)]; exact bo q (by omega)) r2, plI_c hb.1 (fun _ _ _ _ => rfl) (fun q q1 q2 => by rw [sI_o (by omega)]; exact bo q (by omega)) r3, fun z => absurd z (show ¬ (4 : Int) = 1 by decide), fun z => absurd z (show ¬ (4 : Int) = 3 by decide), fun _ => ⟨by simp only; rw [sI_k (by decide), ← hB, sI_k (by decide)]; exact a5, by simp only; rw [sI_k (by decide), ← hB, sI_k (by decide)]; exact a6⟩⟩ (frT_t fB (frT_s hg (Or.inl rfl)))⟩
          rw [go2, e77_53 hg, if_pos c2.2, a5, if_neg c3, if_neg c4, hB]
    · rw [if_neg c2] at es
      refine ⟨3, A, ?_, tk_stop es (by decide) (by decide) fA⟩
      rw [go]
      by_cases q : (if ik = 2 then 1 else 0) ≤ tV t n p
      · rw [if_pos q, e77_53 hg, if_neg (fun z => c2 ⟨q, z⟩)]
      · rw [if_neg q]
  · rw [if_neg c1] at es
    refine ⟨2, I, ?_, tk_stop es (by decide) (by decide) frT_r⟩
    rw [run77, e77_0 hg, k2, if_neg c1]
/-! its sign -/
theorem take4 (hg : isProg g) (hn : n ≤ 300) (h : cOk n (4, p, D, su, st, ik, iv)) (hk : tkC I t n p) (k4 : tK t n p ≠ 4) (hr : cRp I g (4, p, D, su, st, ik, iv)) : ∃ r I', zrun 79 [vR 4, vR g] (I, zRs b, 103, S) = some (some (vI r), (I', zRs b, 103, S)) ∧ tkR t n g (4, p, D, su, st, ik, iv) I r I' := by
  obtain ⟨hp, hb, hz, ⟨hq, _, _, _, h4, _⟩⟩ := h
  simp only at hp hb hz hq h4
  obtain ⟨dn, dk⟩ := h4 trivial
  obtain ⟨k1, k2, k3, k4', k5, k6⟩ := hk
  have gg := isP_b hg
  obtain ⟨r1, r2, r3, _, _, r6⟩ := hr
  simp only at r1 r2 r3 r6
  obtain ⟨i45, i46⟩ := r6 trivial
  have es : stp t n (4, p, D, su, st, ik, iv) = st4 t n p D su st ik iv := by
    unfold stp; simp only; rw [if_neg k4, if_neg (by decide), if_neg (by decide), if_neg (by decide), if_neg (by decide), if_pos trivial]
  unfold st4 at es
  have go : zrun 79 [vR 4, vR g] (I, zRs b, 103, S) = zX 79 9 [vR 4, vR g] [vI (if sgT t n p 40 then 1 else 0)] (I, zRs b, 103, S) := by
    rw [run79, e79_0 hg, c_sign hn hp k2 k3 k6, Option.bind_some]
    simp only [zpush_s]
  by_cases c1 : sgT t n p 40
  · rw [if_pos c1] at es
    have go2 : zrun 79 [vR 4, vR g] (I, zRs b, 103, S) = zX 79 18 [vR 4, vR g] [vI (if (st.length : Int) < 4 then 0 else 1)] (I, zRs b, 103, S) := by
      rw [go, if_pos c1, e79_9 hg, if_neg (by decide), c_isDeep hg, r2.2.1, Option.bind_some]
      simp only [zpush_s]
    by_cases c2 : (st.length : Int) < 4
    · rw [if_pos c2] at es
      obtain ⟨J, j1, j2, j3⟩ := c_begins (I := I) (b := b) (S := S) (k := ik) (v := iv) hg hb r2 dn (by omega) (by omega)
      have ef := (ad_c (D := D) (k := ik) (v := iv) (p := -4) (d := st.length) hb.2.1.1).2.2.2.2.2.2.2
      refine ⟨0, sI J 4 7 2, ?_, tk_go es ⟨sI_s, cI_c (fun q q1 q2 => sI_o (by omega)) j2, plI_c hb.1 (fun c c0 h1 h2 => ef c h1 h2) (fun q q1 q2 => by rw [sI_o (by omega)]; exact j3 q (by omega)) r3, fun z => absurd z (show ¬ (2 : Int) = 1 by decide), fun z => absurd z (show ¬ (2 : Int) = 3 by decide), fun z => absurd z (show ¬ (2 : Int) = 4 by decide)⟩ (frT_t (frT_B j3) (frT_s hg (Or.inl rfl)))⟩
      rw [go2, if_pos c2, e79_18 hg, if_pos rfl, i45, i46, j1, Option.bind_some]
      simp only [zpush_n]
      rw [e79_35 hg]
    · rw [if_neg c2] at es
      refine ⟨5, I, ?_, tk_stop es (by decide) (by decide) frT_r⟩
      rw [go2, if_neg c2, e79_18 hg, if_neg (by decide)]
  · rw [if_neg c1] at es
    refine ⟨2, I, ?_, tk_stop es (by decide) (by decide) frT_r⟩
    rw [go, if_neg c1, e79_9 hg, if_pos rfl]
theorem c_take (hg : isProg g) (hJ : stJ J0) (hro : ∀ q, 103 < q → I q = J0 q) (hn : n ≤ 300) {c : Cf} (h : cOk n c) (hk : tkC I t n c.2.1) (k4 : tK t n c.2.1 ≠ 4) (hr : cRp I g c) : ∃ r I', zrun 71 [vR 4, vR g] (I, zRs b, 103, S) = some (some (vI r), (I', zRs b, 103, S)) ∧ tkR t n g c I r I' := by
  obtain ⟨q, p, D, su, st, ik, iv⟩ := c
  simp only at hk k4
  have i7 : I 4 7 = q := hr.1
  have hq := h.2.2.2.1
  simp only at hq
  by_cases q0 : q = 0
  · subst q0
    obtain ⟨r, J, j1, j2⟩ := take0 (b := b) (S := S) hg hJ hro hn h hk k4 hr
    refine ⟨r, J, ?_, j2⟩
    rw [run71, e71_0 hg, i7, if_pos rfl, j1, Option.bind_some]
    simp only [zpush_s]
    rw [e71_48 hg]
  · by_cases q1 : q = 1
    · subst q1
      obtain ⟨r, J, j1, j2⟩ := take1 (b := b) (S := S) hg hn h hk k4 hr
      refine ⟨r, J, ?_, j2⟩
      rw [run71, e71_0 hg, i7, if_neg q0, if_pos rfl, j1, Option.bind_some]
      simp only [zpush_s]
      rw [e71_57 hg]
    · by_cases q2 : q = 2
      · subst q2
        obtain ⟨r, J, j1, j2⟩ := take2 (b := b) (S := S) hg hJ hro hn h hk k4 hr
        refine ⟨r, J, ?_, j2⟩
        rw [run71, e71_0 hg, i7, if_neg q0, if_neg q1, if_pos rfl, j1, Option.bind_some]
        simp only [zpush_s]
        rw [e71_63 hg]
      · by_cases q3 : q = 3
        · subst q3
          obtain ⟨r, J, j1, j2⟩ := take3 (b := b) (S := S) hg hn h hk k4 hr
          refine ⟨r, J, ?_, j2⟩
          rw [run71, e71_0 hg, i7, if_neg q0, if_neg q1, if_neg q2, if_pos rfl, j1, Option.bind_some]
          simp only [zpush_s]
          rw [e71_69 hg]
        · by_cases q4 : q = 4
          · subst q4
            obtain ⟨r, J, j1, j2⟩ := take4 (b := b) (S := S) hg hn h hk k4 hr
            refine ⟨r, J, ?_, j2⟩
            rw [run71, e71_0 hg, i7, if_neg q0, if_neg q1, if_neg q2, if_neg q3, if_pos rfl, j1, Option.bind_some]
            simp only [zpush_s]
            rw [e71_75 hg]
          · have q5 : q = 5 := by omega
            subst q5
            have es : stp t n (5, p, D, su, st, ik, iv) = if tK t n p = 3 then (0, (5, p, D, su, st, ik, iv)) else (2, (5, p, D, su, st, ik, iv)) := by
              unfold stp; simp only; rw [if_neg k4, if_neg q0, if_neg q1, if_neg q2, if_neg q3, if_neg q4]
            have go : zrun 71 [vR 4, vR g] (I, zRs b, 103, S) = if tK t n p = 3 then some (some (vI 0), (I, zRs b, 103, S)) else some (some (vI 2), (I, zRs b, 103, S)) := by
              rw [run71, e71_0 hg, i7, if_neg q0, if_neg q1, if_neg q2, if_neg q3, if_neg q4, hk.2.1]
            by_cases c1 : tK t n p = 3
            · rw [if_pos c1] at es go
              exact ⟨0, I, go, fun z => by rw [es] at z; exact absurd z (show ¬ (0 : Int) = -1 by decide), fun _ => by rw [es], fun _ => ⟨rfl, rfl, c1⟩, frT_r⟩
            · rw [if_neg c1] at es go
              exact ⟨2, I, go, tk_stop es (by decide) (by decide) frT_r⟩
theorem c_readL (hg : isProg g) (hJ : stJ J0) (ht : tpT t n) : ∀ (m : Nat) (c : Cf) (k : Int) (I : Nat → Int → Int), (∀ q, 103 < q → I q = J0 q) → cOk n c → cRp I g c → I 2 1 = n → I 2 4 = c.2.1 → (∀ j, 0 ≤ j → j < n → I 3 j = t j) → (pz t n m c).1 ≠ 9 → 0 ≤ k → k + m ≤ 301 → ∃ I', zX 70 18 [vR 4, vR g, vI k] [] (I, zRs b, 103, S) = some (some (vI (if (pz t n m c).1 = 0 then 1 else 0)), (I', zRs b, 103, S)) ∧ I' 4 1 = (pz t n m c).1 ∧ I' 4 2 = (pz t n m c).2.1 ∧ ((pz t n m c).1 = 0 → bOk (pz t n m c).2.2.2.2.1 (pz t n m c).2.2.2.2.2.1 [] ∧ Z4 (pz t n m c).2.2.2.2.1 ∧ cI I' g (pz t n m c).2.2.2.2.1 (pz t n m c).2.2.2.2.2.1 [] ∧ plI I' g (pz t n m c).2.2.2.2.1) ∧ ∀ q, q ≠ 2 → q ≠ 4 → q ≠ 5 → (q < g ∨ g + 12 < q) → I' q = I q := by
  have gg := isP_b hg
  have hn := ht.1.2
  intro m
  induction m with
  | zero => intro c k I _ _ _ _ _ _ h9; exact absurd rfl h9
  | succ m ih =>
    intro c k I hro h hr h1 h4 h3 h9 hk0 hk1
    obtain ⟨A, a1, a2, a3, a4, a5, a6, a7⟩ := c_tok (b := b) (S := S) hn h.1 h1 h4 h3
    have tkA : tkC A t n c.2.1 := ⟨a2, a3, a4, a5, a6, fun j j0 j1 => by rw [a7 3 (by decide)]; exact h3 j j0 j1⟩
    have rA : cRp A g c := by
      obtain ⟨r1, r2, r3, r4, r5, r6⟩ := hr
      refine ⟨by rw [a7 4 (by decide)]; exact r1, cI_c (fun q q1 q2 => a7 q (by omega)) r2, plI_c h.2.1.1 (fun _ _ _ _ => rfl) (fun q q1 q2 => a7 q (by omega)) r3, ?_, ?_, ?_⟩
      · rw [a7 4 (by decide), a7 5 (by decide)]; exact r4
      · rw [a7 4 (by decide)]; exact r5
      · rw [a7 4 (by decide)]; exact r6
    have ez : pz t n (m + 1) c = if (stp t n c).1 = -1 then pz t n m (stp t n c).2 else ((stp t n c).1, tS t n c.2.1, c) := rfl
    have go : zX 70 18 [vR 4, vR g, vI k] [] (I, zRs b, 103, S) = zX 70 32 [vR 4, vR g, vI k] [] (A, zRs b, 103, S) := by
      rw [e70_18 hg, if_neg (by omega), a1, Option.bind_some]
      simp only [zpush_n]
    by_cases k4 : tK t n c.2.1 = 4
    · have es : stp t n c = (1, c) := by unfold stp; rw [if_pos k4]
      rw [es, if_neg (show ¬ (1 : Int) = -1 by decide)] at ez
      rw [ez]
      refine ⟨sI (sI A 4 1 1) 4 2 (tS t n c.2.1), ?_, by rw [sI_k (by decide), sI_s], sI_s, fun z => absurd z (show ¬ (1 : Int) = 0 by decide), fun q q1 q2 q3 q4 => by rw [sI_o q2, sI_o q2]; exact a7 q q1⟩
      rw [go, e70_32 hg, a3, if_pos k4, e70_53 hg, if_neg (by decide), if_neg (by decide), a4]
      rfl
    · obtain ⟨r, J, j1, j2, j3, j4, j5⟩ := c_take (I := A) (b := b) (S := S) hg hJ (fun q hq => by rw [a7 q (by omega)]; exact hro q hq) hn h tkA k4 rA
      have J2 : J 2 = A 2 := j5 2 (by decide) (by decide) (by omega)
      have J3 : J 3 = A 3 := j5 3 (by decide) (by decide) (by omega)
      have go2 : zX 70 18 [vR 4, vR g, vI k] [] (I, zRs b, 103, S) = zX 70 53 [vR 4, vR g, vI k] [vI r, vR 4] (J, zRs b, 103, S) := by
        rw [go, e70_32 hg, a3, if_neg k4, j1, Option.bind_some]
        simp only [zpush_s]
      by_cases hs : (stp t n c).1 = -1
      · rw [if_pos hs] at ez
        rw [ez] at h9 ⊢
        obtain ⟨r0, rJ⟩ := j2 hs
        have cn := c_next hn h hs
        subst r0
        generalize hB : sI J 4 1 0 = B
        have bo : ∀ q, q ≠ 4 → B q = J q := fun q hq => by rw [← hB, sI_o hq]
        have b4 : ∀ j, j ≠ 1 → B 4 j = J 4 j := fun j hj => by rw [← hB, sI_k hj]
        have rB' : cRp B g (stp t n c).2 := by
          obtain ⟨r1, r2, r3, r4, r5, r6⟩ := rJ
          refine ⟨by rw [b4 7 (by decide)]; exact r1, cI_c (fun q q1 q2 => bo q (by omega)) r2, plI_c cn.1.2.1.1 (fun _ _ _ _ => rfl) (fun q q1 q2 => bo q (by omega)) r3, ?_, ?_, ?_⟩
          · rw [b4 4 (by decide), bo 5 (by decide)]; exact r4
          · rw [b4 5 (by decide)]; exact r5
          · rw [b4 5 (by decide), b4 6 (by decide)]; exact r6
        obtain ⟨K, k1, k2, k3, k4', k5⟩ := ih (stp t n c).2 (k + 1) B (fun q hq => by rw [bo q (by omega), j5 q (by omega) (by omega) (by omega), a7 q (by omega)]; exact hro q hq) cn.1 rB' (by rw [bo 2 (by decide), J2]; exact a2) (by rw [bo 2 (by decide), J2, cn.2.2.2]; exact a5) (fun j j0 j1 => by rw [bo 3 (by decide), J3, a7 3 (by decide)]; exact h3 j j0 j1) h9 (by omega) (by omega)
        refine ⟨K, ?_, k2, k3, k4', fun q q1 q2 q3 q4 => by rw [k5 q q1 q2 q3 q4, bo q q2, j5 q q2 q3 q4, a7 q q1]⟩
        rw [go2, e70_53 hg, if_pos rfl, J2, a3, if_neg cn.2.1, hB, wr_id (by omega) (by omega), k1]
      · rw [if_neg hs] at ez
        rw [ez]
        have er := j3 hs
        by_cases h0 : (stp t n c).1 = 0
        · obtain ⟨eJ, c5, t3⟩ := j4 h0
          subst eJ
          have r0 : r = 0 := by rw [er, h0]
          subst r0
          have st0' : c.2.2.2.2.1 = [] := h.2.2.2.2.2.2.2.2 c5
          refine ⟨sI (sI J 4 1 0) 4 2 (tS t n c.2.1), ?_, by simp only; rw [sI_k (by decide), sI_s, h0], sI_s, fun _ => ?_, fun q q1 q2 q3 q4 => by rw [sI_o q2, sI_o q2]; exact a7 q q1⟩
          · simp only
            rw [go2, e70_53 hg, if_pos rfl, a3, if_pos t3, if_pos rfl, a4, if_pos h0]
          · simp only
            have hb := h.2.1
            have hc := rA.2.1
            rw [st0'] at hb hc
            exact ⟨hb, h.2.2.1, cI_c (fun q q1 q2 => by rw [sI_o (by omega), sI_o (by omega)]) hc, plI_c hb.1 (fun _ _ _ _ => rfl) (fun q q1 q2 => by rw [sI_o (by omega), sI_o (by omega)]) rA.2.2.1⟩
        · refine ⟨sI (sI J 4 1 r) 4 2 (tS t n c.2.1), ?_, by simp only; rw [sI_k (by decide), sI_s, er], sI_s, fun z => absurd z h0, fun q q1 q2 q3 q4 => by rw [sI_o q2, sI_o q2, j5 q q2 q3 q4, a7 q q1]⟩
          simp only
          rw [go2, e70_53 hg, if_neg (by rw [er]; exact h0), if_neg (by rw [er]; exact h0), J2, a4, if_neg h0]
end A67
