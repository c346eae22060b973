/-! ===== draw ===== -/
section A63
variable {I I' : Nat → Int → Int} {b : Bool} {S : Nat} {g : Nat} {N : Int} {J0 : Nat → Int → Int}
theorem bld_c {T : Int → Int} (h : ∀ q, g ≤ q → q ≤ g + 12 → I' q = I q) (hb : bld I g T) : bld I' g T := by
  unfold bld uR at *
  rw [h g (by omega) (by omega), h (g + 1) (by omega) (by omega), h (g + 2) (by omega) (by omega), h (g + 3) (by omega) (by omega), h (g + 4) (by omega) (by omega), h (g + 5) (by omega) (by omega), h (g + 6) (by omega) (by omega), h (g + 7) (by omega) (by omega), h (g + 8) (by omega) (by omega), h (g + 9) (by omega) (by omega), h (g + 10) (by omega) (by omega), h (g + 12) (by omega) (by omega)]
  exact hb
theorem c_clear (hg : isProg g) : ∃ I', zrun 53 [vR g] (I, zRs b, 103, S) = some (none, (I', zRs b, 103, S)) ∧ I' (g + 1) 4 = 0 ∧ I' (g + 1) 5 = 0 ∧ I' g 6 = 0 ∧ I' g 8 = 0 ∧ I' (g + 12) 0 = 0 ∧ ∀ q, q ≠ g → q ≠ g + 1 → q ≠ g + 12 → I' q = I q := by
  refine ⟨sI (sI (sI (sI (sI I (g + 1) 4 0) (g + 1) 5 0) g 6 0) g 8 0) (g + 12) 0 0, ?_, ?_, ?_, ?_, ?_, sI_s, fun q q1 q2 q3 => ?_⟩
  · rw [run53, e53_0 hg, run44, e44_0 (isProg_pool hg), Option.bind_some]
    simp only [zpush_n]
    rw [e53_7 hg]
  · rw [sI_o (by omega), sI_o (by omega), sI_o (by omega), sI_k (by decide), sI_s]
  · rw [sI_o (by omega), sI_o (by omega), sI_o (by omega), sI_s]
  · rw [sI_o (by omega), sI_k (by decide), sI_s]
  · rw [sI_o (by omega), sI_s]
  · rw [sI_o q3, sI_o q1, sI_o q1, sI_o q2, sI_o q2]
theorem cI_0 {D : Int → Int} (h1 : D 1 = 0) (h6 : I g 6 = 0) (h8 : I g 8 = 0) (h12 : I (g + 12) 0 = 0) : cI I g D (fun _ => 0) [] := ⟨by rw [h6, h1], h8, fun i i0 i1 => by omega, h12, fun o o0 o1 => by omega⟩
theorem bOk_0 {D : Int → Int} (h1 : D 1 = 0) (hs : sgO D) : bOk D (fun _ => 0) [] := ⟨hs, by omega, by decide, fun i i0 i1 => by omega, fun l o l0 l1 o1 => by omega, ⟨rfl, fun i i0 i1 => by omega⟩, fun x _ _ => Or.inr ⟨by show (0 : Int) ≤ 0; decide, by show (0 : Int) ≤ 2519424; decide⟩, by omega, by rw [h1]; exact ⟨0, rfl⟩, Or.inr ⟨by show (0 : Int) ≤ 0; decide, by show (0 : Int) ≤ _; omega⟩⟩
theorem mix0 {f : Int → Int} (h : Z4 f) : mix 234 (fun _ => 0) f = fun _ => 0 := by
  funext c; unfold mix
  split
  · rfl
  · rename_i z; exact h c z
theorem r_clrD {f : Int → Int} {a1 a2 : Int} : ∀ (n : Nat) (a : Int), a = 234 - n → 0 ≤ a → zX 198 26 [vR 87, vI a1, vI a2, vI a, none, none] [] (sP I 89 (mix a (fun _ => 0) f), zRs b, 103, S) = zX 198 55 [vR 87, vI a1, vI a2, vI 0, none, none] [] (sP I 89 (up (mix 234 (fun _ => 0) f) 0 a2), zRs b, 103, S) := by
  intro n
  induction n with
  | zero => intro a e h0; rw [e198_26, if_pos (by omega), show a = 234 by omega, sIP]
  | succ n ih =>
    intro a e h0
    rw [e198_26, if_neg (by omega), if_pos (by omega), wr_id (by omega) (by omega), sIP]
    have := mix_up (g := fun _ => 0) (f := f) h0
    rw [this]
    exact ih _ (by omega) (by omega)
/-! what a new program leaves, class and reference -/
theorem new_inv {J C F2 : Nat → Int → Int} {b' : Bool} {T : Int → Int} (hI : Inv I b N J0) (ok : tOk T) (z4 : Z4 T) (hb : bld J (zg b') T) (h8 : PR C 8 (begF T (I 93))) (hla : laOk (begF T (I 93))) (hC23 : C 23 0 = 0 ∧ C 23 1 = 0) (jC : ∀ q, (q < 8 ∨ 21 < q) → q ≠ 23 → C q = J q) (e89 : F2 89 = T) (fC : ∀ q, q < 87 → F2 q = C q) (f88 : F2 88 = I 88) (f93 : F2 93 = I 93) (f99 : F2 99 = I 99) (ht : iTape F2) (hm : F2 4 1 = F2 87 15) (hm2 : F2 1 9 = F2 87 28) (fI : ∀ q, (78 < q ∧ q < 87) ∨ 100 < q → F2 q = I q) : ∃ F, zrun 146 [vR 87] (F2, zRs b', 103, S) = some (none, (F, zRs b', 103, S)) ∧ F 88 1 = T 1 ∧ Inv F b' (N + 30000) J0 := by
  obtain ⟨_, _, ⟨hR, hv, hz⟩, _, hs, hmis, hro⟩ := id hI
  have zz := zg_or b'
  obtain ⟨F, k1, k2, k3, k4, k5, k6, k7, k8, k9⟩ := r_takes (I := F2) (b := b') (S := S) ok e89 (by rw [f88]; exact hmis.2.2.1) z4 (by rw [f93]; exact hv.2.2.2) (by rw [f99]; exact hz)
  rw [f93] at k6 k7
  have fo : ∀ q, q < 87 → F q = C q := fun q hq => (k8 q (by omega) (by omega) (by omega) (by omega) (by omega) (by omega) (by omega) (by omega)).trans (fC q hq)
  have fhi : ∀ q, (q = 89 ∨ q = 96 ∨ 100 < q) → F q = F2 q := fun q hq => k8 q (by omega) (by omega) (by omega) (by omega) (by omega) (by omega) (by omega) (by omega)
  have bo := beg_ok (pm := F 87 3) (N := N + 30000) ok (f := I 93) ⟨hv.1.2.2.1, hv.1.2.2.2.1, hv.1.2.2.2.2.1, hv.1.2.2.2.2.2.1, hv.1.2.2.2.2.2.2.1⟩ hv.2.2.2 (by have := hv.1.2.2.2.2.2.2.2.2.2; omega)
  refine ⟨F, k1, by rw [k2], Inv_new (C := C) hI ok (bld_c (fun q q1 q2 => jC q (by omega) (by omega)) hb) z4 ?_ h8 hla hC23 k2 ?_ k3 ⟨k4, k5⟩ k6 (by rw [k7]; exact bo.2.2) (fun q hq => fo q (by omega)) ?_ ?_ (fun q hq => ?_)⟩
  · exact iTape_c (by rw [fo 2 (by omega), fC 2 (by omega)]) (by rw [fo 3 (by omega), fC 3 (by omega)]) (fhi 96 (by omega)) (k9 10 (by decide) (by decide)) ht
  · rw [fhi 89 (by omega), e89]; exact z4
  · rw [fo 4 (by omega), ← fC 4 (by omega), k9 15 (by decide) (by decide)]; exact hm
  · rw [fo 1 (by omega), ← fC 1 (by omega), k9 28 (by decide) (by decide)]; exact hm2
  · rcases hq with z | z
    · rw [fo q (by omega), ← fC q (by omega)]; exact fI q (Or.inl z)
    · rw [fhi q (by omega)]; exact fI q (Or.inr z)
theorem op_draw {x n : Int} (hI : Inv I b N J0) : opOk 111 198 [vI x, vI n] I b S N J0 := by
  obtain ⟨hT, ⟨ok0, po, hp, hc, _⟩, ⟨hR, hv, hz⟩, _, _, hmis, _⟩ := id hI
  have zz := zg_or b
  have hg : isProg (zg b) := zz
  have r0 : zrun 198 [vR 87, vI x, vI n] = zrun 198 [vR 87, vI x, vI n] := rfl
  by_cases hn : 1 ≤ n ∧ n ≤ 8
  · generalize hI0 : sI (sI I 6 2 x) 6 1 n = I0
    have o0 : ∀ q, q ≠ 6 → I0 q = I q := fun q hq => by rw [← hI0, sI_o hq, sI_o hq]
    obtain ⟨I1, i1, i2, i3, i4, i5, i6, i7⟩ := c_clear (I := I0) (b := b) (S := S) hg
    have s62 : I1 6 2 = x := by rw [i7 6 (by omega) (by omega) (by omega), ← hI0, sI_k (by decide), sI_s]
    have s61 : I1 6 1 = n := by rw [i7 6 (by omega) (by omega) (by omega), ← hI0, sI_s]
    obtain ⟨I2, u1, u2, u3, u4, u5, u6, u7⟩ := c_dSg (b := b) (S := S) hg hn.2 n.toNat 0 x (up (fun _ => 0) 0 n) I1 none none (by omega) (by omega) s62 s61 i3 (fun t t0 t1 => by omega) (fun t t0 t1 => by omega) ⟨fun _ => 0, rfl, i2.symm, fun s s0 s1 => by omega⟩
    have dS := dSg_f n.toNat x (up (fun _ => 0) 0 n) 0
    have hR' := fun (I : Nat → Int → Int) => r_dSg (b := b) (S := S) (a1 := x) hn.2 n.toNat 0 x (up (fun _ => 0) 0 n) I none none (by omega) (by omega)
    generalize (dSg n.toNat x (up (fun _ => 0) 0 n) 0).1 = y at *
    generalize (dSg n.toNat x (up (fun _ => 0) 0 n) 0).2 = D at *
    have D0 : D 0 = n := by rw [dS.1 0 (by omega), up_s]
    have D1 : D 1 = 0 := by rw [dS.1 1 (by omega), up_n (by decide)]
    have sg : sgO D := ⟨by omega, fun s s0 s1 => (dS.2 s s0 (by omega)).1, fun s i s0 s1 i0 i1 => (dS.2 s s0 (by omega)).2 i i0 i1⟩
    have z4D : Z4 D := fun c hc => by rw [dS.1 c (by omega), up_n (by omega)]
    have dk : dOk n (y, D, (fun _ => 0), []) := ⟨bOk_0 D1 sg, D0, trivial, Or.inl (by simp only; omega), z4D⟩
    obtain ⟨f, f1, f2, f3, f4⟩ := d_run hn 16 20 400 (y, D, (fun _ => 0), []) dk (by simp only; omega) (by simp only; omega) (chk_all (by omega)) (by decide)
    simp only at f4
    obtain ⟨I3, v1, v2, v3⟩ := c_dLoop (b := b) (S := S) (a2 := x) (a3 := n) hg hn 400 (y, D, (fun _ => 0), []) 0 none I2 dk ⟨u2, u3, cI_0 D1 (by rw [u7 _ (by omega) (by omega) (by omega)]; exact i4) (by rw [u7 _ (by omega) (by omega) (by omega)]; exact i5) (by rw [u7 _ (by omega) (by omega) (by omega)]; exact i6), u4, u5⟩ f1 (by omega) (by decide)
    have bf := f2.1
    rw [f3] at bf
    have cf := v2.2.2.1
    rw [f3] at cf
    have T0 : f.2.1 0 = n := f2.2.1
    have tk := b_tOk bf
    have mnT : ∀ t, 0 ≤ t → t < n → mn f.2.1 t = mn D t := fun t t0 t1 => by unfold mn; rw [f4 _ (by omega) (by omega)]
    have pT : poolIs f.2.1 n (I3 (zg b + 3)) (I3 (zg b + 5)) (I3 (zg b + 2)) (I3 (zg b + 1) 4) := by
      rw [v3 (zg b + 1) (by omega) (by omega)]
      refine pool_c (T := D) (by omega) (fun t t0 t1 => (dS.2 t t0 (by omega)).1) (fun t t0 t1 => ⟨mnT t t0 t1, fun i i0 i1 => ?_⟩) (fun t _ _ => ⟨by rw [v3 _ (by omega) (by omega)], by rw [v3 _ (by omega) (by omega)]⟩) (fun j _ _ => by rw [v3 _ (by omega) (by omega)]) u6
      have := (dS.2 t t0 (by omega)).1
      unfold lv; rw [f4 _ (by omega) (by omega)]
    have bl : bld I3 (zg b) f.2.1 := c_bld bf cf (by rw [v2.2.2.2.1, T0]) (fun s s0 s1 => v2.2.2.2.2 s s0 (by omega)) (by rw [T0]; exact pT)
    have fr3 : ∀ q, q ≠ 6 → q ≠ 7 → (q < zg b ∨ zg b + 12 < q) → I3 q = I q := fun q q1 q2 q3 => by
      rw [v3 q q1 (by omega), u7 q q1 q2 (by omega), i7 q (by omega) (by omega) (by omega), o0 q q1]
    obtain ⟨C, c1, c2, c3, c4, c5, c6⟩ := c_beginNew (I := I3) (b := b) (S := S) (f := I 93) tk.1 (bld_pgm bl) (fun j j0 j1 => by rw [fr3 19 (by decide) (by decide) (by omega)]; exact hR.2.2.2.2.2.2.2.2 j j0 j1) hv.2.2.2
    have frC : ∀ q, (q < 6 ∨ 50 < q) → C q = I q := fun q hq => by rw [c6 q (by omega) (by omega), fr3 q (by omega) (by omega) (by omega)]
    generalize hA : sI (sI C 87 24 x) 87 19 0 = A
    have ao : ∀ q, q ≠ 87 → A q = C q := fun q hq => by rw [← hA, sI_o hq, sI_o hq]
    have a89 : A 89 = I 89 := by rw [ao 89 (by decide), frC 89 (by omega)]
    have clr := r_clrD (I := A) (b := b) (S := S) (a1 := x) (a2 := n) (f := A 89) 234 0 (by omega) (by omega)
    rw [mix_0, sP_I, a89, mix0 hmis.2.2.2] at clr
    generalize hB : sP A 89 (up (fun _ => 0) 0 n) = B at clr
    have bo : ∀ q, q ≠ 89 → B q = A q := fun q hq => by rw [← hB, sP_n hq]
    obtain ⟨G, w4, w5, g1, g2, g3, g4, g5⟩ := hR' B (by rw [bo 87 (by decide), ← hA, sI_k (by decide), sI_s]) (by rw [← hB, sP_s])
    obtain ⟨F2, h1, h2, h3⟩ := r_dLoop (b := b) (S := S) hn (a1 := x) (a3 := n) (w4 := w4) (w5 := w5) 400 (y, D, (fun _ => 0), []) G dk ⟨g3, by rw [g5 19 (by decide), bo 87 (by decide), ← hA, sI_s]; rfl, trivial⟩ g2 f1
    have fF : ∀ q, q ≠ 87 → q ≠ 89 → q ≠ 97 → q ≠ 98 → F2 q = C q := fun q q1 q2 q3 q4 => by rw [h3.1 q q1 q2 q3 q4, g4 q q1 q2, bo q q2, ao q q1]
    have f7 : ∀ j, j ≠ 19 → j ≠ 24 → F2 87 j = C 87 j := fun j j1 j2 => by rw [h3.2 j j1 j2, g5 j j2, bo 87 (by decide), ← hA, sI_k j1, sI_k j2]
    have tp : iTape F2 := by exact iTape_c (by rw [fF 2 (by decide) (by decide) (by decide) (by decide), frC 2 (by omega)]) (by rw [fF 3 (by decide) (by decide) (by decide) (by decide), frC 3 (by omega)]) (by rw [fF 96 (by decide) (by decide) (by decide) (by decide), frC 96 (by omega)]) (by rw [f7 10 (by decide) (by decide), frC 87 (by omega)]) hT
    have m1 : F2 4 1 = F2 87 15 := by rw [fF 4 (by decide) (by decide) (by decide) (by decide), frC 4 (by omega), f7 15 (by decide) (by decide), frC 87 (by omega)]; exact hmis.1
    have m2 : F2 1 9 = F2 87 28 := by rw [fF 1 (by decide) (by decide) (by decide) (by decide), frC 1 (by omega), f7 28 (by decide) (by decide), frC 87 (by omega)]; exact hmis.2.1
    obtain ⟨F, k1, k2, k3⟩ := new_inv (S := S) (J := I3) (C := C) (F2 := F2) (b' := b) hI tk.1 f2.2.2.2.2 bl c2 c3 ⟨c4, c5⟩ c6 h2 (fun q hq => fF q (by omega) (by omega) (by omega) (by omega)) (by rw [fF 88 (by decide) (by decide) (by decide) (by decide), frC 88 (by omega)]) (by rw [fF 93 (by decide) (by decide) (by decide) (by decide), frC 93 (by omega)]) (by rw [fF 99 (by decide) (by decide) (by decide) (by decide), frC 99 (by omega)]) tp m1 m2 (fun q hq => by rw [fF q (by omega) (by omega) (by omega) (by omega), frC q (by omega)])
    refine ⟨f.2.1 1, C, b, F, ?_, ?_, k3⟩
    · rw [run111, e111_0, if_neg (by omega), if_pos hn.2, run14, e14_0 hg, hI0, i1, Option.bind_some]
      simp only [zpush_n]
      rw [e14_14 hg, run16, e16_0 (isProg_pool hg), u1, Option.bind_some]
      simp only [zpush_n]
      rw [e14_22 hg, v1, Option.bind_some]
      simp only [zpush_n]
      rw [e111_26, c1, Option.bind_some]
      simp only [zpush_n]
      rw [e111_30, c6 (zg b) (by omega) (by omega), cf.1]
    · rw [run198, e198_0, r_in, Option.bind_some]
      simp only [zpush_s]
      rw [e198_9, if_pos hn, if_neg (by decide), hA, clr, g1, h1, k1, Option.bind_some]
      simp only [zpush_n]
      rw [e198_159, k2]
  · refine op_ro (-1) hI ?_ ?_
    · rw [run111, e111_0]
      by_cases h2 : n < 1
      · rw [if_pos h2]
      · rw [if_neg h2, if_neg (by omega)]
    · rw [run198, e198_0, r_in, Option.bind_some]
      simp only [zpush_s]
      rw [e198_9, if_neg hn, if_pos rfl]
end A63
