/-! ===== text ===== -/
section A70
variable {I I' : Nat → Int → Int} {b : Bool} {S : Nat} {g : Nat} {N : Int} {J0 : Nat → Int → Int}
theorem zg_sw (b : Bool) : zg (!b) = zg2 b ∧ ((zg b = 25 ∧ zg2 b = 38) ∨ (zg b = 38 ∧ zg2 b = 25)) := by cases b <;> decide
theorem zR_sw (b : Bool) : sR (sR (zRs b) 1 8 (zg b)) 1 7 (zg2 b) = zRs (!b) := by
  funext p k
  have h1 : zg (!b) = zg2 b := (zg_sw b).1
  have h2 : zg2 (!b) = zg b := by cases b <;> rfl
  unfold sR zRs
  by_cases c1 : p = 1 ∧ k = 7
  · rw [if_pos c1, if_pos c1, h1]
  · rw [if_neg c1, if_neg c1]
    by_cases c2 : p = 1 ∧ k = 8
    · simp only [if_pos c2, if_neg c1, h2]
    · simp only [if_neg c2, if_neg c1]
theorem e94_54' {x : Nat} {a2 : Int} : zX 94 54 [vR 1, vR x, vI a2] [] (I, zRs b, 103, S) = some (some (vI (I (zg b) 6)), (I, zRs b, 103, S)) := (xAload_n d94_54 rfl).trans ((xGetR 7 (zg b) d94_55 zo_94 zfl_10_56 rfl rfl rfl (Or.inl (Nat.le_of_ble_eq_true rfl))).trans ((xGetI 6 (I (zg b) 6) rfl d94_58 zo_94 zfl_10_82 (by decide) rfl (isProg_k (zg_ok b)) (Or.inl (isProg_n (zg_ok b)))).trans (xIret d94_61 zret_94)))
theorem r_clrT {f : Int → Int} : ∀ (n : Nat) (a : Int), a = 234 - n → 0 ≤ a → zX 145 17 [vR 87, vI a] [] (sP I 89 (mix a (fun _ => 0) f), zRs b, 103, S) = (zrun 135 [vR 87] (sP I 89 (mix 234 (fun _ => 0) f), zRs b, 103, S)).bind (fun q => zX 145 41 [vR 87, vI 234] (zpush q.1 []) q.2) := by
  intro n
  induction n with
  | zero => intro a e h0; rw [e145_17, if_pos (by omega), show a = 234 by omega]
  | succ n ih =>
    intro a e h0
    rw [e145_17, if_neg (by omega), if_pos (by omega), wr_id (by omega) (by omega), sIP]
    have := mix_up (g := fun _ => 0) (f := f) h0
    rw [this]
    exact ih _ (by omega) (by omega)
def c00 : Cf := (0, 0, (fun _ => 0), (fun _ => 0), [], 0, 0)
theorem sg_00 : sgO (fun _ => 0) := ⟨⟨Int.le_refl _, by decide⟩, fun s s0 s1 => absurd s1 (by show ¬ s < 0; omega), fun s i s0 s1 => absurd s1 (by show ¬ s < 0; omega)⟩
theorem c00_ok {n : Int} (hn : 0 ≤ n) : cOk n c00 := ⟨⟨Int.le_refl _, hn⟩, bOk_0 rfl sg_00, fun _ _ => rfl, ⟨by show (0 : Int) ≤ 0 ∧ (0 : Int) ≤ 5; decide, fun _ => ⟨⟨rfl, rfl, rfl⟩, fun _ _ _ => rfl⟩, fun z => absurd z (show ¬ (0 : Int) = 1 by decide), fun z => absurd z (show ¬ (0 : Int) = 3 by decide), fun z => absurd z (show ¬ (0 : Int) = 4 by decide), fun _ => rfl⟩⟩
theorem r_textW {t : Int → Int} {n : Int} (ht : tpT t n) (hI : tpR I t n) (h4 : Z4 (I 89)) : ∃ H, Fin' H (pz t n 301 c00) ∧ frP I H ∧ zrun 145 [vR 87] (I, zRs b, 103, S) = zX 145 86 [vR 87, vI 234] [] (H, zRs b, 103, S) := by
  have hn := ht.1
  generalize hA : sI (sI (sI I 87 15 0) 87 11 0) 87 19 0 = A
  have ao : ∀ q, q ≠ 87 → A q = I q := fun q hq => by rw [← hA, sI_o hq, sI_o hq, sI_o hq]
  have fA : frP I A := ⟨fun q h1 _ _ _ => ao q h1, fun j hj => by rw [← hA, sI_k (by omega), sI_k (by omega), sI_k (by omega)]⟩
  have clr := r_clrT (I := A) (b := b) (S := S) (f := A 89) 234 0 (by omega) (by omega)
  rw [mix_0, sP_I, ao 89 (by decide), mix0 h4] at clr
  generalize hB : sP A 89 (fun _ => 0) = B at clr
  have bo : ∀ q, q ≠ 89 → B q = A q := fun q hq => by rw [← hB, sP_n hq]
  have fB : frP I B := frP_t fA (by rw [← hB]; exact frP_9)
  obtain ⟨G, g1, g2, g3⟩ := r_tok (I := B) (b := b) (S := S) (p := 0) ht (by omega) (tpR_P hI fB) (by rw [bo 87 (by decide), ← hA, sI_k (by decide), sI_s]) (by rw [bo 87 (by decide), ← hA, sI_k (by decide), sI_k (by decide), sI_s])
  have rr : rRp G t n c00 := ⟨⟨by rw [g3.1 89 (by decide), ← hB, sP_s]; rfl, by rw [g3.2 19 (by omega), bo 87 (by decide), ← hA, sI_s]; rfl, trivial⟩, trivial, tpR_c (tpR_P hI fB) g3, g2⟩
  obtain ⟨H, h1, h2, h3⟩ := r_head (b := b) (S := S) (a1 := 234) ht 301 301 (Nat.le_refl _) G 0 (fun _ => 0) (fun _ => 0) [] 0 0 (c00_ok hn.1) rr (pz_9 hn.2 301 c00 (c00_ok hn.1) (by show n - 0 < _; omega))
  refine ⟨H, h2, frP_t fB (frP_t (frP_K g3) h3), ?_⟩
  rw [run145, e145_0, hA, clr, g1, Option.bind_some]
  simp only [zpush_n]
  exact h1
theorem op_text (hI : Inv I b N J0) (hJ : stJ J0) : opOk 94 145 [] I b S N J0 := by
  obtain ⟨hT, hPr, hPl, hIm, hSh, hmis, hro⟩ := id hI
  obtain ⟨hR, hv, hz⟩ := hPl
  obtain ⟨t1, t2, t3⟩ := hT
  have sw := zg_sw b
  have hg : isProg (zg2 b) := zg2_ok b
  have gg := isP_b hg
  have ht : tpT (I 96) (I 87 10) := ⟨t2, fun j j0 j1 => (t3 j j0 j1).2⟩
  -- the class
  obtain ⟨I1, i1, i2, i3, i4, i5, i6, i7⟩ := c_clear (I := I) (b := b) (S := S) hg
  generalize hA : sI (sI I1 2 4 0) 4 7 0 = A
  have ao : ∀ q, q ≠ 2 → q ≠ 4 → A q = I1 q := fun q q1 q2 => by rw [← hA, sI_o q2, sI_o q1]
  have aI : ∀ q, q ≠ 2 → q ≠ 4 → (q < zg2 b ∨ zg2 b + 12 < q) → A q = I q := fun q q1 q2 q3 => (ao q q1 q2).trans (i7 q (by omega) (by omega) (by omega))
  have n9 := pz_9 (t := I 96) t2.2 301 c00 (c00_ok t2.1) (by show I 87 10 - 0 < _; omega)
  obtain ⟨B, b1, b2, b3, b4, b5⟩ := c_readL (b := b) (S := S) (t := I 96) (n := I 87 10) (g := zg2 b) hg hJ ht 301 c00 0 A (fun q hq => by rw [aI q (by omega) (by omega) (by omega)]; exact hro q hq) (c00_ok t2.1) ⟨by rw [← hA, sI_s]; rfl, cI_0 rfl (by rw [ao _ (by omega) (by omega)]; exact i4) (by rw [ao _ (by omega) (by omega)]; exact i5) (by rw [ao _ (by omega) (by omega)]; exact i6), ⟨by rw [ao _ (by omega) (by omega)]; exact i3, fun s s0 s1 => absurd s1 (by show ¬ s < 0; omega), ⟨fun _ => 0, rfl, by rw [ao _ (by omega) (by omega)]; exact i2.symm, fun s s0 s1 => absurd s1 (by show ¬ s < 0; omega)⟩⟩, fun z => absurd z (show ¬ (0 : Int) = 1 by decide), fun z => absurd z (show ¬ (0 : Int) = 3 by decide), fun z => absurd z (show ¬ (0 : Int) = 4 by decide)⟩ (by rw [← hA, sI_o (by decide), sI_k (by decide), i7 2 (by omega) (by omega) (by omega)]; exact t1) (by rw [← hA, sI_o (by decide), sI_s]; rfl) (fun j j0 j1 => by rw [aI 3 (by decide) (by decide) (by omega)]; exact (t3 j j0 j1).1) n9 (by decide) (by decide)
  have bI : ∀ q, q ≠ 2 → q ≠ 4 → q ≠ 5 → (q < zg2 b ∨ zg2 b + 12 < q) → B q = I q := fun q q1 q2 q3 q4 => (b5 q q1 q2 q3 q4).trans (aI q q1 q2 q4)
  have cl : zrun 94 [vR 1] (I, zRs b, 103, S) = zX 94 13 [vR 1, vR (zg2 b), none] [vI (if (pz (I 96) (I 87 10) 301 c00).1 = 0 then 1 else 0)] (B, zRs b, 103, S) := by
    rw [run94, e94_0, run70, e70_0 hg, i1, Option.bind_some]
    simp only [zpush_n]
    rw [e70_4 hg, run85, e85_0, Option.bind_some]
    simp only [zpush_n]
    rw [e70_11 hg, hA, b1, Option.bind_some]
    simp only [zpush_s]
  generalize hB1 : sI B 2 1 0 = B1
  have b1o : ∀ q, q ≠ 2 → B1 q = B q := fun q hq => by rw [← hB1, sI_o hq]
  have b1I : ∀ q, q ≠ 2 → q ≠ 4 → q ≠ 5 → (q < zg2 b ∨ zg2 b + 12 < q) → B1 q = I q := fun q q1 q2 q3 q4 => (b1o q q1).trans (bI q q1 q2 q3 q4)
  by_cases hr : (pz (I 96) (I 87 10) 301 c00).1 = 0
  · -- taken
    rw [if_pos hr] at cl
    obtain ⟨bk, z4T, cB, pB⟩ := b4 hr
    have tk := b_tOk bk
    generalize hTT : (pz (I 96) (I 87 10) 301 c00).2.2.2.2.1 = T at *
    have cB1 := cI_c (I' := B1) (fun q q1 q2 => b1o q (by omega)) cB
    have pB1 := plI_c (I' := B1) bk.1 (fun _ _ _ _ => rfl) (fun q q1 q2 => b1o q (by omega)) pB
    have bl : bld B1 (zg (!b)) T := by rw [sw.1]; exact c_bld bk cB1 pB1.1 pB1.2.1 pB1.2.2
    obtain ⟨C, c1, c2, c3, c4, c5, c6⟩ := c_beginNew (I := B1) (b := !b) (S := S) (f := I 93) tk.1 (bld_pgm bl) (fun j j0 j1 => by rw [b1I 19 (by decide) (by decide) (by decide) (by omega)]; exact hR.2.2.2.2.2.2.2.2 j j0 j1) hv.2.2.2
    have frC : ∀ q, (q = 1 ∨ q = 3 ∨ 50 < q) → C q = I q := fun q hq => by rw [c6 q (by omega) (by omega), b1I q (by omega) (by omega) (by omega) (by omega)]
    obtain ⟨H, h1, h2, h3⟩ := r_textW (I := C) (b := !b) (S := S) (t := I 96) (n := I 87 10) ht ⟨by rw [frC 87 (by omega)], fun j _ _ => by rw [frC 96 (by omega)]⟩ (by rw [frC 89 (by omega)]; exact hmis.2.2.2)
    rcases h1.2 with ⟨w1, _⟩ | ⟨w1, w2, w3, w4⟩
    · omega
    · rw [hr] at w3
      rw [hTT] at w2
      have s0 : H 87 13 = 0 := by
        by_cases q : H 87 13 = 0
        · exact q
        · rw [if_neg q] at w3; omega
      generalize hF2 : sI H 87 10 0 = F2
      have fo : ∀ q, q ≠ 87 → F2 q = H q := fun q hq => by rw [← hF2, sI_o hq]
      have fF : ∀ q, q ≠ 87 → q ≠ 89 → q ≠ 97 → q ≠ 98 → F2 q = C q := fun q q1 q2 q3 q4 => (fo q q1).trans (h2.1 q q1 q2 q3 q4)
      have tp : iTape F2 := by
        have e0 : F2 87 10 = 0 := by rw [← hF2, sI_s]
        refine ⟨?_, by omega, fun j j0 j1 => by omega⟩
        rw [e0, fF 2 (by decide) (by decide) (by decide) (by decide), c6 2 (by decide) (by decide), ← hB1, sI_s]
      have m1 : F2 4 1 = F2 87 15 := by rw [fF 4 (by decide) (by decide) (by decide) (by decide), c6 4 (by decide) (by decide), b1o 4 (by decide), b2, hr, ← hF2, sI_k (by decide), w1]
      have m2 : F2 1 9 = F2 87 28 := by rw [fF 1 (by decide) (by decide) (by decide) (by decide), frC 1 (by omega), ← hF2, sI_k (by decide), h2.2 28 (by omega), frC 87 (by omega)]; exact hmis.2.1
      obtain ⟨F, k1, k2, k3⟩ := new_inv (S := S) (J := B1) (C := C) (F2 := F2) (b' := !b) hI tk.1 z4T bl c2 c3 ⟨c4, c5⟩ c6 (by rw [fo 89 (by decide)]; exact w2) (fun q hq => fF q (by omega) (by omega) (by omega) (by omega)) (by rw [fF 88 (by decide) (by decide) (by decide) (by decide), frC 88 (by omega)]) (by rw [fF 93 (by decide) (by decide) (by decide) (by decide), frC 93 (by omega)]) (by rw [fF 99 (by decide) (by decide) (by decide) (by decide), frC 99 (by omega)]) tp m1 m2 (fun q hq => by rw [fF q (by omega) (by omega) (by omega) (by omega), frC q (by omega)])
      refine ⟨T 1, C, !b, F, ?_, ?_, k3⟩
      · rw [cl, e94_13, if_neg (by decide), zR_sw, hB1, c1, Option.bind_some]
        simp only [zpush_n]
        rw [e94_54', c6 (zg (!b)) (by omega) (by omega), sw.1, cB1.1]
      · rw [h3, e145_86, if_pos w1, if_pos s0, r_reqN (Or.inl (by decide)), Option.bind_some]
        simp only [zpush_n]
        rw [e145_110, if_pos (by omega), hF2, k1, Option.bind_some]
        simp only [zpush_n]
        rw [e145_134, k2]
  · -- a fault
    rw [if_neg hr] at cl
    have frC : ∀ q, q ≠ 2 → q ≠ 4 → q ≠ 5 → (q < zg2 b ∨ zg2 b + 12 < q) → B1 q = I q := b1I
    obtain ⟨H, h1, h2, h3⟩ := r_textW (I := B1) (b := b) (S := S) (t := I 96) (n := I 87 10) ht ⟨by rw [frC 87 (by decide) (by decide) (by decide) (by omega)], fun j _ _ => by rw [frC 96 (by decide) (by decide) (by decide) (by omega)]⟩ (by rw [frC 89 (by decide) (by decide) (by decide) (by omega)]; exact hmis.2.2.2)
    have outc : ∃ G : Nat → Int → Int, zX 145 86 [vR 87, vI 234] [] (H, zRs b, 103, S) = some (some (vI (wr (-10 - (pz (I 96) (I 87 10) 301 c00).2.1))), (sI G 87 10 0, zRs b, 103, S)) ∧ G 87 15 = (pz (I 96) (I 87 10) 301 c00).1 ∧ frP B1 G ∧ Z4 (G 89) := by
      rcases h1.2 with ⟨w1, w2, w3⟩ | ⟨w1, w2, w3, w4⟩
      · refine ⟨H, ?_, w2, h2, h1.1⟩
        rw [e145_86, if_neg (by omega), e145_110, if_neg (by omega), w3]
      · have s0 : H 87 13 ≠ 0 := fun q => by rw [if_pos q] at w3; exact hr w3
        rw [if_neg s0] at w3
        refine ⟨fl H 2, ?_, by rw [fl_15, w3], frP_t h2 (frP_K fl_K), by rw [fl_K.1 89 (by decide)]; exact h1.1⟩
        rw [e145_86, if_pos w1, if_neg s0, r_reqF w1, Option.bind_some]
        simp only [zpush_n]
        show zX 145 110 _ _ (fl H 2, zRs b, 103, S) = _
        rw [e145_110, if_neg (by rw [fl_15]; decide), fl_16, w4]
    obtain ⟨G, g1, g2, g3, g4⟩ := outc
    generalize hF : sI G 87 10 0 = F at g1
    have fF : ∀ q, q ≠ 2 → q ≠ 4 → q ≠ 5 → (q < zg2 b ∨ zg2 b + 12 < q) → q ≠ 87 → q ≠ 89 → q ≠ 97 → q ≠ 98 → F q = I q := fun q q1 q2 q3 q4 q5 q6 q7 q8 => by rw [← hF, sI_o q5, g3.1 q q5 q6 q7 q8, frC q q1 q2 q3 q4]
    have f7 : ∀ j, (j < 10 ∨ (16 < j ∧ j ≠ 19)) → F 87 j = I 87 j := fun j hj => by rw [← hF, sI_k (by omega), g3.2 j (by omega), frC 87 (by decide) (by decide) (by decide) (by omega)]
    have f' : ∀ q, (q = 1 ∨ q = 3 ∨ (5 < q ∧ q < 25) ∨ (50 < q ∧ q < 87) ∨ q = 88 ∨ (89 < q ∧ q < 97) ∨ 98 < q) → F q = I q := fun q hq => fF q (by omega) (by omega) (by omega) (by omega) (by omega) (by omega) (by omega) (by omega)
    refine ⟨wr (-10 - (pz (I 96) (I 87 10) 301 c00).2.1), B1, b, F, ?_, ?_, ?_⟩
    · rw [cl, e94_13, if_pos rfl, b3, hB1]
    · rw [h3, g1]
    · have e10 : F 87 10 = 0 := by rw [← hF, sI_s]
      have e2 : F 2 1 = 0 := by rw [← hF, sI_o (by decide), g3.1 2 (by decide) (by decide) (by decide) (by decide), ← hB1, sI_s]
      refine ⟨⟨by rw [e2, e10], by omega, fun j j0 j1 => by omega⟩, iProg_c (fun q q1 q2 => fF q (by omega) (by omega) (by omega) (by omega) (by omega) (by omega) (by omega) (by omega)) (f' 88 (by omega)) (f' 90 (by omega)) (f' 91 (by omega)) (f' 92 (by omega)) (f7 3 (by omega)) hPr, iPlay_c (fun q q1 q2 => f' q (by omega)) (f' 88 (by omega)) (f7 3 (by omega)) (f' 93 (by omega)) (by rw [f' 99 (by omega)]; exact hz) (by omega) ⟨hR, hv, hz⟩, ⟨iImg_c (fun q q1 q2 => f' q (by omega)) (by rw [f' 23 (by omega)]) (f' 94 (by omega)) (by rw [f' 95 (by omega)]) (f' 88 (by omega)) (f7 3 (by omega)) (by omega) hIm.1, iImg_c (fun q q1 q2 => f' q (by omega)) (by rw [f' 23 (by omega)]) (f' 94 (by omega)) (by rw [f' 95 (by omega)]) (f' 88 (by omega)) (f7 3 (by omega)) (by omega) hIm.2⟩, ⟨iSh_c (f' 79 (by omega)) (f' 80 (by omega)) (f' 101 (by omega)) (f' 102 (by omega)) (f' 103 (by omega)) hSh.1, iSh_c (f' 81 (by omega)) (f' 82 (by omega)) (f' 101 (by omega)) (f' 102 (by omega)) (f' 103 (by omega)) hSh.2.1, iSh_c (f' 83 (by omega)) (f' 84 (by omega)) (f' 101 (by omega)) (f' 102 (by omega)) (f' 103 (by omega)) hSh.2.2.1, iSh_c (f' 85 (by omega)) (f' 86 (by omega)) (f' 101 (by omega)) (f' 102 (by omega)) (f' 103 (by omega)) hSh.2.2.2⟩, ⟨?_, ?_, by rw [f' 88 (by omega)]; exact hmis.2.2.1, by rw [← hF, sI_o (by decide)]; exact g4⟩, fun q hq => by rw [f' q (by omega)]; exact hro q hq⟩
      · rw [← hF, sI_o (by decide), g3.1 4 (by decide) (by decide) (by decide) (by decide), b1o 4 (by decide), b2, sI_k (by decide), g2]
      · rw [f' 1 (by omega), f7 28 (by omega)]; exact hmis.2.1
end A70
