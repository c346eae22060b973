/-! ===== the calls that only read ===== -/
def smW (f : Int → Int) : Nat → Int → Int → Int
  | 0, _, a => a
  | n + 1, k, a => smW f n (k + 1) (wr (a + f k))
def cnW (f : Int → Int) : Nat → Int → Int → Int
  | 0, _, a => a
  | n + 1, k, a => cnW f n (k + 1) (if f k = 0 then wr (a + 1) else a)
def bcF (x0 : Int) : Int := (w2 (· &&& ·) (wr ((wr ((w2 (· &&& ·) (wr ((wr ((w2 (· &&& ·) (wr (x0 - (w2 (· &&& ·) (w2 zusr x0 1) 1431655765))) 858993459) + (w2 (· &&& ·) (w2 zusr (wr (x0 - (w2 (· &&& ·) (w2 zusr x0 1) 1431655765))) 2) 858993459))) + (w2 zusr (wr ((w2 (· &&& ·) (wr (x0 - (w2 (· &&& ·) (w2 zusr x0 1) 1431655765))) 858993459) + (w2 (· &&& ·) (w2 zusr (wr (x0 - (w2 (· &&& ·) (w2 zusr x0 1) 1431655765))) 2) 858993459))) 4))) 252645135) + (w2 zusr (w2 (· &&& ·) (wr ((wr ((w2 (· &&& ·) (wr (x0 - (w2 (· &&& ·) (w2 zusr x0 1) 1431655765))) 858993459) + (w2 (· &&& ·) (w2 zusr (wr (x0 - (w2 (· &&& ·) (w2 zusr x0 1) 1431655765))) 2) 858993459))) + (w2 zusr (wr ((w2 (· &&& ·) (wr (x0 - (w2 (· &&& ·) (w2 zusr x0 1) 1431655765))) 858993459) + (w2 (· &&& ·) (w2 zusr (wr (x0 - (w2 (· &&& ·) (w2 zusr x0 1) 1431655765))) 2) 858993459))) 4))) 252645135) 8))) + (w2 zusr (wr ((w2 (· &&& ·) (wr ((wr ((w2 (· &&& ·) (wr (x0 - (w2 (· &&& ·) (w2 zusr x0 1) 1431655765))) 858993459) + (w2 (· &&& ·) (w2 zusr (wr (x0 - (w2 (· &&& ·) (w2 zusr x0 1) 1431655765))) 2) 858993459))) + (w2 zusr (wr ((w2 (· &&& ·) (wr (x0 - (w2 (· &&& ·) (w2 zusr x0 1) 1431655765))) 858993459) + (w2 (· &&& ·) (w2 zusr (wr (x0 - (w2 (· &&& ·) (w2 zusr x0 1) 1431655765))) 2) 858993459))) 4))) 252645135) + (w2 zusr (w2 (· &&& ·) (wr ((wr ((w2 (· &&& ·) (wr (x0 - (w2 (· &&& ·) (w2 zusr x0 1) 1431655765))) 858993459) + (w2 (· &&& ·) (w2 zusr (wr (x0 - (w2 (· &&& ·) (w2 zusr x0 1) 1431655765))) 2) 858993459))) + (w2 zusr (wr ((w2 (· &&& ·) (wr (x0 - (w2 (· &&& ·) (w2 zusr x0 1) 1431655765))) 858993459) + (w2 (· &&& ·) (w2 zusr (wr (x0 - (w2 (· &&& ·) (w2 zusr x0 1) 1431655765))) 2) 858993459))) 4))) 252645135) 8))) 16))) 63)
section A46
variable {I : Nat → Int → Int} {b : Bool} {S : Nat} {N : Int} {J0 : Nat → Int → Int} {T fs pl f : Int → Int} {pm : Int} {g : Nat}
theorem c_levAllL (hg : isProg g) (hp : pgm I g T fs pl pm) (ht : T 0 ≤ 8) : ∀ (n : Nat) (k a : Int), k + n = T 0 → 0 ≤ k → zX 49 4 [vR (g + 1), vI a, vI k] [] (I, zRs b, 103, S) = some (some (vI (smW (mn T) n k a)), (I, zRs b, 103, S)) := by
  intro n
  induction n with
  | zero => intro k a h0 h1; rw [e49_4 (isProg_pool hg), hp.2.2.1, if_pos (by omega)]; rfl
  | succ n ih =>
    intro k a h0 h1
    rw [e49_4 (isProg_pool hg), hp.2.2.1, if_neg (by omega), if_pos (by omega), wr_id (a := k + 1) (by omega) (by omega), ih (k + 1) _ (by omega) (by omega), show g + 1 + 3 = g + 4 by omega, (hp.2.2.2.2.1 k h1 (by omega)).2]
    rfl
theorem r_levAllL (ht : I 88 0 ≤ 8) : ∀ (n : Nat) (k a : Int), k + n = I 88 0 → 0 ≤ k → zX 152 4 [vR 87, vI a, vI k] [] (I, zRs b, 103, S) = some (some (vI (smW (mn (I 88)) n k a)), (I, zRs b, 103, S)) := by
  intro n
  induction n with
  | zero => intro k a h0 h1; rw [e152_4, if_pos (by omega)]; rfl
  | succ n ih =>
    intro k a h0 h1
    rw [e152_4, if_neg (by omega), r_mn (by omega), Option.bind_some]
    simp only [zpush_s]
    rw [e152_20, wr_id (a := k + 1) (by omega) (by omega), ih (k + 1) _ (by omega) (by omega)]
    rfl
theorem c_fndL (hg : isProg g) (hp : pgm I g T fs pl pm) (hc : ∀ s, 0 ≤ s → s < T 0 → I (g + 5) s = f s) (ht : T 0 ≤ 8) : ∀ (n : Nat) (k a : Int), k + n = T 0 → 0 ≤ k → zX 50 4 [vR (g + 1), vI a, vI k] [] (I, zRs b, 103, S) = some (some (vI (cnW f n k a)), (I, zRs b, 103, S)) := by
  intro n
  induction n with
  | zero => intro k a h0 h1; rw [e50_4 (isProg_pool hg), hp.2.2.1, if_pos (by omega)]; rfl
  | succ n ih =>
    intro k a h0 h1
    rw [e50_4 (isProg_pool hg), hp.2.2.1, if_neg (by omega), if_pos (by omega), wr_id (a := k + 1) (by omega) (by omega), show g + 1 + 4 = g + 5 by omega, hc k h1 (by omega)]
    show _ = some (some (vI (cnW f n (k + 1) (if f k = 0 then wr (a + 1) else a))), _)
    by_cases h : f k = 0
    · rw [if_pos h, if_pos h, ih (k + 1) _ (by omega) (by omega)]
    · rw [if_neg h, if_neg h, ih (k + 1) _ (by omega) (by omega)]
theorem r_fndL (ht : I 88 0 ≤ 8) : ∀ (n : Nat) (k a : Int), k + n = I 88 0 → 0 ≤ k → 0 ≤ a → a ≤ k → zX 153 4 [vR 87, vI a, vI k] [] (I, zRs b, 103, S) = some (some (vI (cnW (I 92) n k a)), (I, zRs b, 103, S)) := by
  intro n
  induction n with
  | zero => intro k a h0 h1 a0 a1; rw [e153_4, if_pos (by omega)]; rfl
  | succ n ih =>
    intro k a h0 h1 a0 a1
    rw [e153_4, if_neg (by omega), if_pos (by omega)]
    show _ = some (some (vI (cnW (I 92) n (k + 1) (if I 92 k = 0 then wr (a + 1) else a))), _)
    by_cases h : I 92 k = 0
    · rw [if_pos h, if_pos h, r_flag, Option.bind_some]
      simp only [zpush_s]
      rw [e153_32, if_neg (by decide), wr_id (a := k + 1) (by omega) (by omega), wr_id (a := a + 1) (by omega) (by omega), ih (k + 1) _ (by omega) (by omega) (by omega) (by omega)]
    · rw [if_neg h, if_neg h, r_flag, Option.bind_some]
      simp only [zpush_s, if_true]
      rw [e153_32, wr_id (a := k + 1) (by omega) (by omega), Int.add_zero, wr_id (a := a) (by omega) (by omega), ih (k + 1) _ (by omega) (by omega) (by omega) (by omega)]
theorem op_rule {x : Int} (hI : Inv I b N J0) : opOk 96 154 [vI x] I b S N J0 := by
  obtain ⟨_, ⟨ok, po, hp, hc, _⟩, ⟨hR, hv, _⟩, _⟩ := id hI
  have t0 := ok.1
  have gg := zg_ok b
  have p1 := po.1
  have p2 := po.2.1
  have se : ∀ j, 0 ≤ j → j < 5 → I 19 j = I 93 (13 + j) := hR.2.2.2.2.2.2.2.2
  by_cases h0 : x = 0
  · refine op_ro (I 88 0) hI ?_ ?_
    · rw [run96, e96_0, if_pos h0, hp.2.2.1]
    · rw [run154, e154_0, if_pos h0]
  by_cases h1 : x = 1
  · refine op_ro (I 87 3) hI ?_ ?_
    · rw [run96, e96_0, if_neg h0, if_pos h1, hp.2.2.2.1]
    · rw [run154, e154_0, if_neg h0, if_pos h1]
  by_cases h2 : x = 2
  · refine op_ro (smW (mn (I 88)) (I 88 0).toNat 0 0) hI ?_ ?_
    · rw [run96, e96_0, if_neg h0, if_neg h1, if_pos h2, run49, e49_0 (isProg_pool gg), c_levAllL gg hp (by omega) (I 88 0).toNat 0 0 (by omega) (by omega), Option.bind_some]
      simp only [zpush_s]
      rw [e96_72]
    · rw [run154, e154_0, if_neg h0, if_neg h1, if_pos h2, run152, e152_0, r_levAllL (by omega) (I 88 0).toNat 0 0 (by omega) (by omega), Option.bind_some]
      simp only [zpush_s]
      rw [e154_76]
  by_cases h3 : x = 3
  · refine op_ro (cnW (I 92) (I 88 0).toNat 0 0) hI ?_ ?_
    · rw [run96, e96_0, if_neg h0, if_neg h1, if_neg h2, if_pos h3, run50, e50_0 (isProg_pool gg), c_fndL gg hp hc (by omega) (I 88 0).toNat 0 0 (by omega) (by omega), Option.bind_some]
      simp only [zpush_s]
      rw [e96_83]
    · rw [run154, e154_0, if_neg h0, if_neg h1, if_neg h2, if_pos h3, run153, e153_0, r_fndL (by omega) (I 88 0).toNat 0 0 (by omega) (by omega) (by omega) (by omega), Option.bind_some]
      simp only [zpush_s]
      rw [e154_81]
  by_cases h4 : x = 4
  · refine op_ro (I 88 1) hI ?_ ?_
    · rw [run96, e96_0, if_neg h0, if_neg h1, if_neg h2, if_neg h3, if_pos h4, hp.1]
    · rw [run154, e154_0, if_neg h0, if_neg h1, if_neg h2, if_neg h3, if_pos h4]
  by_cases h5 : x = 5
  · refine op_ro ((I 87 3 + 7) / 8) hI ?_ ?_
    · rw [run96, e96_0, if_neg h0, if_neg h1, if_neg h2, if_neg h3, if_neg h4, if_pos h5, c_poolPages gg po hp, Option.bind_some]
      simp only [zpush_s]
      rw [e96_102]
    · rw [run154, e154_0, if_neg h0, if_neg h1, if_neg h2, if_neg h3, if_neg h4, if_pos h5, wr_id (a := I 87 3 + 8) (by omega) (by omega), wr_id (a := I 87 3 + 8 - 1) (by omega) (by omega), td_ed (by omega), wr_id (by omega) (by omega), show (I 87 3 + 8 - 1) / 8 = (I 87 3 + 7) / 8 by omega]
  by_cases h6 : 6 ≤ x ∧ x < 11
  · refine op_ro (I 93 (13 + (x - 6))) hI ?_ ?_
    · rw [run96, e96_0, if_neg h0, if_neg h1, if_neg h2, if_neg h3, if_neg h4, if_neg h5, run121, e121_0, if_neg (by omega), if_neg (by omega), Option.bind_some]
      simp only [zpush_s]
      rw [e96_107, if_neg (by decide), wr_id (by omega) (by omega), if_pos (by omega), se _ (by omega) (by omega)]
    · have hw : wr (wr (13 + x) - 6) = 13 + (x - 6) := by rw [wr_id (a := 13 + x) (by omega) (by omega), wr_id (by omega) (by omega)]; omega
      rw [run154, e154_0, if_neg h0, if_neg h1, if_neg h2, if_neg h3, if_neg h4, if_neg h5, hw, if_pos (show 0 ≤ 13 + (x - 6) ∧ 13 + (x - 6) < 392 by omega)]
      split
      · rfl
      · split
        · rfl
        · split
          · rfl
          · split
            · rfl
            · rw [if_pos (by omega)]
  · refine op_ro (-1) hI ?_ ?_
    · rw [run96, e96_0, if_neg h0, if_neg h1, if_neg h2, if_neg h3, if_neg h4, if_neg h5, run121, e121_0]
      by_cases h7 : x < 6
      · rw [if_pos h7, Option.bind_some]
        simp only [zpush_s]
        rw [e96_107, if_pos rfl]
      · rw [if_neg h7, if_pos (by omega), Option.bind_some]
        simp only [zpush_s]
        rw [e96_107, if_pos rfl]
    · rw [run154, e154_0, if_neg h0, if_neg h1, if_neg h2, if_neg h3, if_neg h4, if_neg h5, if_neg (by omega), if_neg (by omega), if_neg (by omega), if_neg (by omega), if_neg (by omega)]
theorem op_level {x : Int} (hI : Inv I b N J0) : opOk 97 155 [vI x] I b S N J0 := by
  obtain ⟨_, ⟨ok, po, hp, hc, _⟩, _⟩ := id hI
  have p1 := po.1
  have p2 := po.2.1
  by_cases h0 : 0 ≤ x
  · by_cases h1 : I 87 3 ≤ x
    · refine op_ro (-4) hI ?_ ?_
      · rw [run97, e97_0, if_pos h0, hp.2.2.2.1, if_pos h1]
      · rw [run155, e155_0, if_pos h0, if_pos h1]
    · refine op_ro (I 90 x) hI ?_ ?_
      · rw [run97, e97_0, if_pos h0, hp.2.2.2.1, if_neg h1, if_pos (by omega), hp.2.2.2.2.2 x h0 (by omega)]
      · rw [run155, e155_0, if_pos h0, if_neg h1, if_pos (by omega)]
  · refine op_ro (-1) hI ?_ ?_
    · rw [run97, e97_0, if_neg h0]
    · rw [run155, e155_0, if_neg h0]
theorem op_segment {x y : Int} (hI : Inv I b N J0) : opOk 98 156 [vI x, vI y] I b S N J0 := by
  obtain ⟨_, ⟨ok, po, hp, hc, _⟩, _⟩ := id hI
  have t0 := ok.1
  have r0 : zrun 156 [vR 87, vI x, vI y] (I, zRs b, 103, S) = zX 156 15 [vR 87, vI x, vI y] [vI (if 0 ≤ x ∧ x ≤ I 88 0 - 1 then 1 else 0)] (I, zRs b, 103, S) := by
    rw [run156, e156_0, r_in, Option.bind_some, wr_id (by omega) (by omega)]
    simp only [zpush_s]
  by_cases h0 : 0 ≤ x ∧ x < I 88 0
  · have q := hp.2.2.2.2.1 x h0.1 h0.2
    rw [if_pos (by omega)] at r0
    by_cases h1 : y = 0
    · refine op_ro (I 91 x) hI ?_ ?_
      · rw [run98, e98_0, if_neg (by omega), hp.2.2.1, if_pos h0.2, if_pos h1, if_pos (by omega), q.1]
      · rw [r0, e156_15, if_neg (by decide), if_pos h1, if_pos (by omega)]
    by_cases h2 : y = 1
    · refine op_ro (mn (I 88) x) hI ?_ ?_
      · rw [run98, e98_0, if_neg (by omega), hp.2.2.1, if_pos h0.2, if_neg h1, if_pos h2, if_pos (by omega), q.2]
      · rw [r0, e156_15, if_neg (by decide), if_neg h1, if_pos h2, r_mn (by omega), Option.bind_some]
        simp only [zpush_s]
        rw [e156_60]
    by_cases h3 : y = 2
    · refine op_ro (I 92 x) hI ?_ ?_
      · rw [run98, e98_0, if_neg (by omega), hp.2.2.1, if_pos h0.2, if_neg h1, if_neg h2, if_pos h3, if_pos (by omega), hc x h0.1 h0.2]
      · rw [r0, e156_15, if_neg (by decide), if_neg h1, if_neg h2, if_pos h3, if_pos (by omega)]
    · refine op_ro (-1) hI ?_ ?_
      · rw [run98, e98_0, if_neg (by omega), hp.2.2.1, if_pos h0.2, if_neg h1, if_neg h2, if_neg h3]
      · rw [r0, e156_15, if_neg (by decide), if_neg h1, if_neg h2, if_neg h3]
  · rw [if_neg (by omega)] at r0
    refine op_ro (-1) hI ?_ ?_
    · rw [run98, e98_0, hp.2.2.1]
      by_cases h1 : x < 0
      · rw [if_pos h1]
      · rw [if_neg h1, if_neg (by omega)]
    · rw [r0, e156_15, if_pos rfl]
theorem op_item {x y : Int} (hI : Inv I b N J0) : opOk 99 159 [vI x, vI y] I b S N J0 := by
  obtain ⟨_, ⟨ok, po, hp, hc, _⟩, _⟩ := id hI
  have t1 := ok.2.1
  have r0 : zrun 159 [vR 87, vI x, vI y] (I, zRs b, 103, S) = zX 159 5 [vR 87, vI x, vI y] [vI (if 0 ≤ x ∧ x < I 88 1 then 1 else 0)] (I, zRs b, 103, S) := by
    rw [run159, e159_0, r_isItem t1, Option.bind_some]
    simp only [zpush_s]
  by_cases h0 : 0 ≤ x ∧ x < I 88 1
  · have q := hp.2.1 x h0.1 h0.2
    have q1 := q.1
    have q2 := q.2.1
    have q3 := q.2.2.1
    have q4 := q.2.2.2
    unfold kd at q1
    unfold nb at q2
    unfold pt at q3
    unfold dp at q4
    rw [if_pos h0, e159_5, if_neg (by decide), r_in, Option.bind_some] at r0
    simp only [zpush_s] at r0
    rw [e159_17, z01] at r0
    by_cases h1 : 0 ≤ y ∧ y ≤ 3
    · refine op_ro (I 88 (138 + 4 * x + y)) hI ?_ ?_
      · rw [run99, e99_0, if_neg (by omega), hp.1, if_pos h0.2, if_pos (show 0 ≤ x ∧ x < 24 by omega), if_pos (show 0 ≤ x ∧ x < 24 by omega), if_pos (show 0 ≤ x ∧ x < 24 by omega), if_pos (show 0 ≤ x ∧ x < 24 by omega), q1, q2, q3, q4]
        have hy : y = 0 ∨ y = 1 ∨ y = 2 ∨ y = 3 := by omega
        rcases hy with rfl | rfl | rfl | rfl
        · rw [if_pos rfl, Int.add_zero]
        · rw [if_neg (by decide), if_pos rfl, show 139 + 4 * x = 138 + 4 * x + 1 by omega]
        · rw [if_neg (by decide), if_neg (by decide), if_pos rfl, show 140 + 4 * x = 138 + 4 * x + 2 by omega]
        · rw [if_neg (by decide), if_neg (by decide), if_neg (by decide), if_pos rfl, show 141 + 4 * x = 138 + 4 * x + 3 by omega]
      · rw [r0, if_pos h1, r_ofItem (by omega) (by omega), Option.bind_some]
        simp only [zpush_s]
        rw [e159_26]
    · refine op_ro (-1) hI ?_ ?_
      · rw [run99, e99_0, if_neg (by omega), hp.1, if_pos h0.2, if_neg (show ¬ y = 0 by omega), if_neg (show ¬ y = 1 by omega), if_neg (show ¬ y = 2 by omega), if_neg (show ¬ y = 3 by omega)]
      · rw [r0, if_neg h1]
  · rw [if_neg h0] at r0
    refine op_ro (-1) hI ?_ ?_
    · rw [run99, e99_0, hp.1]
      by_cases h1 : x < 0
      · rw [if_pos h1]
      · rw [if_neg h1, if_neg (by omega)]
    · rw [r0, e159_5, if_pos rfl]
theorem op_turns {x : Int} (hI : Inv I b N J0) : opOk 103 186 [vI x] I b S N J0 := by
  obtain ⟨_, ⟨ok, po, hp, hc, _⟩, ⟨hR, hv, _⟩, _⟩ := id hI
  have t1 := ok.2.1
  have hu := hR.1.2.2.2
  have r0 : zrun 186 [vR 87, vI x] (I, zRs b, 103, S) = zX 186 5 [vR 87, vI x] [vI (if 0 ≤ x ∧ x < I 88 1 then 1 else 0)] (I, zRs b, 103, S) := by
    rw [run186, e186_0, r_isItem t1, Option.bind_some]
    simp only [zpush_s]
  by_cases h0 : 0 ≤ x ∧ x < I 88 1
  · have q := (hp.2.1 x h0.1 h0.2).1
    rw [if_pos h0, e186_5, if_neg (by decide), r_kd (by omega), Option.bind_some] at r0
    simp only [zpush_s] at r0
    rw [e186_14, wr_id (by omega) (by omega), if_pos (show 0 ≤ 18 + x ∧ 18 + x < 392 by omega)] at r0
    by_cases h1 : kd (I 88) x = 2
    · refine op_ro (I 93 (18 + x)) hI ?_ ?_
      · rw [run103, e103_0, if_neg (by omega), hp.1, if_neg (by omega), if_pos (show 0 ≤ x ∧ x < 24 by omega), q, if_pos h1, if_pos (show 0 ≤ x ∧ x < 24 by omega), hu x h0.1 (by omega)]
      · rw [r0, if_pos h1]
    · refine op_ro (-1) hI ?_ ?_
      · rw [run103, e103_0, if_neg (by omega), hp.1, if_neg (by omega), if_pos (show 0 ≤ x ∧ x < 24 by omega), q, if_neg h1]
      · rw [r0, if_neg h1]
  · rw [if_neg h0] at r0
    refine op_ro (-1) hI ?_ ?_
    · rw [run103, e103_0, hp.1]
      by_cases h1 : x < 0
      · rw [if_pos h1]
      · rw [if_neg h1, if_pos (by omega)]
    · rw [r0, e186_5, if_pos rfl]
theorem op_out {x : Int} (hI : Inv I b N J0) : opOk 105 188 [vI x] I b S N J0 := by
  obtain ⟨_, _, ⟨hR, hv, _⟩, _⟩ := id hI
  have o := hR.2.2.2
  have h4 := hv.1.2.2.2.2.2.2.2.2.2.1
  by_cases h0 : 0 ≤ x
  · have c0 : zrun 105 [vR 1, vI x] (I, zRs b, 103, S) = zX 105 20 [vR 1, vI x] [vI (if 200 < I 93 4 then 200 else I 93 4), vI x] (I, zRs b, 103, S) := by
      rw [run105, e105_0, if_pos h0, j_min, Option.bind_some, o.1]
      simp only [zpush_s]
    have r0 := (run188 (x0 := x) (h := (I, zRs b, 103, S))).trans (e188_0 (I := I) (b := b) (S := S) (x0 := x))
    rw [if_pos h0] at r0
    rw [e105_20] at c0
    by_cases h1 : I 93 4 ≤ x ∨ 200 ≤ x
    · refine op_ro (-4) hI ?_ ?_
      · rw [c0, if_pos (by split <;> omega)]
      · rw [r0]
        by_cases h2 : I 93 4 ≤ x
        · rw [if_pos h2]
        · rw [if_neg h2, if_pos (by omega)]
    · refine op_ro (I 93 (112 + x)) hI ?_ ?_
      · rw [c0, if_neg (by split <;> omega), if_pos (by omega), o.2.2.2.2.1 x h0 (by omega) (by omega)]
      · rw [r0, if_neg (by omega), if_neg (by omega), wr_id (by omega) (by omega), if_pos (by omega)]
  · refine op_ro (-1) hI ?_ ?_
    · rw [run105, e105_0, if_neg h0]
    · rw [run188, e188_0, if_neg h0]
theorem op_marked {x y : Int} (hI : Inv I b N J0) (hN : N < 2147000000) : opOk 106 189 [vI x, vI y] I b S N J0 := by
  obtain ⟨_, _, ⟨hR, hv, _⟩, _⟩ := id hI
  have o := hR.2.2.1
  have h6 := hv.1.2.2.2.2.2.2.2.2.2.2
  have ch : zrun 24 [vR 15] (I, zRs b, 103, S) = some (some (vI (hd40 (I 93 6))), (I, zRs b, 103, S)) := by
    rw [run24, e24_0, j_min, Option.bind_some]
    simp only [zpush_s]
    rw [e24_9, show I 15 2 = I 93 6 from o.1]
    unfold hd40
    by_cases z : I 93 6 < 40
    · rw [if_pos z, if_neg (by omega)]
    · rw [if_neg z]
      by_cases z2 : 40 < I 93 6
      · rw [if_pos z2]
      · rw [if_neg z2, show I 93 6 = 40 by omega]
  by_cases h0 : x < 0
  · refine op_ro (-1) hI ?_ ?_
    · rw [run106, e106_0, if_pos h0]
    · rw [run189, e189_0, if_pos h0]
  have r0 : zrun 189 [vR 87, vI x, vI y] (I, zRs b, 103, S) = zX 189 11 [vR 87, vI x, vI y] [vI (if 0 ≤ y ∧ y ≤ 1 then 1 else 0)] (I, zRs b, 103, S) := by
    rw [run189, e189_0, if_neg h0, r_in, Option.bind_some]
    simp only [zpush_s]
  rw [e189_11, z01] at r0
  by_cases h1 : 0 ≤ y ∧ y ≤ 1
  · rw [if_pos h1] at r0
    have c0 : zrun 106 [vR 1, vI x, vI y] (I, zRs b, 103, S) = zX 106 26 [vR 1, vI x, vI y, none] [vI (hd40 (I 93 6)), vI x] (I, zRs b, 103, S) := by
      rw [run106, e106_0, if_neg h0, if_neg (by omega), if_pos (by omega), ch, Option.bind_some]
      simp only [zpush_s]
    rw [e106_26] at c0
    by_cases h2 : x < hd40 (I 93 6)
    · have h3 : x < I 93 6 ∧ x < 40 ∧ hd40 (I 93 6) ≤ I 93 6 ∧ 0 ≤ hd40 (I 93 6) := by unfold hd40 at h2 ⊢; split at h2 <;> rename_i z <;> simp only [z, if_true, if_false] <;> omega
      have m := o.2 x (by omega) h2
      have cs : zrun 25 [vR 15, vI x] (I, zRs b, 103, S) = some (some (vI ((I 93 6 - hd40 (I 93 6) + x) % 40)), (I, zRs b, 103, S)) := by
        rw [run25, e25_0, ch, Option.bind_some]
        simp only [zpush_s]
        rw [e25_8, show I 15 2 = I 93 6 from o.1, wr_id (a := I 93 6 - hd40 (I 93 6)) (by omega) (by omega), wr_id (a := I 93 6 - hd40 (I 93 6) + x) (by omega) (by omega), j_fm (by omega), Option.bind_some]
        simp only [zpush_s]
        rw [e25_16]
      rw [if_pos h2, cs, Option.bind_some] at c0
      simp only [zpush_s] at c0
      rw [e106_43, if_pos (show 0 ≤ (I 93 6 - hd40 (I 93 6) + x) % 40 ∧ (I 93 6 - hd40 (I 93 6) + x) % 40 < 40 by omega), if_pos (show 0 ≤ (I 93 6 - hd40 (I 93 6) + x) % 40 ∧ (I 93 6 - hd40 (I 93 6) + x) % 40 < 40 by omega)] at c0
      refine op_ro (I 93 (312 + 2 * x + y)) hI ?_ ?_
      · rw [c0]
        by_cases h4 : y = 0
        · rw [if_pos h4, show I 16 ((I 93 6 - hd40 (I 93 6) + x) % 40) = _ from m.1, h4, Int.add_zero]
        · rw [if_neg h4, show I 17 ((I 93 6 - hd40 (I 93 6) + x) % 40) = _ from m.2, show y = 1 by omega, show 312 + 2 * x + 1 = 313 + 2 * x by omega]
      · rw [r0, if_neg (by omega), if_neg (by omega), wr_id (a := 2 * x) (by omega) (by omega), wr_id (a := 312 + 2 * x) (by omega) (by omega), wr_id (by omega) (by omega), if_pos (by omega)]
    · refine op_ro (-4) hI ?_ ?_
      · rw [c0, if_neg h2]
      · rw [r0]
        by_cases h3 : I 93 6 ≤ x
        · rw [if_pos h3]
        · rw [if_neg h3, if_pos (by unfold hd40 at h2; split at h2 <;> omega)]
  · refine op_ro (-1) hI ?_ ?_
    · rw [run106, e106_0, if_neg h0]
      by_cases h2 : y < 0
      · rw [if_pos h2]
      · rw [if_neg h2, if_neg (by omega)]
    · rw [r0, if_neg h1]
theorem op_page {x y : Int} (hI : Inv I b N J0) : opOk 107 190 [vI x, vI y] I b S N J0 := by
  obtain ⟨_, _, ⟨hR, hv, _⟩, _⟩ := id hI
  have o := hR.2.1
  have h15 := hv.1.2.2.2.2.1
  have h7 := hv.1.2.2.2.2.2.2.2.1
  have h8 := hv.1.2.2.2.2.2.2.2.2.1
  by_cases h0 : x < 0
  · refine op_ro (-1) hI ?_ ?_
    · rw [run107, e107_0, if_pos h0]
    · rw [run190, e190_0, if_pos h0]
  have r0 : zrun 190 [vR 87, vI x, vI y] (I, zRs b, 103, S) = zX 190 13 [vR 87, vI x, vI y] [vI (if 0 ≤ y ∧ y ≤ 2 then 1 else 0)] (I, zRs b, 103, S) := by
    rw [run190, e190_0, if_neg h0, r_in, Option.bind_some]
    simp only [zpush_s]
  rw [e190_13, z01] at r0
  by_cases h1 : 0 ≤ y ∧ y ≤ 2
  · rw [if_pos h1] at r0
    have c0 := (run107 (x0 := x) (x1 := y) (h := (I, zRs b, 103, S))).trans (e107_0 (I := I) (b := b) (S := S) (x0 := x) (x1 := y))
    rw [if_neg h0, if_neg (show ¬ y < 0 by omega), if_pos h1.2] at c0
    rw [show I 11 1 = I 93 7 from o.1, show I 11 4 = I 93 8 from o.2.1] at c0
    by_cases h2 : y = 0
    · rw [if_pos h2] at r0 c0
      by_cases h3 : x < I 93 7
      · refine op_ro (I 93 (42 + x)) hI ?_ ?_
        · rw [c0, if_pos h3, if_pos h2, if_pos (by omega), show I 12 x = _ from o.2.2.1 x (by omega) h3]
        · rw [r0, if_pos h3, if_pos h2, wr_id (by omega) (by omega), if_pos (by omega)]
      · refine op_ro (-4) hI ?_ ?_
        · rw [c0, if_neg h3]
        · rw [r0, if_neg h3]
    · rw [if_neg h2] at r0 c0
      by_cases h3 : x < I 93 8
      · rw [if_pos h3, if_neg h2] at r0 c0
        have m := o.2.2.2 x (by omega) h3
        by_cases h4 : y = 1
        · refine op_ro (I 93 (48 + x)) hI ?_ ?_
          · rw [c0, if_pos h4, if_pos (by omega), show I 13 x = _ from m.1]
          · rw [r0, if_pos h4, wr_id (by omega) (by omega), if_pos (by omega)]
        · refine op_ro (I 93 (80 + x)) hI ?_ ?_
          · rw [c0, if_neg h4, if_pos (by omega), show I 14 x = _ from m.2]
          · rw [r0, if_neg h4, wr_id (a := 80 + x) (by omega) (by omega), if_pos (by omega)]
      · refine op_ro (-4) hI ?_ ?_
        · rw [c0, if_neg h3]
        · rw [r0, if_neg h3]
  · refine op_ro (-1) hI ?_ ?_
    · rw [run107, e107_0, if_neg h0]
      by_cases h2 : y < 0
      · rw [if_pos h2]
      · rw [if_neg h2, if_neg (by omega)]
    · rw [r0, if_neg h1]
theorem bits16 : ∀ n : Nat, n < 16 → zrun 207 [vI (n : Int)] (I, zRs b, 103, S) = some (some (vI ((n % 2 + n / 2 % 2 + n / 4 % 2 + n / 8 % 2 : Nat) : Int)), (I, zRs b, 103, S)) := by
  intro n hn
  have h : ∀ n : Nat, n < 16 → bcF (n : Int) = ((n % 2 + n / 2 % 2 + n / 4 % 2 + n / 8 % 2 : Nat) : Int) := by decide +kernel
  rw [run207, e207_0, ← h n hn]
  rfl
theorem op_player {x : Int} (hI : Inv I b N J0) : opOk 102 185 [vI x] I b S N J0 := by
  obtain ⟨_, _, ⟨hR, hv, _⟩, _⟩ := id hI
  have hu := hR.1
  have hg := hR.2.1
  have hm := hR.2.2.1
  have hl := hR.2.2.2
  have hla := hv.2.1
  have r0 : zrun 185 [vR 87, vI x] (I, zRs b, 103, S) = zX 185 9 [vR 87, vI x] [vI (if 0 ≤ x ∧ x ≤ 9 then 1 else 0)] (I, zRs b, 103, S) := by
    rw [run185, e185_0, r_in, Option.bind_some]
    simp only [zpush_s]
  rw [e185_9, z01] at r0
  have c0 : zrun 102 [vR 1, vI x] (I, zRs b, 103, S) = (zrun 38 [vR 8, vI x] (I, zRs b, 103, S)).bind (fun q => zX 102 8 [vR 1, vI x] (zpush q.1 []) q.2) := by rw [run102, e102_0]
  by_cases h : 0 ≤ x ∧ x ≤ 9
  · rw [if_pos h] at r0
    by_cases h9 : x = 9
    · refine op_ro (I 93 9 + I 93 10 + I 93 11 + I 93 12) hI ?_ ?_
      · have la := hla
        unfold laOk at la
        have e : ∃ n : Nat, n < 16 ∧ I 9 3 = (n : Int) ∧ ((n % 2 + n / 2 % 2 + n / 4 % 2 + n / 8 % 2 : Nat) : Int) = I 93 9 + I 93 10 + I 93 11 + I 93 12 := by
          refine ⟨(lav (I 93)).toNat, ?_, ?_, ?_⟩
          · unfold lav; omega
          · rw [show I 9 3 = lav (I 93) from hu.2.2.1]; unfold lav; omega
          · unfold lav; omega
        obtain ⟨n, n1, n2, n3⟩ := e
        rw [c0, run38, e38_0, if_neg (by omega), if_neg (by omega), if_neg (by omega), if_neg (by omega), if_neg (by omega), if_neg (by omega), if_neg (by omega), if_neg (by omega), if_neg (by omega), if_pos h9, n2, bits16 n n1, Option.bind_some]
        simp only [zpush_s]
        rw [e38_126, Option.bind_some]
        simp only [zpush_s]
        rw [e102_8, n3]
      · have la := hla
        unfold laOk at la
        rw [r0, if_pos h9, run184, e184_0, Option.bind_some]
        simp only [zpush_s]
        rw [e185_24, wr_id (a := I 93 9 + I 93 10) (by omega) (by omega), wr_id (a := I 93 9 + I 93 10 + I 93 11) (by omega) (by omega), wr_id (by omega) (by omega)]
    · refine op_ro (I 93 x) hI ?_ ?_
      · have e : zrun 38 [vR 8, vI x] (I, zRs b, 103, S) = some (some (vI (I 93 x)), (I, zRs b, 103, S)) := by
          have hx : x = 0 ∨ x = 1 ∨ x = 2 ∨ x = 3 ∨ x = 4 ∨ x = 5 ∨ x = 6 ∨ x = 7 ∨ x = 8 := by omega
          rw [run38, e38_0, show I 9 0 = I 93 0 from hu.1, show I 9 1 = I 93 1 from hu.2.1, show I 8 7 = I 93 2 from hl.2.2.1, show I 8 8 = I 93 3 from hl.2.2.2.1, show I 8 5 = I 93 4 from hl.1, show I 8 6 = I 93 5 from hl.2.1, show I 15 2 = I 93 6 from hm.1, show I 11 1 = I 93 7 from hg.1, show I 11 4 = I 93 8 from hg.2.1]
          rcases hx with rfl | rfl | rfl | rfl | rfl | rfl | rfl | rfl | rfl <;> rfl
        rw [c0, e, Option.bind_some]
        simp only [zpush_s]
        rw [e102_8]
      · rw [r0, if_neg h9, if_pos (by omega)]
  · refine op_ro (-1) hI ?_ ?_
    · rw [c0, run38, e38_0, if_neg (by omega), if_neg (by omega), if_neg (by omega), if_neg (by omega), if_neg (by omega), if_neg (by omega), if_neg (by omega), if_neg (by omega), if_neg (by omega), if_neg (by omega), Option.bind_some]
      simp only [zpush_s]
      rw [e102_8]
    · rw [r0, if_neg h]
theorem op_count {x : Int} (hI : Inv I b N J0) : opOk 118 206 [vI x] I b S N J0 := by
  obtain ⟨ht, _, _, hi, hs, _⟩ := id hI
  by_cases h0 : x = 0
  · have i0 := hi.1.1
    have i1 := hi.2.1
    have j0 := hi.1.2.1
    have j1 := hi.2.2.1
    refine op_ro (I 95 0 + I 95 1) hI ?_ ?_
    · rw [run118, e118_0, if_pos h0, i0, i1]
      rcases j0 with j0 | j0 <;> rcases j1 with j1 | j1 <;> rw [j0, j1] <;> rfl
    · rw [run206, e206_0, if_pos h0, r_flag, Option.bind_some]
      simp only [zpush_s]
      rw [e206_37, r_flag, Option.bind_some]
      simp only [zpush_s]
      rw [e206_46]
      rcases j0 with j0 | j0 <;> rcases j1 with j1 | j1 <;> rw [j0, j1] <;> rfl
  by_cases h1 : x = 1
  · refine op_ro (I 87 10) hI ?_ ?_
    · rw [run118, e118_0, if_neg h0, if_pos h1, ht.1]
    · rw [run206, e206_0, if_neg h0, if_pos h1]
  by_cases h2 : x = 2
  · refine op_ro (I 79 2) hI ?_ ?_
    · rw [run118, e118_0, if_neg h0, if_neg h1, if_pos h2]
    · rw [run206, e206_0, if_neg h0, if_neg h1, if_pos h2]
      rcases hs.1 with z | z
      · rw [if_pos z.1, z.2]
      · rw [if_neg (by omega), z.2.2.1]
  · refine op_ro (-1) hI ?_ ?_
    · rw [run118, e118_0, if_neg h0, if_neg h1, if_neg h2]
    · rw [run206, e206_0, if_neg h0, if_neg h1, if_neg h2]
end A46
