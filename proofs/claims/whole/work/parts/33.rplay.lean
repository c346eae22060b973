/-! ===== the reference's player ===== -/
section A33
variable {I : Nat → Int → Int} {b : Bool} {S : Nat}
theorem r_kd {i : Int} (h : 0 ≤ i ∧ i < 24) : zrun 158 [vR 87, vI i, vI 0] (I, zRs b, 103, S) = some (some (vI (kd (I 88) i)), (I, zRs b, 103, S)) := by
  rw [r_ofItem h (by decide)]; unfold kd; rw [show 138 + 4 * i + 0 = 138 + 4 * i by omega]
theorem r_nb {i : Int} (h : 0 ≤ i ∧ i < 24) : zrun 158 [vR 87, vI i, vI 1] (I, zRs b, 103, S) = some (some (vI (nb (I 88) i)), (I, zRs b, 103, S)) := by
  rw [r_ofItem h (by decide)]; unfold nb; rw [show 138 + 4 * i + 1 = 139 + 4 * i by omega]
theorem r_pt {i : Int} (h : 0 ≤ i ∧ i < 24) : zrun 158 [vR 87, vI i, vI 2] (I, zRs b, 103, S) = some (some (vI (pt (I 88) i)), (I, zRs b, 103, S)) := by
  rw [r_ofItem h (by decide)]; unfold pt; rw [show 138 + 4 * i + 2 = 140 + 4 * i by omega]
theorem r_mn {s : Int} (h : 0 ≤ s ∧ s < 8) : zrun 148 [vR 87, vI s] (I, zRs b, 103, S) = some (some (vI (mn (I 88) s)), (I, zRs b, 103, S)) := r_many h
theorem r_lv {s i : Int} (h : 0 ≤ s ∧ s < 8) (hi : 0 ≤ i ∧ i < 16) : zrun 149 [vR 87, vI s, vI i] (I, zRs b, 103, S) = some (some (vI (lv (I 88) s i)), (I, zRs b, 103, S)) := r_levelOf h hi
theorem r_goL {x : Int} {f : Int → Int} : ∀ (n : Nat) (a : Int), a = 392 - n → 0 ≤ a → zX 160 7 [vR 87, vI x, vI a] [] (sP I 99 (mix a (I 93) f), zRs b, 103, S) = some (none, (sP I 99 (mix 392 (I 93) f), zRs b, 103, S)) := by
  intro n
  induction n with
  | zero =>
    intro a h h0
    rw [e160_7, if_pos (by omega), show a = 392 by omega]
  | succ n ih =>
    intro a h h0
    rw [e160_7, if_neg (by omega), if_pos (by omega), if_pos (by omega), wr_id (by omega) (by omega), sIP, sP_n (by decide), mix_up h0]
    exact ih _ (by omega) (by omega)
theorem r_goesOn {x : Int} (hx : x = 0 ∨ x = 1) : zrun 160 [vR 87, vI x] (I, zRs b, 103, S) = some (none, (sP (sI I 87 21 x) 99 (mix 392 (I 93) (I 99)), zRs b, 103, S)) := by
  rw [run160, e160_0, if_pos hx]
  have h := r_goL (I := sI I 87 21 x) (b := b) (S := S) (x := x) (f := I 99) 392 0 (by omega) (by omega)
  rw [mix_0] at h
  have e1 : sI I 87 21 x 93 = I 93 := by funext j; exact sI_p (by decide)
  have e2 : sI I 87 21 x 99 = I 99 := by funext j; exact sI_p (by decide)
  rw [e1] at h
  rw [← h]
  have e3 : sP (sI I 87 21 x) 99 (I 99) = sI I 87 21 x := by rw [← e2]; exact sP_I
  rw [e3]
theorem r_stL {f : Int → Int} : ∀ (n : Nat) (a : Int), a = 392 - n → 0 ≤ a → zX 161 2 [vR 87, vI a] [] (sP I 93 (mix a (I 99) f), zRs b, 103, S) = some (none, (sP I 93 (mix 392 (I 99) f), zRs b, 103, S)) := by
  intro n
  induction n with
  | zero =>
    intro a h h0
    rw [e161_2, if_pos (by omega), show a = 392 by omega]
  | succ n ih =>
    intro a h h0
    rw [e161_2, if_neg (by omega), if_pos (by omega), if_pos (by omega), wr_id (by omega) (by omega), sIP, sP_n (by decide), mix_up h0]
    exact ih _ (by omega) (by omega)
theorem r_stays : zrun 161 [vR 87] (I, zRs b, 103, S) = some (none, (sP I 93 (mix 392 (I 99) (I 93)), zRs b, 103, S)) := by
  rw [run161, e161_0]
  have h := r_stL (I := I) (b := b) (S := S) (f := I 93) 392 0 (by omega) (by omega)
  rw [mix_0, sP_I] at h
  exact h
theorem sh_up {f : Int → Int} {a : Int} (h : 312 ≤ a) : up (fun c => if 312 ≤ c ∧ c < a then f (c + 2) else f c) a (f (a + 2)) = fun c => if 312 ≤ c ∧ c < a + 1 then f (c + 2) else f c := by
  funext c; unfold up
  by_cases h1 : c = a
  · rw [if_pos h1, if_pos (by omega), h1]
  · rw [if_neg h1]
    dsimp only
    by_cases h2 : 312 ≤ c ∧ c < a
    · rw [if_pos h2, if_pos (by omega)]
    · rw [if_neg h2, if_neg (by omega)]
theorem r_mkL {x : Int} {f : Int → Int} (h6 : 40 ≤ f 6) (h7 : f 6 < 2147483647) : ∀ (n : Nat) (a : Int), a = 390 - n → 312 ≤ a → zX 162 24 [vR 87, vI x, vI a] [] (sP I 99 (fun c => if 312 ≤ c ∧ c < a then f (c + 2) else f c), zRs b, 103, S) = some (none, (sP I 99 (up (up (up (shF f) 390 x) 391 (f 2)) 6 (f 6 + 1)), zRs b, 103, S)) := by
  intro n
  induction n with
  | zero =>
    intro a h h0
    have ha : a = 390 := by omega
    subst ha
    rw [e162_24]
    simp (disch := omega) only [sP_s, if_pos, if_neg, wr_id, sIP, Int.reduceMul, Int.reduceAdd, up_n, up_s, Int.le_refl]
    rfl
  | succ n ih =>
    intro a h h0
    rw [e162_24, if_neg (by omega), sP_s, wr_id (a := a + 2) (by omega) (by omega), wr_id (a := a + 1) (by omega) (by omega), if_pos (by omega), if_pos (by omega), sIP]
    rw [if_neg (show ¬ (312 ≤ a + 2 ∧ a + 2 < a) by omega), sh_up h0]
    exact ih _ (by omega) (by omega)
theorem r_marks {x : Int} {f : Int → Int} (h6 : 0 ≤ f 6) (h7 : f 6 < 2147483647) : zrun 162 [vR 87, vI x] (sP I 99 f, zRs b, 103, S) = some (none, (sP I 99 (mkF (I 87 21) x f), zRs b, 103, S)) := by
  rw [run162, e162_0]
  unfold mkF
  rw [sP_n (show 87 ≠ 99 by decide), sP_s]
  by_cases hl : I 87 21 = 0
  · rw [if_pos hl, if_pos hl]
  · rw [if_neg hl, if_neg hl]
    by_cases h40 : f 6 < 40
    · rw [if_pos h40, if_pos h40]
      simp (disch := omega) only [sP_s, if_pos, if_neg, wr_id, sIP, up_n, up_s]
      rw [show 312 + 2 * f 6 + 1 = 313 + 2 * f 6 by omega]
    · rw [if_neg h40, if_neg h40]
      have h := r_mkL (I := I) (b := b) (S := S) (x := x) (f := f) (by omega) h7 78 312 (by omega) (by omega)
      rw [show (fun c => if 312 ≤ c ∧ c < 312 then f (c + 2) else f c) = f by funext c; rw [if_neg (by omega)]] at h
      exact h
theorem r_bE {f : Int → Int} {i : Int} (ok : tOk (I 88)) (h0 : 0 ≤ i) (h1 : i < I 88 1) (h4 : kd (I 88) i = 4) : zrun 163 [vR 87, vI i] (sP I 99 f, zRs b, 103, S) = some (some (vI (bE (I 88) f i).1), (sP I 99 (bE (I 88) f i).2, zRs b, 103, S)) := by
  have h24 := ok.2.1
  have z := (ok.2.2.2.2 i h0 h1).2.2.2.2.2.2 h4
  have z3 := (ok.2.2.2.2 (pt (I 88) i) (by omega) (by omega))
  rw [run163, e163_0, r_pt (by omega), Option.bind_some]
  simp only [zpush_s, sP_n (show 88 ≠ 99 by decide)]
  rw [e163_6, r_kd (by omega), Option.bind_some]
  simp only [zpush_s, sP_n (show 88 ≠ 99 by decide)]
  rw [e163_13]
  unfold bE
  by_cases h2 : kd (I 88) (pt (I 88) i) = 2
  · rw [if_pos h2, if_pos h2]
    simp (disch := omega) only [wr_id, if_pos, sP_s, sIP, up_s]
    rw [r_nb (by omega), Option.bind_some]
    simp only [zpush_s, sP_n (show 88 ≠ 99 by decide)]
    rw [e163_45]
    split
    · simp (disch := omega) only [wr_id]
    · simp (disch := omega) only [wr_id]
  · rw [if_neg h2, if_neg h2, r_nb (by omega), Option.bind_some]
    have z4 := z3.2.2.2.2.1 (by omega)
    simp only [zpush_s, sP_n (show 88 ≠ 99 by decide)]
    rw [e163_66]
    simp (disch := omega) only [wr_id, if_pos, sP_s, sIP, up_s]
    split <;> rfl
theorem r_setL (ok : tOk (I 88)) {a1 : Int} : ∀ (n : Nat) (i : Int) (f : Int → Int) (w : zV) r, stN (I 88) (I 87 21) n i f = some r → 0 ≤ i → 0 ≤ f 6 → f 6 + n < 2147483647 → zX 164 2 [vR 87, vI a1, vI i, w] [] (sP I 99 f, zRs b, 103, S) = some (none, (sP I 99 (fi (I 88) r), zRs b, 103, S)) := by
  have h24 := ok.2.1
  have stop : ∀ (i : Int) (f : Int → Int) (w : zV), 0 ≤ i → (I 88 1 ≤ i ∨ kd (I 88) i = 0) → zX 164 2 [vR 87, vI a1, vI i, w] [] (sP I 99 f, zRs b, 103, S) = some (none, (sP I 99 (fi (I 88) (i, f)), zRs b, 103, S)) := by
    intro i f w h0 hs
    rw [e164_2]
    simp only [sP_n (show 88 ≠ 99 by decide)]
    unfold fi
    by_cases h1 : I 88 1 ≤ i
    · rw [if_pos h1, if_pos h1, if_pos h1, sIP, sIP]
    · rw [if_neg h1, if_neg h1, r_kd (by omega), Option.bind_some]
      simp only [zpush_s, sP_n (show 88 ≠ 99 by decide)]
      rw [e164_18, if_pos (by omega)]
      simp only [sP_n (show 88 ≠ 99 by decide)]
      rw [if_neg h1, if_neg (by omega), sIP]
  intro n
  induction n with
  | zero =>
    intro i f w r h h0 h6 h7
    by_cases hs : I 88 1 ≤ i ∨ kd (I 88) i = 0
    · rw [stN_stop hs] at h; cases h
      exact stop i f w h0 hs
    · rw [stN_0 hs] at h; cases h
  | succ n ih =>
    intro i f w r h h0 h6 h7
    by_cases hs : I 88 1 ≤ i ∨ kd (I 88) i = 0
    · rw [stN_stop hs] at h; cases h
      exact stop i f w h0 hs
    · rw [stN_go hs] at h
      have a6 := nx_6 (lg := I 87 21) (f := f) ok h0 (by omega) h6
      have a0 := nx_1 (lg := I 87 21) (f := f) ok h0 (by omega)
      have ih := fun w => ih _ _ w r h a0 (by omega) (by omega)
      have ik := (ok.2.2.2.2 i h0 (by omega)).1
      rw [e164_2]
      simp only [sP_n (show 88 ≠ 99 by decide)]
      rw [if_neg (by omega), r_kd (by omega), Option.bind_some]
      simp only [zpush_s, sP_n (show 88 ≠ 99 by decide)]
      rw [e164_18, if_neg (by omega), r_kd (by omega), Option.bind_some]
      simp only [zpush_s, sP_n (show 88 ≠ 99 by decide)]
      rw [e164_27]
      have nxe : nx (I 88) (I 87 21) i f = if kd (I 88) i = 4 then bE (I 88) f i else (i + 1, if kd (I 88) i = 1 then mkF (I 87 21) (nb (I 88) i) f else if kd (I 88) i = 2 then up f (18 + i) 0 else f) := rfl
      by_cases k1 : kd (I 88) i = 1
      · rw [if_pos k1, r_nb (by omega), Option.bind_some]
        simp only [zpush_s, sP_n (show 88 ≠ 99 by decide)]
        rw [e164_40, r_marks h6 (by omega), Option.bind_some]
        simp only [zpush_n]
        rw [e164_43, if_neg (by omega), if_neg (by omega), wr_id (by omega) (by omega)]
        rw [if_neg (by omega), if_pos k1] at nxe
        rw [nxe] at ih
        exact ih _
      · rw [if_neg k1, e164_43]
        by_cases k2 : kd (I 88) i = 2
        · rw [if_pos k2, wr_id (by omega) (by omega), if_pos (by omega), if_neg (by omega), wr_id (by omega) (by omega), sIP]
          rw [if_neg (by omega), if_neg k1, if_pos k2] at nxe
          rw [nxe] at ih
          exact ih _
        · rw [if_neg k2]
          by_cases k4 : kd (I 88) i = 4
          · rw [if_pos k4, r_bE ok h0 (by omega) k4, Option.bind_some]
            simp only [zpush_s]
            rw [e164_68]
            rw [if_pos k4] at nxe
            rw [nxe] at ih
            exact ih _
          · rw [if_neg k4, wr_id (by omega) (by omega)]
            rw [if_neg k4, if_neg k1, if_neg k2] at nxe
            rw [nxe] at ih
            exact ih _
theorem r_settles (ok : tOk (I 88)) {i : Int} {f : Int → Int} (h0 : 0 ≤ i) (h6 : 0 ≤ f 6) (h7 : f 6 < 2147483000) : zrun 164 [vR 87, vI i] (sP I 99 f, zRs b, 103, S) = some (none, (sP I 99 (setF (I 88) (I 87 21) i f), zRs b, 103, S)) := by
  obtain ⟨r, hr, he⟩ := setF_eq (lg := I 87 21) (f := f) ok h0
  rw [run164, e164_0, r_setL ok 46 i f _ r hr h0 h6 (by omega), he]
end A33
