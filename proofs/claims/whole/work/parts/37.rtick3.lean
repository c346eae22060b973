/-! ===== the reference's asking, its tick, its beginning ===== -/
theorem ak_c {f : Int → Int} {pg : Int} (h : 0 ≤ f 8) : (akF f pg 8 = f 8 ∨ akF f pg 8 = f 8 + 1) ∧ ∀ c, c < 48 ∧ c ≠ 8 ∨ 80 + f 8 < c → akF f pg c = f c := by
  unfold akF
  split
  · exact ⟨Or.inr up_s, fun c hc => by rw [up_n (by omega), up_n (by omega), up_n (by omega)]⟩
  · exact ⟨Or.inl rfl, fun c _ => rfl⟩
theorem akL_c : ∀ (L : List Int) (f : Int → Int), 0 ≤ f 8 → (f 8 ≤ L.foldl akF f 8 ∧ L.foldl akF f 8 ≤ f 8 + L.length) ∧ ∀ c, c < 48 ∧ c ≠ 8 ∨ 80 + f 8 + L.length ≤ c → L.foldl akF f c = f c := by
  intro L
  induction L with
  | nil => intro f h; exact ⟨⟨by show f 8 ≤ f 8; omega, by show f 8 ≤ f 8 + 0; omega⟩, fun c _ => rfl⟩
  | cons x L ih =>
    intro f h
    have a := ak_c (f := f) (pg := x) h
    have z := ih (akF f x) (by omega)
    rw [List.foldl_cons, List.length_cons]
    refine ⟨by omega, fun c hc => ?_⟩
    rw [z.2 c (by omega), a.2 c (by omega)]
theorem skF_len {T fs : Int → Int} : ∀ (n : Nat) (f : Int → Int), (skF T fs n f).length ≤ n := by
  intro n
  induction n with
  | zero => intro f; exact Nat.le_refl 0
  | succ n ih =>
    intro f
    unfold skF
    split
    · exact Nat.zero_le _
    · rw [List.length_cons]; have := ih (advF T 0 f); omega
section A37
variable {I : Nat → Int → Int} {b : Bool} {S : Nat}
theorem r_asksL : ∀ (L : List Int) (k : Int) (f : Int → Int), (∀ j : Nat, j < L.length → I 100 (k + (j : Int)) = L.getD j 0) → I 87 23 = k + L.length → 0 ≤ k → k + L.length ≤ 18 → 0 ≤ f 7 ∧ f 7 ≤ 6 → 0 ≤ f 8 → f 8 + L.length ≤ 60 → zX 178 11 [vR 87, vI k] [] (sP I 99 f, zRs b, 103, S) = some (none, (sP (sP I 99 (L.foldl akF f)) 93 (mix 392 (L.foldl akF f) (I 93)), zRs b, 103, S)) := by
  intro L
  induction L with
  | nil =>
    intro k f hX h23 hk hk2 h7 h8 h9
    rw [e178_11, sP_n (by decide), if_pos (by rw [h23]; show k + 0 ≤ k; omega), r_stays, Option.bind_some]
    simp only [zpush_n]
    rw [e178_120, sP_s, sP_n (by decide)]
    rfl
  | cons x L ih =>
    intro k f hX h23 hk hk2 h7 h8 h9
    rw [List.length_cons] at h23 hk2 h9
    have hx : I 100 k = x := by
      have := hX 0 (by rw [List.length_cons]; omega)
      rw [show k + ((0 : Nat) : Int) = k by omega] at this
      exact this
    have a := ak_c (f := f) (pg := x) h8
    have ih := ih (k + 1) (akF f x) (fun j hj => by
      have := hX (j + 1) (by rw [List.length_cons]; omega)
      rw [show k + 1 + (j : Int) = k + ((j + 1 : Nat) : Int) by omega]
      exact this) (by omega) (by omega) (by omega) (by rw [a.2 7 (by omega)]; exact h7) (by omega) (by omega)
    rw [e178_11, sP_n (by decide), if_neg (by omega), if_pos (by omega), sP_n (by decide), hx, r_cachedAt h7, Option.bind_some]
    simp only [zpush_s]
    rw [e178_29, List.foldl_cons, ← ih]
    unfold akF
    by_cases h1 : caF f x = -4
    · rw [if_pos h1, if_pos (by omega), sP_n (by decide), hx, r_isAsked (by omega), Option.bind_some]
      simp only [zpush_s]
      rw [e178_44, sP_n (show 100 ≠ 99 by decide), hx]
      by_cases h2 : asF f x = -4
      · rw [if_pos h2, if_pos rfl, if_pos (by omega), if_pos (show caF f x = -4 ∧ asF f x = -4 from ⟨h1, h2⟩)]
        simp (disch := omega) only [sP_s, sIP, wr_id, if_pos, up_n]
      · rw [if_neg h2, if_neg (by decide), if_neg (fun z => h2 z.2), wr_id (by omega) (by omega)]
    · rw [if_neg h1, if_neg (fun z => h1 z.1), wr_id (by omega) (by omega)]
theorem r_asks {N : Int} (ok : tOk (I 88)) (hfs : fsOk (I 88) (I 91)) (h : pvB (I 88) (I 93) N) (hN : N < 2147400000) (z3 : Z0 (I 93)) (z9 : Z0 (I 99)) : ∃ X Y, zrun 178 [vR 87] (I, zRs b, 103, S) = some (none, (sP (sP (sP (sP I 100 X) 87 (up (up (I 87) 21 1) 23 Y)) 99 (asksF (I 88) (I 91) (I 93))) 93 (asksF (I 88) (I 91) (I 93)), zRs b, 103, S)) := by
  obtain ⟨ha, hp, h13, h14, h15, h16, h17, h7, h8, h4, h6⟩ := h
  rw [run178, e178_0, run177, e177_0, r_goesOn (Or.inl rfl), Option.bind_some, mix_Z z9 z3]
  simp only [zpush_n]
  rw [e177_5, sIP_n (by decide)]
  have q88 : sI (sI I 87 21 0) 87 23 0 88 = I 88 := by funext j; rw [sI_p (by decide), sI_p (by decide)]
  have q91 : sI (sI I 87 21 0) 87 23 0 91 = I 91 := by funext j; rw [sI_p (by decide), sI_p (by decide)]
  have q93 : sI (sI I 87 21 0) 87 23 0 93 = I 93 := by funext j; rw [sI_p (by decide), sI_p (by decide)]
  obtain ⟨X, Z, q1, q2, -, q4⟩ := r_seekL (b := b) (S := S) ok hfs (I 93 17 + 1).toNat (sI (sI I 87 21 0) 87 23 0) 0 (I 93) q88 q91 (by rw [sI_k (by decide), sI_s]) sI_s (by rw [q93]; omega) (by omega) (by rw [q93]; omega) ha hp h13 (by omega) (by omega)
  have ln := skF_len (T := I 88) (fs := I 91) (I 93 17 + 1).toNat (I 93)
  rw [q1, Option.bind_some]
  simp only [zpush_n]
  have hZ : Z0 Z := fun c hc => (q4 c (by omega)).trans (z3 c hc)
  rw [sI_sP (I := sI I 87 21 0), sI_sP (I := I), sP_s, sP_sP, sP_c (show 87 ≠ 100 by decide), sP_s, sP_sP, e178_4]
  generalize hL : skF (I 88) (I 91) (I 93 17 + 1).toNat (I 93) = L at q2 ln ⊢
  rw [r_goesOn (Or.inr rfl), Option.bind_some]
  simp only [zpush_n]
  have w93 : sP (sP (sP I 100 X) 87 (up (up (up (I 87) 21 0) 23 0) 23 (0 + (L.length : Int)))) 99 Z 93 = I 93 := by
    rw [sP_n (by decide), sP_n (by decide), sP_n (by decide)]
  rw [w93, sP_s, mix_Z hZ z3, sI_sP, sP_n (show 87 ≠ 99 by decide), sP_s, sP_c (show 99 ≠ 87 by decide), sP_sP, sP_sP, e178_9]
  have hu : up (up (up (up (I 87) 21 0) 23 0) 23 (0 + (L.length : Int))) 21 1 = up (up (I 87) 21 1) 23 L.length := by
    funext c; unfold up
    by_cases c1 : c = 21
    · rw [if_pos c1, if_neg (by omega), if_pos c1]
    · rw [if_neg c1]
      by_cases c2 : c = 23
      · rw [if_pos c2, if_pos c2]; omega
      · rw [if_neg c2, if_neg c2, if_neg c1, if_neg c2, if_neg c1]
  rw [hu]
  have fin := r_asksL (I := sP (sP I 100 X) 87 (up (up (I 87) 21 1) 23 L.length)) (b := b) (S := S) L 0 (I 93) (fun j hj => by rw [sP_n (by decide), sP_s]; exact q2 j hj) (by rw [sP_s, up_s]; omega) (by omega) (by omega) (by omega) (by omega) (by omega)
  rw [fin]
  have fl := akL_c L (I 93) (by omega)
  refine ⟨X, L.length, ?_⟩
  have e : asksF (I 88) (I 91) (I 93) = L.foldl akF (I 93) := by unfold asksF; rw [hL]
  rw [e, sP_n (show 93 ≠ 87 by decide), sP_n (show 93 ≠ 100 by decide), mix_Z z3 (fun c hc => (fl.2 c (by omega)).trans (z3 c hc))]
theorem r_ticks {N : Int} (ok : tOk (I 88)) (hfs : fsOk (I 88) (I 91)) (h : pvB (I 88) (I 93) N) (hN : N < 2147300000) (z3 : Z0 (I 93)) (z9 : Z0 (I 99)) : ∃ X Y, zrun 179 [vR 87] (I, zRs b, 103, S) = some (none, (sP (sP (sP (sP I 100 X) 87 (up (up (I 87) 21 1) 23 Y)) 99 (tiF (I 88) (I 91) (I 93))) 93 (tiF (I 88) (I 91) (I 93)), zRs b, 103, S)) := by
  have h' := h
  obtain ⟨ha, hp, h13, h14, h15, h16, h17, h7, h8, h4, h6⟩ := h
  rw [run179, e179_0, r_goesOn (Or.inr rfl), Option.bind_some, mix_Z z9 z3]
  simp only [zpush_n]
  have u : ∀ c, c ≠ 2 → up (I 93) 2 (wr (I 93 2 + 1)) c = I 93 c := fun c hc => up_n hc
  have ar := arF_c (f := up (I 93) 2 (wr (I 93 2 + 1))) (by rw [u 8 (by omega)]; exact h8) (by rw [u 7 (by omega), u 15 (by omega)]; omega)
  rw [e179_5, sIP, sP_s, r_arrive (by rw [u 8 (by omega)]; exact h8) (by rw [u 7 (by omega), u 15 (by omega)]; omega), Option.bind_some]
  simp only [zpush_n]
  rw [u 15 (by omega), u 8 (by omega)] at ar
  have tie : tiF (I 88) (I 91) (I 93) = asksF (I 88) (I 91) ((fun g => if g 0 = -4 then g else soF (I 88) (I 91) g) (arF (up (I 93) 2 (wr (I 93 2 + 1))))) := rfl
  generalize arF (up (I 93) 2 (wr (I 93 2 + 1))) = g at ar tie ⊢
  have arc : ∀ c, c ≠ 2 → (c < 7 ∨ (9 ≤ c ∧ c < 42) ∨ 112 ≤ c) → g c = I 93 c := fun c c1 c2 => (ar.2.2 c c2).trans (u c c1)
  have gv : pvB (I 88) g N := by
    refine ⟨at_c (arc 0 (by omega) (by omega)) ha, ph_c (arc 0 (by omega) (by omega)) (arc 1 (by omega) (by omega)) hp, ?_, ?_, ?_, ?_, ?_, ?_, ?_, ?_, ?_⟩
    · rw [arc 13 (by omega) (by omega)]; exact h13
    · rw [arc 14 (by omega) (by omega)]; exact h14
    · rw [arc 15 (by omega) (by omega)]; exact h15
    · rw [arc 16 (by omega) (by omega)]; exact h16
    · rw [arc 17 (by omega) (by omega)]; exact h17
    · rw [arc 15 (by omega) (by omega)]; exact ar.1
    · omega
    · rw [arc 4 (by omega) (by omega)]; exact h4
    · rw [arc 6 (by omega) (by omega)]; exact h6
  have gz : Z0 g := fun c hc => (arc c (by omega) (by omega)).trans (z3 c hc)
  have k88 : sI I 87 21 1 88 = I 88 := by funext j; rw [sI_p (by decide)]
  have k91 : sI I 87 21 1 91 = I 91 := by funext j; rw [sI_p (by decide)]
  have k93 : sI I 87 21 1 93 = I 93 := by funext j; rw [sI_p (by decide)]
  have body : ∃ G, (tiF (I 88) (I 91) (I 93) = asksF (I 88) (I 91) G ∧ pvB (I 88) G (N + 1000) ∧ Z0 G) ∧ zX 179 19 [vR 87] [] (sP (sI I 87 21 1) 99 g, zRs b, 103, S) = zX 179 34 [vR 87] [] (sP (sI I 87 21 1) 99 G, zRs b, 103, S) := by
    rw [e179_19, sP_s]
    dsimp only at tie
    by_cases g0 : g 0 = -4
    · rw [if_pos g0] at tie ⊢
      refine ⟨g, ⟨tie, ?_, gz⟩, rfl⟩
      obtain ⟨b1, b2, b3, b4, b5, b6, b7, b8, b9, b10, b11⟩ := gv
      exact ⟨b1, b2, b3, b4, b5, b6, b7, b8, b9, by omega, by omega⟩
    · rw [if_neg g0] at tie ⊢
      have so := so_ok (fs := I 91) ok gv g0
      have rs := r_sounds (I := sI I 87 21 1) (b := b) (S := S) (f := g) (N := N) (by rw [k88]; exact ok) (by rw [k88, k91]; exact hfs) (by rw [k88]; exact gv) (by omega) g0 sI_s
      rw [k88, k91] at rs
      refine ⟨soF (I 88) (I 91) g, ⟨tie, so.1, fun c hc => (so.2 c (by omega)).trans (gz c hc)⟩, ?_⟩
      rw [rs, Option.bind_some]
      rfl
  obtain ⟨G, ⟨t1, t2, t3⟩, t4⟩ := body
  rw [t4, e179_34, r_stays, Option.bind_some]
  simp only [zpush_n]
  rw [sP_s, sP_n (show 93 ≠ 99 by decide), k93, mix_Z z3 t3, e179_38]
  have m88 : sP (sP (sI I 87 21 1) 99 G) 93 G 88 = I 88 := by rw [sP_n (by decide), sP_n (by decide), k88]
  have m91 : sP (sP (sI I 87 21 1) 99 G) 93 G 91 = I 91 := by rw [sP_n (by decide), sP_n (by decide), k91]
  have m99 : sP (sP (sI I 87 21 1) 99 G) 93 G 99 = G := by rw [sP_n (by decide), sP_s]
  have m87 : sP (sP (sI I 87 21 1) 99 G) 93 G 87 = up (I 87) 21 1 := by rw [sP_n (by decide), sP_n (by decide), sI_sP, sP_s]
  obtain ⟨X, Y, ra⟩ := r_asks (I := sP (sP (sI I 87 21 1) 99 G) 93 G) (b := b) (S := S) (N := N + 1000) (by rw [m88]; exact ok) (by rw [m88, m91]; exact hfs) (by rw [m88, sP_s]; exact t2) (by omega) (by rw [sP_s]; exact t3) (by rw [m99]; exact t3)
  rw [m88, m91, m87, sP_s, ← t1] at ra
  rw [ra, Option.bind_some]
  simp only [zpush_n]
  rw [e179_42]
  refine ⟨X, Y, ?_⟩
  have hu : up (up (up (I 87) 21 1) 21 1) 23 Y = up (up (I 87) 21 1) 23 Y := by
    funext c; unfold up; split
    · rfl
    · split <;> rfl
  rw [hu, sI_sP]
  rw [sP_c (show 93 ≠ 100 by decide), sP_c (show 93 ≠ 87 by decide), sP_c (show 93 ≠ 99 by decide), sP_sP]
  rw [sP_c (show 99 ≠ 100 by decide), sP_c (show 99 ≠ 87 by decide), sP_sP]
  rw [sP_c (show 87 ≠ 100 by decide), sP_sP]
theorem r_begL {x : Int} {f : Int → Int} : ∀ (n : Nat) (a : Int), a = 392 - n → 0 ≤ a → ∃ g : Int → Int, (∀ c, g c = if (0 ≤ c ∧ c < 13) ∨ (18 ≤ c ∧ c < 392) then 0 else f c) ∧ zX 165 7 [vR 87, vI a] [] (sP I 99 (fun c => if ((0 ≤ c ∧ c < 13) ∨ (18 ≤ c ∧ c < 392)) ∧ c < a then 0 else f c), zRs b, 103, S) = zX 165 7 [vR 87, vI 392] [] (sP I 99 g, zRs b, 103, S) := by
  intro n
  induction n with
  | zero =>
    intro a h h0
    refine ⟨_, fun c => ?_, by rw [show a = 392 by omega]⟩
    by_cases hc : (0 ≤ c ∧ c < 13) ∨ (18 ≤ c ∧ c < 392)
    · rw [if_pos hc, if_pos ⟨hc, by omega⟩]
    · rw [if_neg hc, if_neg (fun z => hc z.1)]
  | succ n ih =>
    intro a h h0
    obtain ⟨g, g1, g2⟩ := ih (a + 1) (by omega) (by omega)
    refine ⟨g, g1, ?_⟩
    rw [e165_7, if_neg (by omega), ← g2, wr_id (by omega) (by omega)]
    by_cases c1 : a < 13
    · rw [if_pos c1, if_pos (by omega), sIP]
      congr 2
      congr 1
      funext c; unfold up
      by_cases c2 : c = a
      · rw [if_pos c2, if_pos (by omega)]
      · rw [if_neg c2]
        dsimp only
        by_cases c3 : ((0 ≤ c ∧ c < 13) ∨ (18 ≤ c ∧ c < 392)) ∧ c < a
        · rw [if_pos c3, if_pos (by omega)]
        · rw [if_neg c3, if_neg (by omega)]
    · rw [if_neg c1]
      by_cases c4 : 18 ≤ a
      · rw [if_pos c4, if_pos (by omega), sIP]
        congr 2
        congr 1
        funext c; unfold up
        by_cases c2 : c = a
        · rw [if_pos c2, if_pos (by omega)]
        · rw [if_neg c2]
          dsimp only
          by_cases c3 : ((0 ≤ c ∧ c < 13) ∨ (18 ≤ c ∧ c < 392)) ∧ c < a
          · rw [if_pos c3, if_pos (by omega)]
          · rw [if_neg c3, if_neg (by omega)]
      · rw [if_neg c4, if_pos (by omega), if_pos (by omega), sP_s, sIP, up_id]
        congr 2
        congr 1
        funext c
        by_cases c3 : ((0 ≤ c ∧ c < 13) ∨ (18 ≤ c ∧ c < 392)) ∧ c < a
        · rw [if_pos c3, if_pos (by omega)]
        · rw [if_neg c3, if_neg (by omega)]
theorem zr_Z {f : Int → Int} (h : Z0 f) : Z0 (zrF f) := fun c hc => by
  unfold zrF
  split
  · rfl
  · exact h c hc
theorem zr_6 {f : Int → Int} : zrF f 6 = 0 := by
  unfold zrF
  rw [if_pos (by omega)]
theorem beg_Z {T f : Int → Int} (ok : tOk T) (h : Z0 f) : Z0 (begF T f) := fun c hc => by
  unfold begF
  have e := setF_end (lg := 1) (f := zrF f) (i := 0) ok (by omega) (by rw [zr_6]; omega)
  rw [e.2.2 c (by omega)]
  exact zr_Z h c hc
theorem r_begins (ok : tOk (I 88)) (z3 : Z0 (I 93)) (z9 : Z0 (I 99)) : zrun 165 [vR 87] (I, zRs b, 103, S) = some (none, (sP (sP (sI I 87 21 1) 99 (begF (I 88) (I 93))) 93 (begF (I 88) (I 93)), zRs b, 103, S)) := by
  rw [run165, e165_0, r_goesOn (Or.inr rfl), Option.bind_some, mix_Z z9 z3]
  simp only [zpush_n]
  obtain ⟨g, g1, g2⟩ := r_begL (I := sI I 87 21 1) (b := b) (S := S) (x := 0) (f := I 93) 392 0 (by omega) (by omega)
  rw [show (fun c => if ((0 ≤ c ∧ c < 13) ∨ (18 ≤ c ∧ c < 392)) ∧ c < 0 then 0 else I 93 c) = I 93 by funext c; rw [if_neg (by omega)]] at g2
  have ge : g = zrF (I 93) := by funext c; rw [g1 c]; rfl
  have k88 : sI I 87 21 1 88 = I 88 := by funext j; rw [sI_p (by decide)]
  have k93 : sI I 87 21 1 93 = I 93 := by funext j; rw [sI_p (by decide)]
  rw [e165_5, g2, ge, e165_7, if_pos (by omega), r_settles (by rw [k88]; exact ok) (by omega) (by rw [zr_6]; omega) (by rw [zr_6]; omega), Option.bind_some, k88, sI_s]
  simp only [zpush_n]
  rw [e165_53, r_stays, Option.bind_some]
  simp only [zpush_n]
  rw [e165_57, sP_s, sP_n (show 93 ≠ 99 by decide), k93]
  show some (none, (sP (sP (sI I 87 21 1) 99 (begF (I 88) (I 93))) 93 (mix 392 (begF (I 88) (I 93)) (I 93)), zRs b, 103, S)) = _
  rw [mix_Z z3 (beg_Z ok z3)]
end A37
