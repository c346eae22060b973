/-! ===== the reference draws items ===== -/
def frR (I I' : Nat → Int → Int) : Prop := (∀ q, q ≠ 87 → q ≠ 89 → q ≠ 97 → q ≠ 98 → I' q = I q) ∧ ∀ j, j ≠ 19 → j ≠ 24 → I' 87 j = I 87 j
section A62
variable {I I' J : Nat → Int → Int} {b : Bool} {S : Nat} {N x : Int}
theorem frR_t (h1 : frR I I') (h2 : frR I' J) : frR I J := ⟨fun q q1 q2 q3 q4 => (h2.1 q q1 q2 q3 q4).trans (h1.1 q q1 q2 q3 q4), fun j j1 j2 => (h2.2 j j1 j2).trans (h1.2 j j1 j2)⟩
theorem r_dEnd {D : Int → Int} {o : Int} {st : List Int} {su : Int → Int} (hb : bOk D su (o :: st)) (hn : D 1 < 24) (hB : rB I D (o :: st)) : ∃ I', zrun 141 [vR 87] (I, zRs b, 103, S) = some (none, (I', zRs b, 103, S)) ∧ rB I' (enI D o st.length) st ∧ I' 87 24 = I 87 24 ∧ frR I I' ∧ I' 98 = (if (st.length : Int) ≤ 0 then I 98 else up (I 98) (st.length - 1) (if I 98 (st.length - 1) = 0 then (if I 98 st.length = 0 then 0 else 1) else 1)) ∧ ∀ j, j ≠ 19 → I' 87 j = I 87 j := by
  obtain ⟨e89, e19, hr⟩ := hB
  have om := lvl_mem _ _ hb.2.2.2.2.2.2.2 o List.mem_cons_self
  have hl4 := hb.2.2.1
  rw [List.length_cons] at e19 hl4
  obtain ⟨J, j1, j2, j3, j4, j5, j6⟩ := r_endC (b := b) (S := S) (m := st.length) (o := o) e89 (by rw [e19]; omega) (by omega) hr.1 ⟨om.1, om.2.1⟩ hn
  exact ⟨J, j1, ⟨j2, j3, rst_c st (fun j _ _ => by rw [j5 97 (by decide) (by decide) (by decide)]) hr.2⟩, j6 24 (by decide), ⟨fun q q1 q2 _ q4 => j5 q q1 q2 q4, fun j j1 _ => j6 j j1⟩, j4, j6⟩
theorem r_dItem {s : Int × (Int → Int) × (Int → Int) × List Int} (hN : 1 ≤ N ∧ N ≤ 8) (h : dOk N s) (hB : rB I s.2.1 s.2.2.2) (hx : I 87 24 = s.1) : ∃ I', zrun 197 [vR 87, vI N] (I, zRs b, 103, S) = some (none, (I', zRs b, 103, S)) ∧ rB I' (dSt N s).2.1 (dSt N s).2.2.2 ∧ I' 87 24 = (dSt N s).1 ∧ frR I I' := by
  obtain ⟨x, D, su, st⟩ := s
  obtain ⟨hb, h0, hp, hl, hz⟩ := h
  simp only at hb h0 hp hl hz hx hB ⊢
  have hD := hb.2.1
  have hl4 := hb.2.2.1
  have hn : D 1 < 24 := by omega
  have w8 : 0 ≤ gT (nS x) % 8 ∧ gT (nS x) % 8 < 8 := by have := gT_b (nS x); omega
  generalize hA : sI I 87 24 (nS x) = A
  have ao : ∀ q, q ≠ 87 → A q = I q := fun q hq => by rw [← hA, sI_o hq]
  have aj : ∀ j, j ≠ 24 → A 87 j = I 87 j := fun j hj => by rw [← hA, sI_k hj]
  have a24 : A 87 24 = nS x := by rw [← hA, sI_s]
  have aB : rB A D st := ⟨by rw [ao 89 (by decide)]; exact hB.1, by rw [aj 19 (by decide)]; exact hB.2.1, rst_c st (fun j _ _ => by rw [ao 97 (by decide)]) hB.2.2⟩
  have aF : frR I A := ⟨fun q q1 _ _ _ => ao q q1, fun j _ j2 => aj j j2⟩
  have start : zrun 197 [vR 87, vI N] (I, zRs b, 103, S) = zX 197 4 [vR 87, vI N, none] [vI (gT (nS x))] (A, zRs b, 103, S) := by
    rw [run197, e197_0, r_gets, hx, hA, Option.bind_some]
    simp only [zpush_s]
  have tm8 : (gT (nS x)).tmod 8 = gT (nS x) % 8 := tm_em (gT_b _).1 8
  have a891 : A 89 1 = D 1 := by rw [aB.1]
  unfold dSt
  simp only
  by_cases d16 : D 1 < 16
  · have wy : dWay x D = gT (nS x) % 8 := by unfold dWay; rw [if_pos d16]
    rw [wy]
    generalize hC : sI A 87 24 (nS (nS x)) = C
    have co : ∀ q, q ≠ 87 → C q = A q := fun q hq => by rw [← hC, sI_o hq]
    have cj : ∀ j, j ≠ 24 → C 87 j = A 87 j := fun j hj => by rw [← hC, sI_k hj]
    have c24 : C 87 24 = nS (nS x) := by rw [← hC, sI_s]
    have cB : rB C D st := ⟨by rw [co 89 (by decide)]; exact aB.1, by rw [cj 19 (by decide)]; exact aB.2.1, rst_c st (fun j _ _ => by rw [co 97 (by decide)]) aB.2.2⟩
    have cF : frR I C := frR_t aF ⟨fun q q1 _ _ _ => co q q1, fun j _ j2 => cj j j2⟩
    have getC : zrun 196 [vR 87] (A, zRs b, 103, S) = some (some (vI (gT (nS (nS x)))), (C, zRs b, 103, S)) := by rw [r_gets, a24, hC]
    by_cases c1 : gT (nS x) % 8 < 3
    · rw [if_pos c1]
      refine ⟨sP C 89 (adI D 0 (gT (nS (nS x)) % N) (-4) st.length), ?_, ⟨sP_s, by rw [sP_n (by decide)]; exact cB.2.1, rst_c st (fun j _ _ => by rw [sP_n (by decide)]) cB.2.2⟩, by rw [sP_n (by decide)]; exact c24, frR_t cF ⟨fun q _ q2 _ _ => sP_n q2, fun j _ _ => by rw [sP_n (by decide)]⟩⟩
      rw [start, e197_4, a891, if_pos d16, tm8, if_neg (by omega), getC, Option.bind_some]
      simp only [zpush_s]
      rw [e197_37, if_neg (by omega), tm_em (gT_b _).1, r_item cB.1 cB.2.1 ⟨hD.1, hn⟩, Option.bind_some]
      simp only [zpush_n]
      rw [e197_44, e197_146]
    · rw [if_neg c1]
      by_cases c2 : gT (nS x) % 8 = 3
      · rw [if_pos c2]
        refine ⟨sP C 89 (adI D 1 (gT (nS (nS x)) % 10) (-4) st.length), ?_, ⟨sP_s, by rw [sP_n (by decide)]; exact cB.2.1, rst_c st (fun j _ _ => by rw [sP_n (by decide)]) cB.2.2⟩, by rw [sP_n (by decide)]; exact c24, frR_t cF ⟨fun q _ q2 _ _ => sP_n q2, fun j _ _ => by rw [sP_n (by decide)]⟩⟩
        rw [start, e197_4, a891, if_pos d16, tm8, if_pos (by omega), if_pos c2, getC, Option.bind_some]
        simp only [zpush_s]
        rw [e197_58, tm_em (gT_b _).1, r_item cB.1 cB.2.1 ⟨hD.1, hn⟩, Option.bind_some]
        simp only [zpush_n]
        rw [e197_66, e197_146]
      · rw [if_neg c2]
        by_cases c3 : gT (nS x) % 8 < 6
        · rw [if_pos c3]
          by_cases c4 : (st.length : Int) < 4
          · rw [if_pos c4]
            have t4 := gT_b (nS (nS x))
            obtain ⟨J, j1, j2, j3, j4, j5, j6, j7⟩ := r_loop (I := C) (b := b) (S := S) (k := if gT (nS x) % 8 = 4 then (2 : Int) else 3) (v := if gT (nS x) % 8 = 4 then gT (nS (nS x)) % 3 + 1 else gT (nS (nS x)) % 4) cB.1 cB.2.1 ⟨by omega, c4⟩ ⟨hD.1, hn⟩
            obtain ⟨a1, a2, _, _, _, _, _, a8⟩ := ad_c (D := D) (k := if gT (nS x) % 8 = 4 then (2 : Int) else 3) (v := if gT (nS x) % 8 = 4 then gT (nS (nS x)) % 3 + 1 else gT (nS (nS x)) % 4) (p := -4) (d := st.length) hD.1
            have enter : zX 197 4 [vR 87, vI N, none] [vI (gT (nS x))] (A, zRs b, 103, S) = zX 197 119 [vR 87, vI N, vI (gT (nS x) % 8)] [] (J, zRs b, 103, S) := by
              rw [e197_4, a891, if_pos d16, tm8, if_pos (by omega), if_neg c2, if_neg (by omega), aB.2.1, if_neg (by omega)]
              by_cases q : gT (nS x) % 8 = 4
              · rw [if_pos q, if_pos q] at j1
                rw [if_pos q, if_pos q, getC, Option.bind_some]
                simp only [zpush_s]
                rw [e197_103, tm_em (gT_b _).1, wr_id (by omega) (by omega), j1, Option.bind_some]
                simp only [zpush_n]
              · rw [if_neg q, if_neg q] at j1
                rw [if_neg q, if_neg q, getC, Option.bind_some]
                simp only [zpush_s]
                rw [e197_114, tm_em (gT_b _).1, j1, Option.bind_some]
                simp only [zpush_n]
            generalize hE : adI D (if gT (nS x) % 8 = 4 then (2 : Int) else 3) (if gT (nS x) % 8 = 4 then gT (nS (nS x)) % 3 + 1 else gT (nS (nS x)) % 4) (-4) st.length = E at *
            have j24 : J 87 24 = nS (nS x) := by rw [j7 24 (by decide)]; exact c24
            generalize hK : sI J 87 24 (nS (nS (nS x))) = K
            have ko : ∀ q, q ≠ 87 → K q = J q := fun q hq => by rw [← hK, sI_o hq]
            have kj : ∀ j, j ≠ 24 → K 87 j = J 87 j := fun j hj => by rw [← hK, sI_k hj]
            have k24 : K 87 24 = nS (nS (nS x)) := by rw [← hK, sI_s]
            have k19 : K 87 19 = st.length + 1 := by rw [kj 19 (by decide)]; exact j3
            have l1 : (((D 1 :: st).length : Nat) : Int) = st.length + 1 := by rw [List.length_cons]; omega
            refine ⟨sP K 89 (adI E 0 (gT (nS (nS (nS x))) % N) (-4) (st.length + 1)), ?_, ⟨sP_s, by rw [sP_n (by decide), l1]; exact k19, ?_, rst_c st (fun j _ j1 => ?_) cB.2.2⟩, by rw [sP_n (by decide)]; exact k24, frR_t cF ⟨fun q q1 q2 q3 q4 => ?_, fun j h1 h2 => ?_⟩⟩
            · rw [start, enter, e197_119, r_gets, j24, hK, Option.bind_some]
              simp only [zpush_s]
              rw [e197_125, if_neg (by omega), tm_em (gT_b _).1, r_item (D := E) (by rw [ko 89 (by decide)]; exact j2) k19 (by omega), Option.bind_some]
              simp only [zpush_n]
              rw [e197_132, e197_146]
            · rw [sP_n (by decide), ko 97 (by decide), j4, up_s]
            · rw [sP_n (by decide), ko 97 (by decide), j4, up_n (by omega)]
            · rw [sP_n q2, ko q q1, j6 q q1 q2 q3 q4]
            · rw [sP_n (by decide), kj j h2, j7 j h1]
          · rw [if_neg c4]
            refine ⟨A, ?_, aB, a24, aF⟩
            rw [start, e197_4, a891, if_pos d16, tm8, if_pos (by omega), if_neg c2, if_neg (by omega), aB.2.1, if_pos (by omega), e197_146]
        · rw [if_neg c3]
          have go : zX 197 4 [vR 87, vI N, none] [vI (gT (nS x))] (A, zRs b, 103, S) = if (st.length : Int) ≤ 0 then zX 197 146 [vR 87, vI N, vI (gT (nS x) % 8)] [] (A, zRs b, 103, S) else (zrun 141 [vR 87] (A, zRs b, 103, S)).bind (fun q => zX 197 146 [vR 87, vI N, vI (gT (nS x) % 8)] (zpush q.1 []) q.2) := by
            rw [e197_4, a891, if_pos d16, tm8, if_pos (by omega), if_neg c2, if_pos (by omega), aB.2.1]
          cases st with
          | nil =>
            refine ⟨A, ?_, aB, a24, aF⟩
            rw [start, go, if_pos (by rw [List.length_nil]; decide), e197_146]
          | cons o st =>
            obtain ⟨J, j1, j2, j3, j4, _⟩ := r_dEnd (b := b) (S := S) hb hn aB
            refine ⟨J, ?_, j2, by simp only; rw [j3, a24], frR_t aF j4⟩
            rw [start, go, if_neg (by rw [List.length_cons]; omega), j1, Option.bind_some]
            simp only [zpush_n]
            rw [e197_146]
  · have wy : dWay x D = 7 := by unfold dWay; rw [if_neg d16]
    rw [wy, if_neg (by decide), if_neg (by decide), if_neg (by decide)]
    have go : zX 197 4 [vR 87, vI N, none] [vI (gT (nS x))] (A, zRs b, 103, S) = if (st.length : Int) ≤ 0 then zX 197 146 [vR 87, vI N, vI 7] [] (A, zRs b, 103, S) else (zrun 141 [vR 87] (A, zRs b, 103, S)).bind (fun q => zX 197 146 [vR 87, vI N, vI 7] (zpush q.1 []) q.2) := by
      rw [e197_4, a891, if_neg d16, aB.2.1]
    cases st with
    | nil =>
      refine ⟨A, ?_, aB, a24, aF⟩
      rw [start, go, if_pos (by rw [List.length_nil]; decide), e197_146]
    | cons o st =>
      obtain ⟨J, j1, j2, j3, j4, _⟩ := r_dEnd (b := b) (S := S) hb hn aB
      refine ⟨J, ?_, j2, by simp only; rw [j3, a24], frR_t aF j4⟩
      rw [start, go, if_neg (by rw [List.length_cons]; omega), j1, Option.bind_some]
      simp only [zpush_n]
      rw [e197_146]
theorem r_dLoop (hN : 1 ≤ N ∧ N ≤ 8) {a1 a3 : Int} {w4 w5 : zV} {f : Int × (Int → Int) × (Int → Int) × List Int} : ∀ (n : Nat) (s : Int × (Int → Int) × (Int → Int) × List Int) (I : Nat → Int → Int), dOk N s → rB I s.2.1 s.2.2.2 → I 87 24 = s.1 → dLp N n s = some f → ∃ I', zX 198 129 [vR 87, vI a1, vI N, vI a3, w4, w5] [] (I, zRs b, 103, S) = (zrun 146 [vR 87] (I', zRs b, 103, S)).bind (fun q => zX 198 159 [vR 87, vI a1, vI N, vI a3, w4, w5] (zpush q.1 []) q.2) ∧ I' 89 = f.2.1 ∧ frR I I' := by
  have fin : ∀ (s : Int × (Int → Int) × (Int → Int) × List Int) (I : Nat → Int → Int), rB I s.2.1 s.2.2.2 → 16 ≤ s.2.1 1 ∧ (s.2.2.2.length : Int) ≤ 0 → zX 198 129 [vR 87, vI a1, vI N, vI a3, w4, w5] [] (I, zRs b, 103, S) = (zrun 146 [vR 87] (I, zRs b, 103, S)).bind (fun q => zX 198 159 [vR 87, vI a1, vI N, vI a3, w4, w5] (zpush q.1 []) q.2) := fun s I hB hs => by
    rw [e198_129, hB.1, if_neg (by omega), hB.2.1, if_pos hs.2]
  intro n
  induction n with
  | zero =>
    intro s I h hB hx hl
    have hl' : (if 16 ≤ s.2.1 1 ∧ (s.2.2.2.length : Int) ≤ 0 then some s else none) = some f := hl
    split at hl'
    · rename_i hs
      cases hl'
      exact ⟨I, fin _ I hB hs, hB.1, ⟨fun _ _ _ _ _ => rfl, fun _ _ _ => rfl⟩⟩
    · cases hl'
  | succ n ih =>
    intro s I h hB hx hl
    have hl' : (if 16 ≤ s.2.1 1 ∧ (s.2.2.2.length : Int) ≤ 0 then some s else dLp N n (dSt N s)) = some f := hl
    split at hl'
    · rename_i hs
      cases hl'
      exact ⟨I, fin _ I hB hs, hB.1, ⟨fun _ _ _ _ _ => rfl, fun _ _ _ => rfl⟩⟩
    · rename_i hs
      have st := d_step hN h (by omega)
      obtain ⟨J, j1, j2, j3, j4⟩ := r_dItem (b := b) (S := S) hN h hB hx
      obtain ⟨K, k1, k2, k3⟩ := ih (dSt N s) J st.1 j2 j3 hl'
      refine ⟨K, ?_, k2, frR_t j4 k3⟩
      rw [e198_129, hB.1, hB.2.1]
      by_cases c : s.2.1 1 < 16
      · rw [if_pos c, j1, Option.bind_some]
        simp only [zpush_n]
        rw [e198_152, k1]
      · rw [if_neg c, if_neg (by omega), j1, Option.bind_some]
        simp only [zpush_n]
        rw [e198_152, k1]
end A62
/-! ===== drawn segments ===== -/
def dLv : Nat → Int → (Int → Int) → Int → Int × (Int → Int)
  | 0, x, D, _ => (x, D)
  | n + 1, x, D, c => dLv n (nS x) (up D c (gT (nS x) % 4)) (c + 1)
def dSg : Nat → Int → (Int → Int) → Int → Int × (Int → Int)
  | 0, x, D, _ => (x, D)
  | n + 1, x, D, s => dSg n (dLv (gT (nS x) % 16 + 1).toNat (nS x) (up D (2 + 17 * s) (gT (nS x) % 16 + 1)) (3 + 17 * s)).1 (dLv (gT (nS x) % 16 + 1).toNat (nS x) (up D (2 + 17 * s) (gT (nS x) % 16 + 1)) (3 + 17 * s)).2 (s + 1)
section B62
variable {I I' J : Nat → Int → Int} {b : Bool} {S : Nat} {N x : Int} {g : Nat}
theorem dLv_f : ∀ (n : Nat) (x : Int) (D : Int → Int) (c : Int), (∀ j, j < c ∨ c + n ≤ j → (dLv n x D c).2 j = D j) ∧ ∀ j, c ≤ j → j < c + n → 0 ≤ (dLv n x D c).2 j ∧ (dLv n x D c).2 j ≤ 3 := by
  intro n
  induction n with
  | zero => intro x D c; exact ⟨fun _ _ => rfl, fun j h1 h2 => by omega⟩
  | succ n ih =>
    intro x D c
    have a := ih (nS x) (up D c (gT (nS x) % 4)) (c + 1)
    refine ⟨fun j hj => ?_, fun j h1 h2 => ?_⟩
    · show (dLv n _ _ _).2 j = _
      rw [a.1 j (by omega), up_n (by omega)]
    · show 0 ≤ (dLv n _ _ _).2 j ∧ (dLv n _ _ _).2 j ≤ 3
      by_cases e : j = c
      · rw [a.1 j (by omega), up_e e]
        have := gT_b (nS x)
        omega
      · exact a.2 j (by omega) (by omega)
theorem dSg_f : ∀ (n : Nat) (x : Int) (D : Int → Int) (s : Int), (∀ j, j < 2 + 17 * s ∨ 2 + 17 * (s + n) ≤ j → (dSg n x D s).2 j = D j) ∧ ∀ t, s ≤ t → t < s + n → (1 ≤ mn (dSg n x D s).2 t ∧ mn (dSg n x D s).2 t ≤ 16) ∧ ∀ i, 0 ≤ i → i < mn (dSg n x D s).2 t → 0 ≤ lv (dSg n x D s).2 t i ∧ lv (dSg n x D s).2 t i ≤ 99 := by
  intro n
  induction n with
  | zero => intro x D s; exact ⟨fun _ _ => rfl, fun j h1 h2 => by omega⟩
  | succ n ih =>
    intro x D s
    have g16 := gT_b (nS x)
    have e : dSg (n + 1) x D s = dSg n (dLv (gT (nS x) % 16 + 1).toNat (nS x) (up D (2 + 17 * s) (gT (nS x) % 16 + 1)) (3 + 17 * s)).1 (dLv (gT (nS x) % 16 + 1).toNat (nS x) (up D (2 + 17 * s) (gT (nS x) % 16 + 1)) (3 + 17 * s)).2 (s + 1) := rfl
    rw [e]
    have l := dLv_f (gT (nS x) % 16 + 1).toNat (nS x) (up D (2 + 17 * s) (gT (nS x) % 16 + 1)) (3 + 17 * s)
    generalize (dLv (gT (nS x) % 16 + 1).toNat (nS x) (up D (2 + 17 * s) (gT (nS x) % 16 + 1)) (3 + 17 * s)).2 = E at *
    generalize (dLv (gT (nS x) % 16 + 1).toNat (nS x) (up D (2 + 17 * s) (gT (nS x) % 16 + 1)) (3 + 17 * s)).1 = y at *
    have a := ih y E (s + 1)
    refine ⟨fun j hj => ?_, fun t h1 h2 => ?_⟩
    · rw [a.1 j (by omega), l.1 j (by omega), up_n (by omega)]
    · by_cases et : t = s
      · have em : mn (dSg n y E (s + 1)).2 t = gT (nS x) % 16 + 1 := by
          unfold mn
          rw [a.1 _ (by omega), l.1 _ (by omega), et, up_s]
        rw [em]
        refine ⟨by omega, fun i i0 i1 => ?_⟩
        unfold lv
        rw [a.1 _ (by omega)]
        have := l.2 (3 + 17 * t + i) (by omega) (by omega)
        omega
      · exact a.2 t (by omega) (by omega)
theorem c_dLv {pq : Nat} (hpq : isPool pq) {s m : Int} (hm : m ≤ 16) : ∀ (n : Nat) (i x : Int) (D : Int → Int) (I : Nat → Int → Int), i + n = m → 0 ≤ i → I 6 2 = x → (∀ j, 0 ≤ j → j < i → I 7 j = D (3 + 17 * s + j)) → ∃ I', zX 16 22 [vR 6, vR pq, vI s, vI m, vI i] [] (I, zRs b, 103, S) = zX 16 22 [vR 6, vR pq, vI s, vI m, vI m] [] (I', zRs b, 103, S) ∧ I' 6 2 = (dLv n x D (3 + 17 * s + i)).1 ∧ (∀ j, 0 ≤ j → j < m → I' 7 j = (dLv n x D (3 + 17 * s + i)).2 (3 + 17 * s + j)) ∧ (∀ q, q ≠ 6 → q ≠ 7 → I' q = I q) ∧ I' 6 1 = I 6 1 := by
  intro n
  induction n with
  | zero =>
    intro i x D I h0 h1 h2 h3
    have e : i = m := by omega
    subst e
    exact ⟨I, rfl, h2, h3, fun _ _ _ => rfl, rfl⟩
  | succ n ih =>
    intro i x D I h0 h1 h2 h3
    generalize hA : sI (sI I 6 2 (nS x)) 7 i (gT (nS x) % 4) = A
    obtain ⟨J, j1, j2, j3, j4, j5⟩ := ih (i + 1) (nS x) (up D (3 + 17 * s + i) (gT (nS x) % 4)) A (by omega) (by omega) (by rw [← hA, sI_o (by decide), sI_s]) (fun j q0 q1 => by
      rw [← hA]
      by_cases e : j = i
      · rw [e, sI_s, up_s]
      · rw [sI_k e, sI_o (by decide), up_n (by omega)]; exact h3 j q0 (by omega))
    rw [show 3 + 17 * s + (i + 1) = 3 + 17 * s + i + 1 by omega] at j2 j3
    refine ⟨J, ?_, j2, j3, fun q q1 q2 => by rw [j4 q q1 q2, ← hA, sI_o q2, sI_o q1], by rw [j5, ← hA, sI_o (by decide), sI_k (by decide)]⟩
    rw [e16_22 hpq, if_neg (by omega), c_got (by omega), h2, Option.bind_some]
    simp only [zpush_s]
    rw [e16_39 hpq, if_pos (by omega), hA, wr_id (by omega) (by omega), j1]
theorem c_dSg (hg : isProg g) (hN : N ≤ 8) : ∀ (n : Nat) (s x : Int) (D : Int → Int) (I : Nat → Int → Int) (w3 w4 : zV), s + n = N → 0 ≤ s → I 6 2 = x → I 6 1 = N → I (g + 1) 5 = s → (∀ t, 0 ≤ t → t < s → I (g + 4) t = mn D t) → (∀ t, 0 ≤ t → t < s → 1 ≤ mn D t ∧ mn D t ≤ 16) → poolIs D s (I (g + 3)) (I (g + 5)) (I (g + 2)) (I (g + 1) 4) → ∃ I', zX 16 2 [vR 6, vR (g + 1), vI s, w3, w4] [] (I, zRs b, 103, S) = some (none, (I', zRs b, 103, S)) ∧ I' 6 2 = (dSg n x D s).1 ∧ I' 6 1 = N ∧ I' (g + 1) 5 = N ∧ (∀ t, 0 ≤ t → t < N → I' (g + 4) t = mn (dSg n x D s).2 t) ∧ poolIs (dSg n x D s).2 N (I' (g + 3)) (I' (g + 5)) (I' (g + 2)) (I' (g + 1) 4) ∧ ∀ q, q ≠ 6 → q ≠ 7 → (q < g + 1 ∨ g + 5 < q) → I' q = I q := by
  have gg := isP_b hg
  intro n
  induction n with
  | zero =>
    intro s x D I w3 w4 h0 h1 h2 h3 h4 h5 h6 h7
    have e : s = N := by omega
    subst e
    refine ⟨I, ?_, h2, h3, h4, h5, h7, fun _ _ _ _ => rfl⟩
    rw [e16_2 (isProg_pool hg), h3, if_pos (by omega)]
  | succ n ih =>
    intro s x D I w3 w4 h0 h1 h2 h3 h4 h5 h6 h7
    have g16 := gT_b (nS x)
    have eS : dSg (n + 1) x D s = dSg n (dLv (gT (nS x) % 16 + 1).toNat (nS x) (up D (2 + 17 * s) (gT (nS x) % 16 + 1)) (3 + 17 * s)).1 (dLv (gT (nS x) % 16 + 1).toNat (nS x) (up D (2 + 17 * s) (gT (nS x) % 16 + 1)) (3 + 17 * s)).2 (s + 1) := rfl
    have l := dLv_f (gT (nS x) % 16 + 1).toNat (nS x) (up D (2 + 17 * s) (gT (nS x) % 16 + 1)) (3 + 17 * s)
    generalize hA : sI I 6 2 (nS x) = A
    have ao : ∀ q, q ≠ 6 → A q = I q := fun q hq => by rw [← hA, sI_o hq]
    obtain ⟨J, j1, j2, j3, j4, j5⟩ := c_dLv (b := b) (S := S) (isProg_pool hg) (s := s) (m := gT (nS x) % 16 + 1) (by omega) (gT (nS x) % 16 + 1).toNat 0 (nS x) (up D (2 + 17 * s) (gT (nS x) % 16 + 1)) A (by omega) (by omega) (by rw [← hA, sI_s]) (fun j q0 q1 => by omega)
    rw [show 3 + 17 * s + 0 = 3 + 17 * s by omega] at j2 j3
    rw [eS]
    generalize (dLv (gT (nS x) % 16 + 1).toNat (nS x) (up D (2 + 17 * s) (gT (nS x) % 16 + 1)) (3 + 17 * s)).2 = E at *
    generalize (dLv (gT (nS x) % 16 + 1).toNat (nS x) (up D (2 + 17 * s) (gT (nS x) % 16 + 1)) (3 + 17 * s)).1 = y at *
    have jo : ∀ q, q ≠ 6 → q ≠ 7 → J q = I q := fun q q1 q2 => (j4 q q1 q2).trans (ao q q1)
    have em : mn E s = gT (nS x) % 16 + 1 := by unfold mn; rw [l.1 _ (by omega), up_s]
    have emt : ∀ t, 0 ≤ t → t < s → mn E t = mn D t := fun t t0 t1 => by unfold mn; rw [l.1 _ (by omega), up_n (by omega)]
    have hmE : ∀ t, 0 ≤ t → t < s → 1 ≤ mn E t ∧ mn E t ≤ 16 := fun t t0 t1 => by rw [emt t t0 t1]; exact h6 t t0 t1
    have hz : 0 ≤ I (g + 1) 4 ∧ I (g + 1) 4 ≤ 16 * s := by
      obtain ⟨z, y0, ym, hh⟩ := h7
      have zz := pool_z (m := s) h6 y0 hh s.toNat (by omega)
      rw [show ((s.toNat : Nat) : Int) = s by omega, ym] at zz
      exact ⟨zz.1, zz.2.1⟩
    have hpE : poolIs E s (J (g + 3)) (J (g + 5)) (J (g + 2)) (I (g + 1) 4) := pool_c (T := D) h1 h6 (fun t t0 t1 => ⟨emt t t0 t1, fun i i0 i1 => by
      have := h6 t t0 t1
      unfold lv; rw [l.1 _ (by omega), up_n (by omega)]⟩) (fun t _ _ => ⟨by rw [jo _ (by omega) (by omega)], by rw [jo _ (by omega) (by omega)]⟩) (fun j _ _ => by rw [jo _ (by omega) (by omega)]) h7
    obtain ⟨p, c, K, p1, c1, k1, k2, k3, k4, k5, k6, k7, k8⟩ := c_addSeg (I := J) (b := b) (S := S) (r := 7) (n := gT (nS x) % 16 + 1) (m := s) (pm := I (g + 1) 4) hg (Or.inr rfl) (by omega) (by omega) (by rw [jo _ (by omega) (by omega)]; exact h4) (by rw [jo _ (by omega) (by omega)]) (by omega)
    have hadd := pool_add (row := J 7) (n := gT (nS x) % 16 + 1) (p := p) (c := c) (pl' := K (g + 2)) h1 hpE hmE em (fun i i0 i1 => (by unfold lv; exact j3 i i0 i1)) p1 c1 k4
    rw [← k5, ← k7, ← k2] at hadd
    obtain ⟨F, f1, f2, f3, f4, f5, f6, f7⟩ := ih (s + 1) y E K (vI (gT (nS x) % 16 + 1)) (vI (gT (nS x) % 16 + 1)) (by omega) (by omega) (by rw [k8 6 (by omega)]; exact j2) (by rw [k8 6 (by omega), j5, ← hA, sI_k (by decide)]; exact h3) k3 (fun t t0 t1 => by
      rw [k6]
      by_cases e : t = s
      · rw [e, up_s, em]
      · rw [up_n e, jo _ (by omega) (by omega), emt t t0 (by omega)]; exact h5 t t0 (by omega)) (fun t t0 t1 => by
      by_cases e : t = s
      · rw [e, em]; omega
      · exact hmE t t0 (by omega)) hadd
    refine ⟨F, ?_, f2, f3, f4, f5, f6, fun q q1 q2 q3 => (f7 q q1 q2 q3).trans ((k8 q q3).trans (jo q q1 q2))⟩
    rw [e16_2 (isProg_pool hg), h3, if_neg (by omega), c_got (by omega), h2, hA, Option.bind_some]
    simp only [zpush_s]
    rw [e16_16 (isProg_pool hg), wr_id (by omega) (by omega), j1, e16_22 (isProg_pool hg), if_pos (Int.le_refl _), k1, Option.bind_some]
    simp only [zpush_n]
    rw [e16_55 (isProg_pool hg), wr_id (by omega) (by omega), f1]
theorem r_dLv {a1 a2 s m : Int} (hs : 0 ≤ s ∧ s < 8) (hm : m ≤ 16) : ∀ (n : Nat) (i x : Int) (D : Int → Int) (I : Nat → Int → Int), i + n = m → 0 ≤ i → I 87 24 = x → I 89 = D → D (2 + 17 * s) = m → ∃ I', zX 198 87 [vR 87, vI a1, vI a2, vI s, vI (2 + 17 * s), vI i] [] (I, zRs b, 103, S) = zX 198 55 [vR 87, vI a1, vI a2, vI (s + 1), vI (2 + 17 * s), vI m] [] (I', zRs b, 103, S) ∧ I' 87 24 = (dLv n x D (3 + 17 * s + i)).1 ∧ I' 89 = (dLv n x D (3 + 17 * s + i)).2 ∧ (∀ q, q ≠ 87 → q ≠ 89 → I' q = I q) ∧ ∀ j, j ≠ 24 → I' 87 j = I 87 j := by
  intro n
  induction n with
  | zero =>
    intro i x D I h0 h1 h2 h3 h4
    refine ⟨I, ?_, h2, h3, fun _ _ _ => rfl, fun _ _ => rfl⟩
    rw [e198_87, if_pos (by omega), h3, h4, if_pos (by omega), wr_id (by omega) (by omega), show i = m by omega]
  | succ n ih =>
    intro i x D I h0 h1 h2 h3 h4
    generalize hA : sI (sI I 87 24 (nS x)) 89 (3 + 17 * s + i) (gT (nS x) % 4) = A
    obtain ⟨J, j1, j2, j3, j4, j5⟩ := ih (i + 1) (nS x) (up D (3 + 17 * s + i) (gT (nS x) % 4)) A (by omega) (by omega) (by rw [← hA, sI_o (by decide), sI_s]) (by rw [← hA, sI_f, sI_o (by decide), h3]) (by rw [up_n (by omega)]; exact h4)
    rw [show 3 + 17 * s + (i + 1) = 3 + 17 * s + i + 1 by omega] at j2 j3
    refine ⟨J, ?_, j2, j3, fun q q1 q2 => by rw [j4 q q1 q2, ← hA, sI_o q2, sI_o q1], fun j hj => by rw [j5 j hj, ← hA, sI_o (by decide), sI_k hj]⟩
    rw [e198_87, if_pos (by omega), h3, h4, if_neg (by omega), r_gets, h2, Option.bind_some]
    simp only [zpush_s]
    rw [e198_114, wr_id (a := 2 + 17 * s + 1) (by omega) (by omega), show 2 + 17 * s + 1 + i = 3 + 17 * s + i by omega, wr_id (by omega) (by omega), if_pos (by omega), tm_em (gT_b _).1, hA, wr_id (by omega) (by omega), j1]
theorem r_dSg {a1 : Int} (hN : N ≤ 8) : ∀ (n : Nat) (s x : Int) (D : Int → Int) (I : Nat → Int → Int) (w4 w5 : zV), s + n = N → 0 ≤ s → I 87 24 = x → I 89 = D → ∃ (I' : Nat → Int → Int) (v4 v5 : zV), zX 198 55 [vR 87, vI a1, vI N, vI s, w4, w5] [] (I, zRs b, 103, S) = zX 198 129 [vR 87, vI a1, vI N, vI N, v4, v5] [] (I', zRs b, 103, S) ∧ I' 87 24 = (dSg n x D s).1 ∧ I' 89 = (dSg n x D s).2 ∧ (∀ q, q ≠ 87 → q ≠ 89 → I' q = I q) ∧ ∀ j, j ≠ 24 → I' 87 j = I 87 j := by
  intro n
  induction n with
  | zero =>
    intro s x D I w4 w5 h0 h1 h2 h3
    have e : s = N := by omega
    subst e
    refine ⟨I, w4, w5, ?_, h2, h3, fun _ _ _ => rfl, fun _ _ => rfl⟩
    rw [e198_55, if_pos (by omega)]
  | succ n ih =>
    intro s x D I w4 w5 h0 h1 h2 h3
    have g16 := gT_b (nS x)
    have eS : dSg (n + 1) x D s = dSg n (dLv (gT (nS x) % 16 + 1).toNat (nS x) (up D (2 + 17 * s) (gT (nS x) % 16 + 1)) (3 + 17 * s)).1 (dLv (gT (nS x) % 16 + 1).toNat (nS x) (up D (2 + 17 * s) (gT (nS x) % 16 + 1)) (3 + 17 * s)).2 (s + 1) := rfl
    generalize hA : sI (sI I 87 24 (nS x)) 89 (2 + 17 * s) (gT (nS x) % 16 + 1) = A
    obtain ⟨J, j1, j2, j3, j4, j5⟩ := r_dLv (b := b) (S := S) (a1 := a1) (a2 := N) (s := s) (m := gT (nS x) % 16 + 1) (by omega) (by omega) (gT (nS x) % 16 + 1).toNat 0 (nS x) (up D (2 + 17 * s) (gT (nS x) % 16 + 1)) A (by omega) (by omega) (by rw [← hA, sI_o (by decide), sI_s]) (by rw [← hA, sI_f, sI_o (by decide), h3]) up_s
    rw [show 3 + 17 * s + 0 = 3 + 17 * s by omega] at j2 j3
    rw [eS]
    obtain ⟨K, v4, v5, k1, k2, k3, k4, k5⟩ := ih (s + 1) _ _ J (vI (2 + 17 * s)) (vI (gT (nS x) % 16 + 1)) (by omega) (by omega) j2 j3
    refine ⟨K, v4, v5, ?_, k2, k3, fun q q1 q2 => by rw [k4 q q1 q2, j4 q q1 q2, ← hA, sI_o q2, sI_o q1], fun j hj => by rw [k5 j hj, j5 j hj, ← hA, sI_o (by decide), sI_k hj]⟩
    rw [e198_55, if_neg (by omega), wr_id (a := 17 * s) (by omega) (by omega), wr_id (a := 2 + 17 * s) (by omega) (by omega), r_gets, h2, Option.bind_some]
    simp only [zpush_s]
    rw [e198_78, if_pos (by omega), tm_em (gT_b _).1, wr_id (by omega) (by omega), hA, j1, k1]
end B62
