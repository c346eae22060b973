/-! ===== sheets, settings, runs ===== -/
def stJ (J0 : Nat → Int → Int) : Prop := ∀ p j, 900 ≤ p → J0 p j = if 0 ≤ j then (zroL p).getD j.toNat 0 else 0
def lvN : Nat → (Int → Int) → Int → Int
  | 0, f => f
  | n + 1, f => lvN n (lvs 0 f)
theorem lvs_c {f : Int → Int} {c : Int} (h : c ≠ 7) (hc : c < 42 ∨ 41 + f 7 ≤ c) : lvs 0 f c = f c := by
  unfold lvs; rw [up_n h, if_neg (by omega)]
theorem lvN_c : ∀ (n : Nat) (f : Int → Int), (n : Int) ≤ f 7 → f 7 ≤ 6 → lvN n f 7 = f 7 - n ∧ (∀ j, 0 ≤ j → j < f 7 - n → lvN n f (42 + j) = f (42 + j + n)) ∧ ∀ c, c ≠ 7 → (c < 42 ∨ 48 ≤ c) → lvN n f c = f c := by
  intro n
  induction n with
  | zero => intro f h0 h1; exact ⟨by show f 7 = _; omega, fun j _ _ => by show f (42 + j) = f (42 + j + (0 : Nat)); rw [show (42 + j + ((0 : Nat) : Int)) = 42 + j by omega], fun _ _ _ => rfl⟩
  | succ n ih =>
    intro f h0 h1
    have e7 : lvs 0 f 7 = f 7 - 1 := by unfold lvs; rw [up_s]
    have a := ih (lvs 0 f) (by omega) (by omega)
    refine ⟨?_, fun j j0 j1 => ?_, fun c c1 c2 => ?_⟩
    · show lvN n (lvs 0 f) 7 = _; rw [a.1, e7]; omega
    · show lvN n (lvs 0 f) (42 + j) = _
      rw [a.2.1 j j0 (by omega)]
      unfold lvs
      rw [up_n (by omega), if_pos (by omega), show 42 + j + (n : Int) + 1 = 42 + j + ((n + 1 : Nat) : Int) by omega]
    · show lvN n (lvs 0 f) c = _
      rw [a.2.2 c c1 c2, lvs_c c1 (by omega)]
theorem wb_le (a : Int) : -2147483648 ≤ wb a ∧ wb a ≤ 2147483647 := by
  have h := zt_RI (Int32.ofInt a).toInt8.toInt32
  exact ⟨h.1, h.2⟩
theorem wl_id {a : Int} (h1 : -9223372036854775808 ≤ a) (h2 : a ≤ 9223372036854775807) : wl a = a := zl_to ⟨by omega, by omega⟩
theorem wr_hi {y : Int} (h1 : 2147483648 ≤ y) (h2 : y ≤ 4294967295) : wr y < 0 := by
  have e : wr y = y.bmod (2 ^ 32) := by unfold wr; exact Int32.toInt_ofInt
  rw [e, Int.bmod_def]
  split <;> omega
section A48
variable {I : Nat → Int → Int} {b : Bool} {S : Nat} {N M : Int} {J0 : Nat → Int → Int} {T fs pl f f' : Int → Int} {pm : Int} {g : Nat}
theorem c_isSheet {x : Int} : zrun 122 [vI x] (I, zRs b, 103, S) = some (some (vI (if 0 ≤ x ∧ x < 4 then 1 else 0)), (I, zRs b, 103, S)) := by
  rw [run122, e122_0]
  by_cases h1 : x < 0
  · rw [if_pos h1, if_neg (by omega)]
  · rw [if_neg h1]
    by_cases h2 : 4 ≤ x
    · rw [if_pos h2, if_neg (by omega)]
    · rw [if_neg h2, if_pos (by omega)]
theorem c_isLane {x : Int} : zrun 123 [vI x] (I, zRs b, 103, S) = some (some (vI (if 0 ≤ x ∧ x ≤ 1 then 1 else 0)), (I, zRs b, 103, S)) := by
  rw [run123, e123_0]
  by_cases h1 : x = 0
  · rw [if_pos h1, if_pos (by omega)]
  · rw [if_neg h1]
    by_cases h2 : x = 1
    · rw [if_pos h2, if_pos (by omega)]
    · rw [if_neg h2, if_neg (by omega)]
theorem r_isSheet {x y : Int} : zrun 201 [vI x, vI y] (I, zRs b, 103, S) = some (some (vI (if (0 ≤ x ∧ x < 4) ∧ 0 ≤ y ∧ y ≤ 1 then 1 else 0)), (I, zRs b, 103, S)) := by
  rw [run201, e201_0, r_in, Option.bind_some]
  simp only [zpush_s]
  rw [e201_9, z01]
  by_cases h1 : 0 ≤ x ∧ x ≤ 3
  · rw [if_pos h1, r_in, Option.bind_some]
    simp only [zpush_s]
    rw [e201_19, z01]
    by_cases h2 : 0 ≤ y ∧ y ≤ 1
    · rw [if_pos h2, if_pos (by omega)]
    · rw [if_neg h2, if_neg (by omega)]
  · rw [if_neg h1, if_neg (by omega)]
theorem sh_p {k : Int} (hk : 0 ≤ k ∧ k < 4) : ∃ s : Nat, isSh s ∧ zRs b 24 k = s ∧ (s : Int) = 79 + 2 * k := by
  have hk' : k = 0 ∨ k = 1 ∨ k = 2 ∨ k = 3 := by omega
  rcases hk' with rfl | rfl | rfl | rfl
  · exact ⟨79, by decide, by cases b <;> rfl, by decide⟩
  · exact ⟨81, by decide, by cases b <;> rfl, by decide⟩
  · exact ⟨83, by decide, by cases b <;> rfl, by decide⟩
  · exact ⟨85, by decide, by cases b <;> rfl, by decide⟩
theorem iSh_of (h : iSh I) {k : Int} {s : Nat} (hk : 0 ≤ k ∧ k < 4) (hs : (s : Int) = 79 + 2 * k) : iSh1 I s k := by
  have hk' : (k = 0 ∧ s = 79) ∨ (k = 1 ∧ s = 81) ∨ (k = 2 ∧ s = 83) ∨ (k = 3 ∧ s = 85) := by omega
  rcases hk' with ⟨rfl, rfl⟩ | ⟨rfl, rfl⟩ | ⟨rfl, rfl⟩ | ⟨rfl, rfl⟩
  · exact h.1
  · exact h.2.1
  · exact h.2.2.1
  · exact h.2.2.2
theorem iSh_mk (h : ∀ (k : Int) (s : Nat), 0 ≤ k → k < 4 → (s : Int) = 79 + 2 * k → iSh1 I s k) : iSh I := ⟨h 0 79 (by decide) (by decide) (by decide), h 1 81 (by decide) (by decide) (by decide), h 2 83 (by decide) (by decide) (by decide), h 3 85 (by decide) (by decide) (by decide)⟩
theorem c_renewL {s : Nat} (hs : isSh s) {l m : Int} {h : Int → Int} : ∀ (n : Nat) (a : Int), a = 30 - n → 0 ≤ a → zX 81 12 [vR s, vI l, vI m, vI a] [] (sP I (s + 1) (mix a (fun _ => 0) h), zRs b, 103, S) = some (none, (sP I (s + 1) (mix 30 (fun _ => 0) h), zRs b, 103, S)) := by
  intro n
  induction n with
  | zero => intro a e h0; rw [e81_12 hs, if_pos (by omega), show a = 30 by omega]
  | succ n ih =>
    intro a e h0
    rw [e81_12 hs, if_neg (by omega), if_pos (by omega), wr_id (by omega) (by omega), sIP, mix_up (g := fun _ => 0) h0]
    exact ih _ (by omega) (by omega)
def zrS (k a : Int) (h : Int → Int) : Int → Int := fun c => if 30 * k ≤ c ∧ c < 30 * k + a then 0 else h c
theorem zrS_up {k a : Int} {h : Int → Int} (h0 : 0 ≤ a) : up (zrS k a h) (30 * k + a) 0 = zrS k (a + 1) h := by
  funext c; unfold up zrS
  by_cases h1 : c = 30 * k + a
  · rw [if_pos h1, if_pos (by omega)]
  · rw [if_neg h1]
    by_cases h2 : 30 * k ≤ c ∧ c < 30 * k + a
    · rw [if_pos h2, if_pos (by omega)]
    · rw [if_neg h2, if_neg (by omega)]
theorem r_sheetL {k l m : Int} {h : Int → Int} (hk : 0 ≤ k ∧ k < 4) : ∀ (n : Nat) (a : Int), a = 30 - n → 0 ≤ a → zX 202 40 [vR 87, vI k, vI l, vI m, vI a] [] (sP I 103 (zrS k a h), zRs b, 103, S) = some (some (vI 1), (sP I 103 (zrS k 30 h), zRs b, 103, S)) := by
  intro n
  induction n with
  | zero => intro a e h0; rw [e202_40, if_pos (by omega), show a = 30 by omega]
  | succ n ih =>
    intro a e h0
    rw [e202_40, if_neg (by omega), wr_id (a := 30 * k) (by omega) (by omega), wr_id (a := 30 * k + a) (by omega) (by omega), if_pos (by omega), wr_id (by omega) (by omega), sIP, zrS_up h0]
    exact ih _ (by omega) (by omega)
theorem op_sheet {k l n : Int} (hI : Inv I b N J0) : opOk 114 202 [vI k, vI l, vI n] I b S N J0 := by
  obtain ⟨_, _, _, _, hs, _, _⟩ := id hI
  have c0 : zrun 114 [vR 1, vI k, vI l, vI n] (I, zRs b, 103, S) = zX 114 4 [vR 1, vI k, vI l, vI n] [vI (if 0 ≤ k ∧ k < 4 then 1 else 0)] (I, zRs b, 103, S) := by
    rw [run114, e114_0, c_isSheet, Option.bind_some]
    simp only [zpush_s]
  have r0 : ∀ J, zrun 202 [vR 87, vI k, vI l, vI n] (J, zRs b, 103, S) = zX 202 5 [vR 87, vI k, vI l, vI n, none] [vI (if (0 ≤ k ∧ k < 4) ∧ 0 ≤ l ∧ l ≤ 1 then 1 else 0)] (J, zRs b, 103, S) := fun J => by
    rw [run202, e202_0, r_isSheet, Option.bind_some]
    simp only [zpush_s]
  by_cases hk : 0 ≤ k ∧ k < 4
  · obtain ⟨s, s1, s2, s3⟩ := sh_p (b := b) hk
    rw [if_pos hk, e114_4, if_neg (by decide), c_isLane, Option.bind_some] at c0
    simp only [zpush_s] at c0
    rw [e114_11 s1 s2, z01] at c0
    by_cases hl : 0 ≤ l ∧ l ≤ 1
    · rw [if_pos hl] at c0
      have r1 := fun J => (r0 J).trans ((congrArg (fun z => zX 202 5 [vR 87, vI k, vI l, vI n, none] [vI z] (J, zRs b, 103, S)) (if_pos ⟨hk, hl⟩)).trans ((e202_5 (I := J) (b := b) (S := S)).trans (if_neg (by decide))))
      by_cases h30 : n ≤ 30
      · rw [if_pos h30] at c0
        by_cases hn : 0 ≤ n
        · rw [if_pos hn, if_pos hk] at c0
          have cl := c_renewL (I := sI (sI I s 1 l) s 2 n) (b := b) (S := S) s1 (l := l) (m := n) (h := sI (sI I s 1 l) s 2 n (s + 1)) 30 0 (by omega) (by omega)
          rw [mix_0, sP_I] at cl
          generalize hA : sP (sI (sI I s 1 l) s 2 n) (s + 1) (mix 30 (fun _ => 0) (sI (sI I s 1 l) s 2 n (s + 1))) = A at cl
          rw [run81, e81_0 s1, cl, Option.bind_some] at c0
          simp only [zpush_n] at c0
          rw [e114_40] at c0
          have rl := r_sheetL (I := sI (sI A 101 k l) 102 k n) (b := b) (S := S) (k := k) (l := l) (m := n) (h := sI (sI A 101 k l) 102 k n 103) hk 30 0 (by omega) (by omega)
          have z0 : zrS k 0 (sI (sI A 101 k l) 102 k n 103) = sI (sI A 101 k l) 102 k n 103 := by funext c; unfold zrS; rw [if_neg (by omega)]
          rw [z0, sP_I] at rl
          generalize hB : sP (sI (sI A 101 k l) 102 k n) 103 (zrS k 30 (sI (sI A 101 k l) 102 k n 103)) = B at rl
          have aI : ∀ q, q ≠ s → q ≠ s + 1 → A q = I q := fun q q1 q2 => by rw [← hA, sP_n q2]; funext j; rw [sI_p q1, sI_p q1]
          have bA : ∀ q, q ≠ 101 → q ≠ 102 → q ≠ 103 → B q = A q := fun q q1 q2 q3 => by rw [← hB, sP_n q3]; funext j; rw [sI_p q2, sI_p q1]
          have a1 : A s 1 = l := by rw [← hA, sP_n (by omega), sI_k (by decide), sI_s]
          have a2 : A s 2 = n := by rw [← hA, sP_n (by omega), sI_s]
          have a3 : ∀ j, 0 ≤ j → j < 30 → A (s + 1) j = 0 := fun j j0 j1 => by rw [← hA, sP_s, mix_i ⟨j0, j1⟩]
          have b1 : ∀ j, B 101 j = if j = k then l else I 101 j := fun j => by
            rw [← hB, sP_n (by decide), sI_p (by decide)]
            split
            · rename_i e; rw [e, sI_s]
            · rename_i e; rw [sI_k e, aI 101 (by omega) (by omega)]
          have b2 : ∀ j, B 102 j = if j = k then n else I 102 j := fun j => by
            rw [← hB, sP_n (by decide)]
            split
            · rename_i e; rw [e, sI_s]
            · rename_i e; rw [sI_k e, sI_p (by decide), aI 102 (by omega) (by omega)]
          have b3 : ∀ c, B 103 c = if 30 * k ≤ c ∧ c < 30 * k + 30 then 0 else I 103 c := fun c => by
            rw [← hB, sP_s]
            unfold zrS
            split
            · rfl
            · rw [sI_p (by decide), sI_p (by decide), aI 103 (by omega) (by omega)]
          refine ⟨1, A, b, B, c0, ?_, ?_⟩
          · rw [r1 A, if_pos h30, if_pos hn, if_pos hk, if_pos hk, rl]
          · refine Inv_sheet hI (by omega) (fun q hq => (bA q (by omega) (by omega) (by omega)).trans (aI q (by omega) (by omega))) (iSh_mk (fun k' s' k0 k1 e => ?_))
            by_cases hkk : k' = k
            · have hss : s' = s := by omega
              subst hkk
              subst hss
              right
              rw [b1, b2, if_pos rfl, if_pos rfl, bA s' (by omega) (by omega) (by omega), bA (s' + 1) (by omega) (by omega) (by omega)]
              exact ⟨by omega, a1, a2, ⟨hn, h30⟩, fun j j0 j1 => by rw [a3 j j0 j1, b3, if_pos (by omega)]⟩
            · have o := iSh_of hs ⟨k0, k1⟩ e
              unfold iSh1 at o ⊢
              rw [b1, b2, if_neg hkk, if_neg hkk, bA s' (by omega) (by omega) (by omega), bA (s' + 1) (by omega) (by omega) (by omega), aI s' (by omega) (by omega), aI (s' + 1) (by omega) (by omega)]
              rcases o with o | ⟨o1, o2, o3, o4, o5⟩
              · exact Or.inl o
              · exact Or.inr ⟨o1, o2, o3, o4, fun j j0 j1 => by rw [o5 j j0 j1, b3, if_neg (by omega)]⟩
        · rw [if_neg hn] at c0
          exact op_ro (-14) hI c0 (by rw [r1 I, if_pos h30, if_neg hn])
      · rw [if_neg h30] at c0
        exact op_ro (-1) hI c0 (by rw [r1 I, if_neg h30])
    · rw [if_neg hl] at c0
      exact op_ro (-1) hI c0 (by rw [r0 I, if_neg (fun z => hl z.2), e202_5, if_pos rfl])
  · rw [if_neg hk, e114_4, if_pos rfl] at c0
    exact op_ro (-1) hI c0 (by rw [r0 I, if_neg (fun z => hk z.1), e202_5, if_pos rfl])
theorem op_lay {k i v : Int} (hI : Inv I b N J0) (hv : -2147483648 ≤ v ∧ v ≤ 2147483647) : opOk 115 203 [vI k, vI i, vI v] I b S N J0 := by
  obtain ⟨_, _, _, _, hs, _, _⟩ := id hI
  have c0 : zrun 115 [vR 1, vI k, vI i, vI v] (I, zRs b, 103, S) = zX 115 4 [vR 1, vI k, vI i, vI v, none, none] [vI (if 0 ≤ k ∧ k < 4 then 1 else 0)] (I, zRs b, 103, S) := by
    rw [run115, e115_0, c_isSheet, Option.bind_some]
    simp only [zpush_s]
  have r0 : ∀ J, zrun 203 [vR 87, vI k, vI i, vI v] (J, zRs b, 103, S) = zX 203 5 [vR 87, vI k, vI i, vI v] [vI (if (0 ≤ k ∧ k < 4) ∧ (0 : Int) ≤ 0 ∧ (0 : Int) ≤ 1 then 1 else 0)] (J, zRs b, 103, S) := fun J => by
    rw [run203, e203_0, r_isSheet, Option.bind_some]
    simp only [zpush_s]
  by_cases hk : 0 ≤ k ∧ k < 4
  · obtain ⟨s, s1, s2, s3⟩ := sh_p (b := b) hk
    have o := iSh_of hs hk s3
    have r1 := fun J => (r0 J).trans ((congrArg (fun z => zX 203 5 [vR 87, vI k, vI i, vI v] [vI z] (J, zRs b, 103, S)) (if_pos ⟨hk, by decide, by decide⟩)).trans ((e203_5 (I := J) (b := b) (S := S)).trans ((if_neg (by decide)).trans (if_pos hk))))
    rw [if_pos hk, e115_4 s1 s2, if_neg (by decide), if_pos hk, run82, e82_0 s1] at c0
    rcases o with ⟨o1, o2⟩ | ⟨o1, o2, o3, o4, o5⟩
    · rw [if_neg (by omega), Option.bind_some] at c0
      simp only [zpush_s] at c0
      rw [e115_28 s1, if_neg (by decide)] at c0
      rw [show wr (-10 - 1) = -11 by decide] at c0
      exact op_ro (-11) hI c0 (by rw [r1 I, if_pos o1])
    · have r2 : ∀ J, J 101 = I 101 → J 102 = I 102 → zrun 203 [vR 87, vI k, vI i, vI v] (J, zRs b, 103, S) = zX 203 39 [vR 87, vI k, vI i, vI v] [vI (if 0 ≤ i ∧ i ≤ I 102 k - 1 then 1 else 0)] (J, zRs b, 103, S) := fun J e1 e2 => by
        rw [r1 J, e1, e2, if_neg (by omega), if_pos hk, r_in, Option.bind_some, wr_id (by omega) (by omega)]
        simp only [zpush_s]
      rw [if_pos (by omega), if_pos rfl] at c0
      by_cases hi : 0 ≤ i ∧ i < I 102 k
      · rw [if_neg (by omega), if_pos (by omega), Option.bind_some] at c0
        simp only [zpush_s] at c0
        rw [e115_28 s1, if_pos (show (0 : Int) = 0 from rfl), if_pos (show (0 ≤ i ∧ i < 30) ∧ -2147483648 ≤ wb v ∧ wb v ≤ 2147483647 from ⟨by omega, (wb_le v).1, (wb_le v).2⟩), if_pos (show (0 ≤ i ∧ i < 30) ∧ -2147483648 ≤ v ∧ v ≤ 2147483647 from ⟨by omega, hv.1, hv.2⟩)] at c0
        have c1 : zrun 115 [vR 1, vI k, vI i, vI v] (I, zRs b, 103, S) = some (some (vI 1), (sI I (s + 1) i (if I 101 k = 0 then wb v else v), zRs b, 103, S)) := by
          rw [c0, o2]
          split <;> rfl
        generalize hw : (if I 101 k = 0 then wb v else v) = w at c1
        have e1 : sI I (s + 1) i w 101 = I 101 := by funext j; rw [sI_p (by omega)]
        have e2 : sI I (s + 1) i w 102 = I 102 := by funext j; rw [sI_p (by omega)]
        refine ⟨1, _, b, sI (sI I (s + 1) i w) 103 (30 * k + i) w, c1, ?_, ?_⟩
        · rw [r2 _ e1 e2, if_pos (by omega), e203_39, if_neg (by decide), if_pos hk, e1, wr_id (a := 30 * k) (by omega) (by omega), wr_id (a := 30 * k + i) (by omega) (by omega), if_pos (show 0 ≤ 30 * k + i ∧ 30 * k + i < 120 by omega), if_pos (show 0 ≤ 30 * k + i ∧ 30 * k + i < 120 by omega), ← hw]
          split <;> rfl
        · refine Inv_sheet hI (by omega) (fun q hq => by funext j; rw [sI_p (by omega), sI_p (by omega)]) (iSh_mk (fun k' s' k0 k1 e => ?_))
          have o' := iSh_of hs ⟨k0, k1⟩ e
          unfold iSh1 at o' ⊢
          rw [sI_p (by decide), sI_p (by omega), sI_p (by omega), sI_p (by omega), sI_p (by omega), sI_p (by omega), sI_p (by decide), sI_p (by omega)]
          rcases o' with o' | ⟨p1, p2, p3, p4, p5⟩
          · exact Or.inl o'
          · refine Or.inr ⟨p1, p2, p3, p4, fun j j0 j1 => ?_⟩
            rw [sI_p (by omega)]
            by_cases hkk : k' = k
            · have hss : s' = s := by omega
              subst hkk
              subst hss
              by_cases hj : j = i
              · rw [hj, sI_s, sI_s]
              · rw [sI_k hj, sI_k (by omega), sI_p (by omega), p5 j j0 j1]
            · rw [sI_p (by omega), sI_k (by omega), sI_p (by omega), p5 j j0 j1]
      · have c1 : zrun 115 [vR 1, vI k, vI i, vI v] (I, zRs b, 103, S) = some (some (vI (-13)), (I, zRs b, 103, S)) := by
          rw [c0]
          by_cases h1 : i < 0
          · rw [if_pos h1, Option.bind_some]
            simp only [zpush_s]
            rw [e115_28 s1, if_neg (by decide)]; rfl
          · rw [if_neg h1, if_neg (by omega), Option.bind_some]
            simp only [zpush_s]
            rw [e115_28 s1, if_neg (by decide)]; rfl
        exact op_ro (-13) hI c1 (by rw [r2 I rfl rfl, if_neg (by omega), e203_39, if_pos rfl])
  · rw [if_neg hk, k115] at c0
    exact op_ro (-1) hI c0 (by rw [r0 I, if_neg (fun z => hk z.1), e203_5, if_pos rfl])
end A48
