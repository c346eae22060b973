/-! ===== the class's cells of a program that is being built ===== -/
def stk (I : Nat → Int → Int) (g : Nat) (su : Int → Int) : List Int → Int → Prop
  | [], x => I (g + 12) 0 = su x
  | o :: st, x => I (g + 12) (st.length + 1) = su x ∧ I (g + 11) st.length = o ∧ stk I g su st o
def celI (I : Nat → Int → Int) (g : Nat) (D : Int → Int) : Prop := ∀ i, 0 ≤ i → i < D 1 → I (g + 6) i = kd D i ∧ I (g + 7) i = nb D i ∧ I (g + 8) i = pt D i ∧ I (g + 9) i = dp D i
def cI (I : Nat → Int → Int) (g : Nat) (D su : Int → Int) (st : List Int) : Prop := I g 6 = D 1 ∧ I g 8 = st.length ∧ celI I g D ∧ stk I g su st (D 1) ∧ ∀ o, 0 ≤ o → o < D 1 → (kd D o = 2 ∨ kd D o = 3) → o ∉ st → I (g + 10) o = su (pt D o)
def frB (g : Nat) (I I' : Nat → Int → Int) : Prop := ∀ q, q < g ∨ (g < q ∧ q < g + 6) ∨ g + 12 < q → I' q = I q
section A58
variable {I I' J : Nat → Int → Int} {b : Bool} {S : Nat} {g : Nat} {D su su' : Int → Int} {st : List Int} {k v p d n m o x s w : Int}
theorem sI_f {q : Nat} : sI I q k v q = up (I q) k v := by rw [sI_sP, sP_s]
theorem sI_o {q r : Nat} (h : r ≠ q) : sI I q k v r = I r := by rw [sI_sP, sP_n h]
theorem up_up {f : Int → Int} : up (up f k v) k w = up f k w := by funext j; unfold up; split <;> rfl
theorem frB_t {J K : Nat → Int → Int} (h1 : frB g I J) (h2 : frB g J K) : frB g I K := fun q hq => (h2 q hq).trans (h1 q hq)
theorem stk_c : ∀ (st : List Int) (x y : Int), (∀ j, 0 ≤ j → j < st.length → I' (g + 12) j = I (g + 12) j ∧ I' (g + 11) j = I (g + 11) j) → I' (g + 12) st.length = su' y → (∀ o, o ∈ st → su' o = su o) → stk I g su st x → stk I' g su' st y := by
  intro st
  induction st with
  | nil => intro x y _ h1 _ _; exact h1
  | cons o st ih =>
    intro x y h0 h1 h2 hs
    obtain ⟨s1, s2, s3⟩ := hs
    have l : ((o :: st).length : Int) = st.length + 1 := by rw [List.length_cons]; omega
    refine ⟨by rw [← l]; exact h1, by rw [(h0 _ (by omega) (by omega)).2]; exact s2, ih o o (fun j j0 j1 => h0 j j0 (by omega)) ?_ (fun p hp => h2 p (List.mem_cons_of_mem _ hp)) s3⟩
    rw [(h0 _ (by omega) (by omega)).1, h2 o List.mem_cons_self]
    cases st with
    | nil => exact s3
    | cons r st => have := s3.1; rw [List.length_cons, show ((st.length + 1 : Nat) : Int) = st.length + 1 by omega]; exact this
theorem stk_top : stk I g su st x → I (g + 12) st.length = su x := by
  intro h
  cases st with
  | nil => exact h
  | cons o st => rw [List.length_cons, show ((st.length + 1 : Nat) : Int) = st.length + 1 by omega]; exact h.1
theorem c_addI (hg : isProg g) (h6 : I g 6 = n) (h8 : I g 8 = m) (hn : 0 ≤ n ∧ n < 24) : ∃ J, zrun 61 [vR g, vI k, vI v] (I, zRs b, 103, S) = some (none, (J, zRs b, 103, S)) ∧ J (g + 6) = up (I (g + 6)) n k ∧ J (g + 7) = up (I (g + 7)) n v ∧ J (g + 8) = up (I (g + 8)) n (-4) ∧ J (g + 9) = up (I (g + 9)) n m ∧ J g 6 = n + 1 ∧ (∀ j, j ≠ 6 → J g j = I g j) ∧ ∀ q, q < g ∨ (g < q ∧ q < g + 6) ∨ g + 9 < q → J q = I q := by
  refine ⟨sI (sI (sI (sI (sI I (g + 6) n k) (g + 7) n v) (g + 8) n (-4)) (g + 9) n m) g 6 (n + 1), ?_, ?_, ?_, ?_, ?_, sI_s, fun j hj => ?_, fun q hq => ?_⟩
  · rw [run61, e61_0 hg, h6, h8, if_pos hn.2, if_pos hn, if_pos hn, if_pos hn, if_pos hn, wr_id (by omega) (by omega)]
  · rw [sI_o (by omega), sI_o (by omega), sI_o (by omega), sI_o (by omega), sI_f]
  · rw [sI_o (by omega), sI_o (by omega), sI_o (by omega), sI_f, sI_o (by omega)]
  · rw [sI_o (by omega), sI_o (by omega), sI_f, sI_o (by omega), sI_o (by omega)]
  · rw [sI_o (by omega), sI_f, sI_o (by omega), sI_o (by omega), sI_o (by omega)]
  · rw [sI_k hj, sI_o (by omega), sI_o (by omega), sI_o (by omega), sI_o (by omega)]
  · rw [sI_o (by omega), sI_o (by omega), sI_o (by omega), sI_o (by omega), sI_o (by omega)]
theorem c_grow (hg : isProg g) (h8 : I g 8 = m) (hm : 0 ≤ m ∧ m < 5) (e : I (g + 12) m = s) (hs : s = 2147483647 ∨ (0 ≤ s ∧ s ≤ 2519424)) (hw : w = 2147483647 ∨ (0 ≤ w ∧ w ≤ 22674816)) : zrun 62 [vR g, vI w] (I, zRs b, 103, S) = some (none, (sI I (g + 12) m (aE s w), zRs b, 103, S)) := by
  rw [run62, e62_0 hg, h8, e, if_pos hm]
  unfold aE
  by_cases h1 : s = 2147483647
  · rw [if_pos h1, if_pos hm, if_pos (Or.inl h1)]
  · rw [if_neg h1]
    by_cases h2 : w = 2147483647
    · rw [if_pos h2, if_pos hm, if_pos (Or.inr h2)]
    · rw [if_neg h2, if_pos hm, if_pos hm, if_neg (by omega), wr_id (by omega) (by omega)]
theorem cel_add {n : Int} (e1 : D 1 = n) (hn : 0 ≤ n) (hc : celI I g D) (j6 : J (g + 6) = up (I (g + 6)) n k) (j7 : J (g + 7) = up (I (g + 7)) n v) (j8 : J (g + 8) = up (I (g + 8)) n p) (j9 : J (g + 9) = up (I (g + 9)) n d) : celI J g (adI D k v p d) := by
  obtain ⟨c1, c2, c3, c4, c5, c6, c7, c8⟩ := ad_c (D := D) (k := k) (v := v) (p := p) (d := d) (by omega)
  intro i i0 i1
  rw [c2] at i1
  rw [j6, j7, j8, j9]
  by_cases e : i = n
  · rw [up_e e, up_e e, up_e e, up_e e, e, ← e1, c3, c4, c5, c6]; exact ⟨rfl, rfl, rfl, rfl⟩
  · have a := c1 i (by omega)
    rw [up_n e, up_n e, up_n e, up_n e, a.1, a.2.1, a.2.2, c7 i i0 (by omega)]
    exact hc i i0 (by omega)
theorem c_isFull (hg : isProg g) : zrun 54 [vR g] (I, zRs b, 103, S) = some (some (vI (if I g 6 < 24 then 0 else 1)), (I, zRs b, 103, S)) := by
  rw [run54, e54_0 hg]; split <;> rfl
theorem c_isDeep (hg : isProg g) : zrun 55 [vR g] (I, zRs b, 103, S) = some (some (vI (if I g 8 < 4 then 0 else 1)), (I, zRs b, 103, S)) := by
  rw [run55, e55_0 hg]; split <;> rfl
/-! a PLAY, a mark -/
theorem c_play (hg : isProg g) (hb : bOk D su st) (hc : cI I g D su st) (hn : D 1 < 24) (hv : 0 ≤ v ∧ v < D 0) (h5 : I (g + 1) 5 = D 0) (h4 : I (g + 4) v = mn D v) : ∃ I', zrun 56 [vR g, vI v] (I, zRs b, 103, S) = some (none, (I', zRs b, 103, S)) ∧ cI I' g (adI D 0 v (-4) st.length) (up su (D 1 + 1) (aE (su (D 1)) (mn D v))) st ∧ frB g I I' := by
  obtain ⟨h6, h8, hcl, hsk, htl⟩ := hc
  obtain ⟨hsg, hD, hst, hit, hns, hsu, hbd, hlv⟩ := id hb
  obtain ⟨c1, c2, c3, c4, c5, c6, c7, c8⟩ := ad_c (D := D) (k := 0) (v := v) (p := -4) (d := st.length) hD.1
  obtain ⟨J, j1, j6, j7, j8, j9, jn, jg, jf⟩ := c_addI (I := I) (b := b) (S := S) (k := 0) (v := v) hg h6 h8 ⟨hD.1, hn⟩
  have top := stk_top hsk
  have mb := hsg.2.1 v hv.1 hv.2
  have gr := c_grow (I := J) (b := b) (S := S) (m := st.length) (s := su (D 1)) (w := mn D v) hg (by rw [jg 8 (by decide)]; exact h8) (by omega) (by rw [jf _ (by omega)]; exact top) (hbd _ hD.1 (by omega)) (Or.inr (by omega))
  have v8 : 0 ≤ v ∧ v < 8 := by have := hsg.1; omega
  refine ⟨sI J (g + 12) st.length (aE (su (D 1)) (mn D v)), ?_, ⟨?_, ?_, ?_, ?_, fun o o0 o1 ok os => ?_⟩, fun q hq => ?_⟩
  · rw [run56, e56_0 hg, if_neg (by omega), h5, if_neg (by omega), c_isFull hg, Option.bind_some]
    simp only [zpush_s]
    rw [e56_19 hg, h6, if_pos hn, if_pos rfl, j1, Option.bind_some]
    simp only [zpush_n]
    rw [e56_28 hg, if_pos v8, jf (g + 4) (by omega), h4, gr, Option.bind_some]
    simp only [zpush_n]
    rw [e56_41 hg]
  · rw [sI_o (by omega), jn, c2]
  · rw [sI_o (by omega), jg 8 (by decide), h8]
  · exact cel_add (I := I) rfl hD.1 hcl (by rw [sI_o (by omega)]; exact j6) (by rw [sI_o (by omega)]; exact j7) (by rw [sI_o (by omega)]; exact j8) (by rw [sI_o (by omega)]; exact j9)
  · rw [c2]
    refine stk_c st (D 1) _ (fun j q1 q2 => ⟨?_, ?_⟩) ?_ (fun o ho => ?_) hsk
    · rw [sI_k (by omega), jf _ (by omega)]
    · rw [sI_o (by omega), jf _ (by omega)]
    · rw [sI_s, up_s]
    · have := lvl_mem _ _ hlv o ho; exact up_n (by omega)
  · have o2 : o < D 1 := by
      by_cases e : o = D 1
      · rw [e, c3] at ok; omega
      · omega
    rw [(c1 o o2).1] at ok
    rw [(c1 o o2).2.2, sI_o (by omega), jf _ (by omega), htl o o0 o2 ok os, up_n]
    rcases (hit o o0 o2).2.1 ok with z | z
    · exact absurd z os
    · have := z.2.1; omega
  · rw [sI_o (by omega), jf q (by omega)]
theorem c_mark (hg : isProg g) (hb : bOk D su st) (hc : cI I g D su st) (hn : D 1 < 24) : ∃ I', zrun 57 [vR g, vI v] (I, zRs b, 103, S) = some (none, (I', zRs b, 103, S)) ∧ cI I' g (adI D 1 v (-4) st.length) (up su (D 1 + 1) (su (D 1))) st ∧ frB g I I' := by
  obtain ⟨h6, h8, hcl, hsk, htl⟩ := hc
  obtain ⟨hsg, hD, hst, hit, hns, hsu, hbd, hlv⟩ := id hb
  obtain ⟨c1, c2, c3, c4, c5, c6, c7, c8⟩ := ad_c (D := D) (k := 1) (v := v) (p := -4) (d := st.length) hD.1
  obtain ⟨J, j1, j6, j7, j8, j9, jn, jg, jf⟩ := c_addI (I := I) (b := b) (S := S) (k := 1) (v := v) hg h6 h8 ⟨hD.1, hn⟩
  have top := stk_top hsk
  refine ⟨J, ?_, ⟨?_, ?_, ?_, ?_, fun o o0 o1 ok os => ?_⟩, fun q hq => ?_⟩
  · rw [run57, e57_0 hg, j1, Option.bind_some]
    simp only [zpush_n]
    rw [e57_6 hg]
  · rw [jn, c2]
  · rw [jg 8 (by decide), h8]
  · exact cel_add (I := I) rfl hD.1 hcl j6 j7 j8 j9
  · rw [c2]
    refine stk_c st (D 1) _ (fun j q1 q2 => ⟨?_, ?_⟩) ?_ (fun o ho => ?_) hsk
    · rw [jf _ (by omega)]
    · rw [jf _ (by omega)]
    · rw [jf _ (by omega), up_s]; exact top
    · have := lvl_mem _ _ hlv o ho; exact up_n (by omega)
  · have o2 : o < D 1 := by
      by_cases e : o = D 1
      · rw [e, c3] at ok; omega
      · omega
    rw [(c1 o o2).1] at ok
    rw [(c1 o o2).2.2, jf _ (by omega), htl o o0 o2 ok os, up_n]
    rcases (hit o o0 o2).2.1 ok with z | z
    · exact absurd z os
    · have := z.2.1; omega
  · rw [jf q (by omega)]
/-! a LOOP, an UNTIL -/
theorem c_begins (hg : isProg g) (hb : bOk D su st) (hc : cI I g D su st) (hn : D 1 < 24) (hl : st.length < 4) (hk : k = 2 ∨ k = 3) : ∃ I', zrun 58 [vR g, vI k, vI v] (I, zRs b, 103, S) = some (none, (I', zRs b, 103, S)) ∧ cI I' g (adI D k v (-4) st.length) (up su (D 1 + 1) 0) (D 1 :: st) ∧ frB g I I' := by
  obtain ⟨h6, h8, hcl, hsk, htl⟩ := hc
  obtain ⟨hsg, hD, hst, hit, hns, hsu, hbd, hlv⟩ := id hb
  obtain ⟨c1, c2, c3, c4, c5, c6, c7, c8⟩ := ad_c (D := D) (k := k) (v := v) (p := -4) (d := st.length) hD.1
  obtain ⟨J, j1, j6, j7, j8, j9, jn, jg, jf⟩ := c_addI (I := sI I (g + 11) st.length (D 1)) (b := b) (S := S) (k := k) (v := v) (n := D 1) (m := st.length) hg (by rw [sI_o (by omega)]; exact h6) (by rw [sI_o (by omega)]; exact h8) ⟨hD.1, hn⟩
  have l4 : (0 : Int) ≤ st.length ∧ (st.length : Int) < 4 := by omega
  have l1 : ((D 1 :: st).length : Int) = st.length + 1 := by rw [List.length_cons]; omega
  have j8' : J g 8 = st.length := by rw [jg 8 (by decide), sI_o (by omega)]; exact h8
  refine ⟨sI (sI J g 8 (st.length + 1)) (g + 12) (st.length + 1) 0, ?_, ⟨?_, ?_, ?_, ⟨?_, ?_, ?_⟩, fun o o0 o1 ok os => ?_⟩, fun q hq => ?_⟩
  · rw [run58, e58_0 hg, c_isFull hg, Option.bind_some]
    simp only [zpush_s]
    rw [e58_4 hg, h6, if_pos hn, if_pos rfl, c_isDeep hg, Option.bind_some]
    simp only [zpush_s]
    rw [e58_11 hg, h8, if_pos l4.2, if_pos rfl, if_pos l4, h6, j1, Option.bind_some]
    simp only [zpush_n]
    rw [e58_34 hg, j8', wr_id (by omega) (by omega), if_pos (by omega)]
  · rw [sI_o (by omega), sI_k (by decide), jn, c2]
  · rw [sI_o (by omega), sI_s, l1]
  · exact cel_add (I := I) rfl hD.1 hcl (by rw [sI_o (by omega), sI_o (by omega), j6, sI_o (by omega)]) (by rw [sI_o (by omega), sI_o (by omega), j7, sI_o (by omega)]) (by rw [sI_o (by omega), sI_o (by omega), j8, sI_o (by omega)]) (by rw [sI_o (by omega), sI_o (by omega), j9, sI_o (by omega)])
  · rw [c2, sI_s, up_s]
  · rw [sI_o (by omega), sI_o (by omega), jf _ (by omega), sI_s]
  · refine stk_c st (D 1) _ (fun j q1 q2 => ⟨?_, ?_⟩) ?_ (fun o ho => ?_) hsk
    · rw [sI_k (by omega), sI_o (by omega), jf _ (by omega), sI_o (by omega)]
    · rw [sI_o (by omega), sI_o (by omega), jf _ (by omega), sI_k (by omega)]
    · rw [sI_k (by omega), sI_o (by omega), jf _ (by omega), sI_o (by omega), up_n (by omega)]; exact stk_top hsk
    · have := lvl_mem _ _ hlv o ho; exact up_n (by omega)
  · have os' : o ≠ D 1 ∧ o ∉ st := ⟨fun z => os (by rw [z]; exact List.mem_cons_self), fun z => os (List.mem_cons_of_mem _ z)⟩
    have o2 : o < D 1 := by omega
    rw [(c1 o o2).1] at ok
    rw [(c1 o o2).2.2, sI_o (by omega), sI_o (by omega), jf _ (by omega), sI_o (by omega), htl o o0 o2 ok os'.2, up_n]
    rcases (hit o o0 o2).2.1 ok with z | z
    · exact absurd z os'.2
    · have := z.2.1; omega
  · rw [sI_o (by omega), sI_o (by omega), jf q (by omega), sI_o (by omega)]
/-! an END -/
theorem c_ends (hg : isProg g) (hb : bOk D su (o :: st)) (hc : cI I g D su (o :: st)) (hn : D 1 < 24) (hp : 0 < su (D 1)) : ∃ I', zrun 59 [vR g] (I, zRs b, 103, S) = some (none, (I', zRs b, 103, S)) ∧ cI I' g (enI D o st.length) (up su (D 1 + 1) (aE (su o) (mE D o (su (D 1))))) st ∧ frB g I I' := by
  obtain ⟨h6, h8, hcl, hsk, htl⟩ := hc
  obtain ⟨hsg, hD, hst, hit, hns, hsu, hbd, hlv⟩ := id hb
  have hlt := lvl_lt hlv
  obtain ⟨i1, i2, i3, i4, i5, i6, i7, i8⟩ := id hlv
  obtain ⟨k1, k2, k3⟩ := id hsk
  have l1 : ((o :: st).length : Int) = st.length + 1 := by rw [List.length_cons]; omega
  have l4 : (0 : Int) ≤ st.length ∧ (st.length : Int) < 4 := by rw [List.length_cons] at hst; omega
  have o24 : 0 ≤ o ∧ o < 24 := by omega
  have cO := hcl o i1 i2
  obtain ⟨c1, c2, c3, c4, c5, c6, c7, c8, c9, c10⟩ := en_f (D := D) (d := st.length) hD.1 ⟨i1, i2⟩
  generalize hA : sI (sI (sI I (g + 10) o (su (D 1))) g 8 st.length) (g + 8) o (D 1) = A
  have a6 : A g 6 = D 1 := by rw [← hA, sI_o (by omega), sI_k (by decide), sI_o (by omega)]; exact h6
  have a8 : A g 8 = st.length := by rw [← hA, sI_o (by omega), sI_s]
  have ap : A (g + 8) = up (I (g + 8)) o (D 1) := by rw [← hA, sI_f, sI_o (by omega), sI_o (by omega)]
  have at' : A (g + 10) = up (I (g + 10)) o (su (D 1)) := by rw [← hA, sI_o (by omega), sI_o (by omega), sI_f]
  have af : ∀ q, q ≠ g → q ≠ g + 8 → q ≠ g + 10 → A q = I q := fun q q1 q2 q3 => by rw [← hA, sI_o q2, sI_o q1, sI_o q3]
  obtain ⟨J, j1, j6, j7, j8, j9, jn, jg, jf⟩ := c_addI (I := A) (b := b) (S := S) (k := 4) (v := nb D o) hg a6 a8 ⟨hD.1, hn⟩
  generalize hK : sI J (g + 8) (D 1) o = K
  have kf : ∀ q, q ≠ g + 8 → K q = J q := fun q hq => by rw [← hK, sI_o hq]
  have k8 : K (g + 8) = up (up (I (g + 8)) o (D 1)) (D 1) o := by rw [← hK, sI_f, j8, ap, up_up]
  have kg6 : K g 6 = D 1 + 1 := by rw [kf g (by omega)]; exact jn
  have kg8 : K g 8 = st.length := by rw [kf g (by omega), jg 8 (by decide)]; exact a8
  have kO6 : K (g + 6) o = kd D o := by rw [kf _ (by omega), j6, up_n (by omega), af _ (by omega) (by omega) (by omega)]; exact cO.1
  have kO7 : K (g + 7) o = nb D o := by rw [kf _ (by omega), j7, up_n (by omega), af _ (by omega) (by omega) (by omega)]; exact cO.2.1
  have kO10 : K (g + 10) o = su (D 1) := by rw [kf _ (by omega), jf _ (by omega), at', up_s]
  have nbo : 0 ≤ nb D o ∧ nb D o ≤ 9 := by
    have ko := (hit o i1 i2).1
    rcases i3 with z | z
    · have := ko.2.2.2.1 z; omega
    · have := ko.2.2.2.2 z; omega
  have bn := hbd (D 1) hD.1 (by omega)
  have mEb : mE D o (su (D 1)) = 2147483647 ∨ (0 ≤ mE D o (su (D 1)) ∧ mE D o (su (D 1)) ≤ 22674816) := by
    unfold mE
    split
    · exact Or.inl rfl
    · rename_i z
      rcases bn with y | y
      · exact absurd (Or.inr y) z
      · have m1 : nb D o * su (D 1) ≤ 9 * su (D 1) := Int.mul_le_mul_of_nonneg_right nbo.2 y.1
        have m0 : 0 ≤ nb D o * su (D 1) := Int.mul_nonneg nbo.1 y.1
        exact Or.inr ⟨m0, by omega⟩
  have len : zrun 63 [vR g, vI o] (K, zRs b, 103, S) = some (some (vI (mE D o (su (D 1)))), (K, zRs b, 103, S)) := by
    rw [run63, e63_0 hg, if_pos o24, kO6, kO10, kO7]
    unfold mE at mEb ⊢
    by_cases q1 : kd D o = 3
    · rw [if_pos q1, if_pos (Or.inl q1)]
    · rw [if_neg q1, if_pos o24]
      by_cases q2 : su (D 1) = 2147483647
      · rw [if_pos q2, if_pos (Or.inr q2)]
      · rw [if_neg (show ¬ (kd D o = 3 ∨ su (D 1) = 2147483647) by omega)] at mEb ⊢
        rw [if_neg q2, if_pos o24, if_pos o24, wr_id (by omega) (by omega)]
  have gr := c_grow (I := K) (b := b) (S := S) (m := st.length) (s := su o) (w := mE D o (su (D 1))) hg kg8 (by omega) (by rw [kf _ (by omega), jf _ (by omega), af _ (by omega) (by omega) (by omega)]; exact stk_top k3) (hbd o i1 (by omega)) mEb
  refine ⟨sI K (g + 12) st.length (aE (su o) (mE D o (su (D 1)))), ?_, ⟨?_, ?_, ?_, ?_, fun r r0 r1 rk rs => ?_⟩, fun q hq => ?_⟩
  · rw [run59, e59_0 hg, c_isFull hg, Option.bind_some]
    simp only [zpush_s]
    rw [e59_4 hg, h6, if_pos hn, if_pos rfl, h8, l1, if_pos (by omega), wr_id (a := (st.length : Int) + 1 - 1) (by omega) (by omega), show (st.length : Int) + 1 - 1 = st.length by omega, if_pos l4, if_pos (by omega), k2, if_pos o24, if_pos o24, if_pos o24, k1, cO.2.1, hA, j1, Option.bind_some]
    simp only [zpush_n]
    rw [e59_74 hg, jn, wr_id (by omega) (by omega), show D 1 + 1 - 1 = D 1 by omega, if_pos (by omega), hK, len, Option.bind_some]
    simp only [zpush_s]
    rw [e59_92 hg, gr, Option.bind_some]
    simp only [zpush_n]
    rw [e59_95 hg]
  · rw [sI_o (by omega), kg6, c2]
  · rw [sI_o (by omega), kg8]
  · have ceA : celI (fun q => if q = g + 8 then up (I (g + 8)) o (D 1) else I q) g (up D (140 + 4 * o) (D 1)) := by
      intro i i0 i1
      rw [up_n (by omega)] at i1
      have z := hcl i i0 i1
      simp only [show g + 6 ≠ g + 8 by omega, show g + 7 ≠ g + 8 by omega, show g + 9 ≠ g + 8 by omega, if_false, if_true]
      refine ⟨?_, ?_, ?_, ?_⟩
      · unfold kd; rw [up_n (by omega)]; exact z.1
      · unfold nb; rw [up_n (by omega)]; exact z.2.1
      · unfold pt
        by_cases e : i = o
        · rw [e, up_s, up_s]
        · rw [up_n e, up_n (by omega)]; exact z.2.2.1
      · unfold dp; rw [up_n (by omega)]; exact z.2.2.2
    refine cel_add (I := fun q => if q = g + 8 then up (I (g + 8)) o (D 1) else I q) (n := D 1) (up_n (by omega)) hD.1 ceA ?_ ?_ ?_ ?_
    · simp only [show g + 6 ≠ g + 8 by omega, if_false]; rw [sI_o (by omega), kf _ (by omega), j6, af _ (by omega) (by omega) (by omega)]
    · simp only [show g + 7 ≠ g + 8 by omega, if_false]; rw [sI_o (by omega), kf _ (by omega), j7, af _ (by omega) (by omega) (by omega)]
    · simp only [if_true]; rw [sI_o (by omega), k8]
    · simp only [show g + 9 ≠ g + 8 by omega, if_false]; rw [sI_o (by omega), kf _ (by omega), j9, af _ (by omega) (by omega) (by omega)]
  · rw [c2]
    refine stk_c st o _ (fun j q1 q2 => ⟨?_, ?_⟩) ?_ (fun r hr => ?_) k3
    · rw [sI_k (by omega), kf _ (by omega), jf _ (by omega), af _ (by omega) (by omega) (by omega)]
    · rw [sI_o (by omega), kf _ (by omega), jf _ (by omega), af _ (by omega) (by omega) (by omega)]
    · rw [sI_s, up_s]
    · have := hlt r hr; exact up_n (by omega)
  · have r2 : r < D 1 := by
      by_cases e : r = D 1
      · rw [e, c3] at rk; omega
      · omega
    rw [(c10 r r2).1] at rk
    rw [sI_o (by omega), kf _ (by omega), jf _ (by omega), at']
    by_cases e : r = o
    · rw [e, up_s, c9, up_n (by omega)]
    · have rs' : r ∉ o :: st := fun z => by
        rcases List.mem_cons.mp z with z | z
        · exact e z
        · exact rs z
      rw [up_n e, (c10 r r2).2.2 e, htl r r0 r2 rk rs', up_n]
      rcases (hit r r0 r2).2.1 rk with z | z
      · exact absurd z rs'
      · have := z.2.1; omega
  · rw [sI_o (by omega), kf _ (by omega), jf _ (by omega), af _ (by omega) (by omega) (by omega)]
/-! what was built is what a told program wants -/
theorem c_bld {T : Int → Int} (hb : bOk T su []) (hc : cI I g T su []) (h5 : I (g + 1) 5 = T 0) (h4 : ∀ s, 0 ≤ s → s < T 0 → I (g + 4) s = mn T s) (hp : poolIs T (T 0) (I (g + 3)) (I (g + 5)) (I (g + 2)) (I (g + 1) 4)) : bld I g T := by
  obtain ⟨h6, h8, hcl, hsk, htl⟩ := hc
  obtain ⟨hsg, hD, hst, hit, hns, hsu, hbd, hlv⟩ := id hb
  refine ⟨⟨h6, hcl⟩, ⟨h5, h4, hp⟩, (b_tOk hb).2, su, hsu, fun o o0 o1 z => htl o o0 o1 z List.not_mem_nil, hsk, hbd, fun o o0 o1 z => ?_⟩
  rcases (hit o o0 o1).2.1 z with w | w
  · exact absurd w List.not_mem_nil
  · exact w.2.2.2.2.2
end A58
