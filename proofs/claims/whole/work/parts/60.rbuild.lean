/-! ===== the reference builds ===== -/
def rst (I : Nat → Int → Int) : List Int → Prop
  | [] => True
  | o :: st => I 97 st.length = o ∧ rst I st
def rB (I : Nat → Int → Int) (D : Int → Int) (st : List Int) : Prop := I 89 = D ∧ I 87 19 = st.length ∧ rst I st
section A60
variable {I I' : Nat → Int → Int} {b : Bool} {S : Nat} {D : Int → Int} {k v p m o : Int} {st : List Int}
theorem rst_c : ∀ st : List Int, (∀ j : Int, 0 ≤ j → j < st.length → I' 97 j = I 97 j) → rst I st → rst I' st := by
  intro st
  induction st with
  | nil => exact fun _ _ => trivial
  | cons o st ih =>
    intro h hr
    have l : ((o :: st).length : Int) = st.length + 1 := by rw [List.length_cons]; omega
    exact ⟨by rw [h _ (by omega) (by omega)]; exact hr.1, ih (fun j j0 j1 => h j j0 (by omega)) hr.2⟩
theorem r_item (e89 : I 89 = D) (e19 : I 87 19 = m) (hn : 0 ≤ D 1 ∧ D 1 < 24) : zrun 140 [vR 87, vI k, vI v, vI p] (I, zRs b, 103, S) = some (none, (sP I 89 (adI D k v p m), zRs b, 103, S)) := by
  rw [run140, e140_0, e89, e19, wr_id (a := 4 * D 1) (by omega) (by omega), wr_id (a := 138 + 4 * D 1) (by omega) (by omega), wr_id (a := 138 + 4 * D 1 + 1) (by omega) (by omega), wr_id (a := 138 + 4 * D 1 + 2) (by omega) (by omega), wr_id (a := 138 + 4 * D 1 + 3) (by omega) (by omega), if_pos (by omega), if_pos (by omega), if_pos (by omega), if_pos (by omega)]
  rw [sI_sP (I := I), e89, sIP, sIP, sIP, sP_s, up_n (by omega), up_n (by omega), up_n (by omega), up_n (by omega), wr_id (by omega) (by omega), sIP, show 138 + 4 * D 1 + 1 = 139 + 4 * D 1 by omega, show 138 + 4 * D 1 + 2 = 140 + 4 * D 1 by omega, show 138 + 4 * D 1 + 3 = 141 + 4 * D 1 by omega]
  rfl
theorem r_loop (e89 : I 89 = D) (e19 : I 87 19 = m) (hm : 0 ≤ m ∧ m < 4) (hn : 0 ≤ D 1 ∧ D 1 < 24) : ∃ I', zrun 142 [vR 87, vI k, vI v] (I, zRs b, 103, S) = some (none, (I', zRs b, 103, S)) ∧ I' 89 = adI D k v (-4) m ∧ I' 87 19 = m + 1 ∧ I' 97 = up (I 97) m (D 1) ∧ I' 98 = up (I 98) m 0 ∧ (∀ q, q ≠ 87 → q ≠ 89 → q ≠ 97 → q ≠ 98 → I' q = I q) ∧ ∀ j, j ≠ 19 → I' 87 j = I 87 j := by
  have e1 : adI D k v (-4) m 1 = D 1 + 1 := up_s
  refine ⟨sI (sI (sI (sP I 89 (adI D k v (-4) m)) 97 m (D 1)) 98 m 0) 87 19 (m + 1), ?_, ?_, sI_s, ?_, ?_, fun q q1 q2 q3 q4 => ?_, fun j hj => ?_⟩
  · rw [run142, e142_0, r_item e89 e19 hn, Option.bind_some]
    simp only [zpush_n]
    rw [e142_8, sP_n (by decide), e19, if_pos hm, if_pos hm, sP_s, e1, wr_id (by omega) (by omega), wr_id (by omega) (by omega), show D 1 + 1 - 1 = D 1 by omega]
  · rw [sI_o (by decide), sI_o (by decide), sI_o (by decide), sP_s]
  · rw [sI_o (by decide), sI_o (by decide), sI_f, sP_n (by decide)]
  · rw [sI_o (by decide), sI_f, sI_o (by decide), sP_n (by decide)]
  · rw [sI_o q1, sI_o q4, sI_o q3, sP_n q2]
  · rw [sI_k hj, sI_o (by decide), sI_o (by decide), sP_n (by decide)]
theorem r_endC (e89 : I 89 = D) (e19 : I 87 19 = m + 1) (hm : 0 ≤ m ∧ m < 4) (e97 : I 97 m = o) (ho : 0 ≤ o ∧ o < D 1) (hn : D 1 < 24) : ∃ I', zrun 141 [vR 87] (I, zRs b, 103, S) = some (none, (I', zRs b, 103, S)) ∧ I' 89 = enI D o m ∧ I' 87 19 = m ∧ I' 98 = (if m ≤ 0 then I 98 else up (I 98) (m - 1) (if I 98 (m - 1) = 0 then (if I 98 m = 0 then 0 else 1) else 1)) ∧ (∀ q, q ≠ 87 → q ≠ 89 → q ≠ 98 → I' q = I q) ∧ ∀ j, j ≠ 19 → I' 87 j = I 87 j := by
  generalize hA : sI (sI I 87 19 m) 89 (140 + 4 * o) (D 1) = A
  have a89 : A 89 = up D (140 + 4 * o) (D 1) := by rw [← hA, sI_f, sI_o (by decide), e89]
  have a19 : A 87 19 = m := by rw [← hA, sI_o (by decide), sI_s]
  have ao : ∀ q, q ≠ 87 → q ≠ 89 → A q = I q := fun q q1 q2 => by rw [← hA, sI_o q2, sI_o q1]
  have aj : ∀ j, j ≠ 19 → A 87 j = I 87 j := fun j hj => by rw [← hA, sI_o (by decide), sI_k hj]
  have a1 : up D (140 + 4 * o) (D 1) 1 = D 1 := up_n (by omega)
  have an : A 89 (139 + 4 * o) = nb D o := by rw [a89, up_n (by omega)]; rfl
  have st : zrun 141 [vR 87] (I, zRs b, 103, S) = zX 141 60 [vR 87, vI o] [] (sP A 89 (enI D o m), zRs b, 103, S) := by
    rw [run141, e141_0, e19, wr_id (a := m + 1 - 1) (by omega) (by omega), show m + 1 - 1 = m by omega, e97, wr_id (a := 4 * o) (by omega) (by omega), wr_id (a := 138 + 4 * o) (by omega) (by omega), wr_id (a := 138 + 4 * o + 1) (by omega) (by omega), wr_id (a := 138 + 4 * o + 2) (by omega) (by omega), if_pos hm, if_pos (by omega), if_pos (by omega), e89, show 138 + 4 * o + 2 = 140 + 4 * o by omega, show 138 + 4 * o + 1 = 139 + 4 * o by omega, hA, an, r_item a89 a19 (by rw [a1]; omega), Option.bind_some]
    simp only [zpush_n]
    rfl
  have g19 : sP A 89 (enI D o m) 87 19 = m := by rw [sP_n (by decide)]; exact a19
  have g98 : sP A 89 (enI D o m) 98 = I 98 := by rw [sP_n (by decide)]; exact ao 98 (by decide) (by decide)
  by_cases h0 : m ≤ 0
  · refine ⟨sP A 89 (enI D o m), ?_, sP_s, g19, by rw [if_pos h0]; exact g98, fun q q1 q2 q3 => by rw [sP_n q2]; exact ao q q1 q2, fun j hj => by rw [sP_n (by decide)]; exact aj j hj⟩
    rw [st, e141_60, g19, if_pos h0]
  · refine ⟨sI (sP A 89 (enI D o m)) 98 (m - 1) (if I 98 (m - 1) = 0 then (if I 98 m = 0 then 0 else 1) else 1), ?_, ?_, ?_, ?_, fun q q1 q2 q3 => ?_, fun j hj => ?_⟩
    · have q1 : 0 ≤ m - 1 ∧ m - 1 < 4 := by omega
      rw [st, e141_60, g19, if_neg h0, wr_id (by omega) (by omega), g98]
      simp only [if_pos q1, if_pos hm]
      by_cases c1 : I 98 (m - 1) = 0
      · rw [if_pos c1, if_pos c1]
        by_cases c2 : I 98 m = 0
        · rw [if_pos c2, if_pos c2]
        · rw [if_neg c2, if_neg c2]
      · rw [if_neg c1, if_neg c1]
    · rw [sI_o (by decide), sP_s]
    · rw [sI_o (by decide)]; exact g19
    · rw [if_neg h0, sI_f, g98]
    · rw [sI_o q3, sP_n q2]; exact ao q q1 q2
    · rw [sI_o (by decide), sP_n (by decide)]; exact aj j hj
theorem r_gets : zrun 196 [vR 87] (I, zRs b, 103, S) = some (some (vI (gT (nS (I 87 24)))), (sI I 87 24 (nS (I 87 24)), zRs b, 103, S)) := by
  rw [run196, e196_0, gS]; rfl
theorem c_got {a : Int} (ha : 0 < a) : zrun 15 [vR 6, vI a] (I, zRs b, 103, S) = some (some (vI (gT (nS (I 6 2)) % a)), (sI I 6 2 (nS (I 6 2)), zRs b, 103, S)) := by
  rw [run15, e15_0, if_neg (by omega), if_neg (by omega), gU, tm_em (gT_b _).1]; rfl
end A60
/-! drawn items, purely -/
def dWay (x : Int) (D : Int → Int) : Int := if D 1 < 16 then gT (nS x) % 8 else 7
def dSt (N : Int) (s : Int × (Int → Int) × (Int → Int) × List Int) : Int × (Int → Int) × (Int → Int) × List Int :=
  if dWay s.1 s.2.1 < 3 then (nS (nS s.1), adI s.2.1 0 (gT (nS (nS s.1)) % N) (-4) s.2.2.2.length, up s.2.2.1 (s.2.1 1 + 1) (aE (s.2.2.1 (s.2.1 1)) (mn s.2.1 (gT (nS (nS s.1)) % N))), s.2.2.2)
  else if dWay s.1 s.2.1 = 3 then (nS (nS s.1), adI s.2.1 1 (gT (nS (nS s.1)) % 10) (-4) s.2.2.2.length, up s.2.2.1 (s.2.1 1 + 1) (s.2.2.1 (s.2.1 1)), s.2.2.2)
  else if dWay s.1 s.2.1 < 6 then (if (s.2.2.2.length : Int) < 4 then (nS (nS (nS s.1)), adI (adI s.2.1 (if dWay s.1 s.2.1 = 4 then 2 else 3) (if dWay s.1 s.2.1 = 4 then gT (nS (nS s.1)) % 3 + 1 else gT (nS (nS s.1)) % 4) (-4) s.2.2.2.length) 0 (gT (nS (nS (nS s.1))) % N) (-4) (s.2.2.2.length + 1), up (up s.2.2.1 (s.2.1 1 + 1) 0) (s.2.1 1 + 2) (aE 0 (mn s.2.1 (gT (nS (nS (nS s.1))) % N))), s.2.1 1 :: s.2.2.2) else (nS s.1, s.2.1, s.2.2.1, s.2.2.2))
  else match s.2.2.2 with
    | [] => (nS s.1, s.2.1, s.2.2.1, [])
    | o :: st => (nS s.1, enI s.2.1 o st.length, up s.2.2.1 (s.2.1 1 + 1) (aE (s.2.2.1 o) (mE s.2.1 o (s.2.2.1 (s.2.1 1)))), st)
def psu (su : Int → Int) : List Int → Int → Prop
  | [], _ => True
  | o :: st, x => 0 < su x ∧ psu su st o
def dOk (N : Int) (s : Int × (Int → Int) × (Int → Int) × List Int) : Prop := bOk s.2.1 s.2.2.1 s.2.2.2 ∧ s.2.1 0 = N ∧ psu s.2.2.1 s.2.2.2 (s.2.1 1) ∧ (s.2.1 1 < 16 ∨ s.2.1 1 + s.2.2.2.length ≤ 21) ∧ Z4 s.2.1
def dLp (N : Int) : Nat → (Int × (Int → Int) × (Int → Int) × List Int) → Option (Int × (Int → Int) × (Int → Int) × List Int)
  | 0, s => if 16 ≤ s.2.1 1 ∧ (s.2.2.2.length : Int) ≤ 0 then some s else none
  | n + 1, s => if 16 ≤ s.2.1 1 ∧ (s.2.2.2.length : Int) ≤ 0 then some s else dLp N n (dSt N s)
section B60
variable {D su su' : Int → Int} {st : List Int} {N x : Int}
theorem psu_c : ∀ (st : List Int) (x y : Int), (st ≠ [] → 0 < su' y) → (∀ o, o ∈ st → su' o = su o) → psu su st x → psu su' st y := by
  intro st
  induction st with
  | nil => exact fun _ _ _ _ _ => trivial
  | cons o st ih =>
    intro x y h1 h2 h
    refine ⟨h1 (List.cons_ne_nil _ _), ih o o (fun z => ?_) (fun p hp => h2 p (List.mem_cons_of_mem _ hp)) h.2⟩
    rw [h2 o List.mem_cons_self]
    cases st with
    | nil => exact absurd rfl z
    | cons r st => exact h.2.1
theorem z4_up {f : Int → Int} {k v : Int} (h : Z4 f) (hk : 0 ≤ k ∧ k < 234) : Z4 (up f k v) := fun c hc => by
  rw [up_n (by omega)]; exact h c hc
theorem z4_ad {k v p d : Int} (h : Z4 D) (hn : 0 ≤ D 1 ∧ D 1 < 24) : Z4 (adI D k v p d) := z4_up (z4_up (z4_up (z4_up (z4_up h (by omega)) (by omega)) (by omega)) (by omega)) (by omega)
theorem z4_en {o d : Int} (h : Z4 D) (hn : 0 ≤ D 1 ∧ D 1 < 24) (ho : 0 ≤ o ∧ o < 24) : Z4 (enI D o d) := z4_ad (z4_up h (by omega)) (by rw [up_n (by omega)]; exact hn)
theorem aE_pos {a c : Int} (ha : 0 ≤ a) (hc : 0 ≤ c) (h : 0 < a ∨ 0 < c) : 0 < aE a c := by unfold aE; split <;> omega
theorem su_nn (hb : bOk D su st) {y : Int} (h0 : 0 ≤ y) (h1 : y ≤ D 1) : 0 ≤ su y := by
  rcases hb.2.2.2.2.2.2.1 y h0 h1 with z | z <;> omega
theorem mE_pos (hb : bOk D su st) {o : Int} (ho : 0 ≤ o ∧ o < D 1) (hk : kd D o = 2 ∨ kd D o = 3) (hp : 0 < su (D 1)) : 0 < mE D o (su (D 1)) := by
  unfold mE
  split
  · decide
  · rename_i z
    have ko := (hb.2.2.2.1 o ho.1 ho.2).1
    rcases hk with w | w
    · have := ko.2.2.2.1 w
      exact Int.mul_pos (by omega) hp
    · exact absurd (Or.inl w) z
theorem d_step {s : Int × (Int → Int) × (Int → Int) × List Int} (hN : 1 ≤ N ∧ N ≤ 8) (h : dOk N s) (hs : s.2.1 1 < 16 ∨ 0 < (s.2.2.2.length : Int)) : dOk N (dSt N s) ∧ ∀ c, c < 138 → c ≠ 1 → (dSt N s).2.1 c = s.2.1 c := by
  obtain ⟨x, D, su, st⟩ := s
  obtain ⟨hb, h0, hp, hl, hz⟩ := h
  simp only at hb h0 hp hl hz hs
  have hD := hb.2.1
  have lvl0 := hb.2.2.2.2.2.2.2
  have w8 : 0 ≤ gT (nS x) % 8 ∧ gT (nS x) % 8 < 8 := by have := gT_b (nS x); omega
  have hn : D 1 < 24 := by omega
  have vN : ∀ y, 0 ≤ gT y % N ∧ gT y % N < D 0 := fun y => by
    rw [h0]; exact ⟨Int.emod_nonneg _ (by omega), Int.emod_lt_of_pos _ (by omega)⟩
  have mnp : ∀ y, 1 ≤ mn D (gT y % N) := fun y => (hb.1.2.1 _ (vN y).1 (vN y).2).1
  unfold dSt
  simp only
  by_cases c1 : dWay x D < 3
  · have d16 : D 1 < 16 := by unfold dWay at c1; split at c1 <;> omega
    rw [if_pos c1]
    have bs := b_simple (d := st.length) hb hn (Or.inl ⟨rfl, vN (nS (nS x))⟩)
    rw [if_pos rfl] at bs
    obtain ⟨a1, a2, _, _, _, _, _, a8⟩ := ad_c (D := D) (k := 0) (v := gT (nS (nS x)) % N) (p := -4) (d := st.length) hD.1
    refine ⟨⟨bs, by simp only; rw [a8 0 (by decide) (by decide)]; exact h0, ?_, ?_, z4_ad hz ⟨hD.1, hn⟩⟩, a8⟩
    · simp only
      rw [a2]
      refine psu_c st (D 1) _ (fun _ => ?_) (fun o ho => up_n (by have := lvl_mem _ _ lvl0 o ho; omega)) hp
      rw [up_s]
      have := mnp (nS (nS x))
      exact aE_pos (su_nn hb hD.1 (by omega)) (by omega) (Or.inr (by omega))
    · simp only
      rw [a2]
      have := hb.2.2.1
      omega
  · rw [if_neg c1]
    by_cases c2 : dWay x D = 3
    · have d16 : D 1 < 16 := by unfold dWay at c2; split at c2 <;> omega
      rw [if_pos c2]
      have t10 : 0 ≤ gT (nS (nS x)) % 10 ∧ gT (nS (nS x)) % 10 ≤ 9 := by have := gT_b (nS (nS x)); omega
      have bs := b_simple (d := st.length) hb hn (Or.inr ⟨rfl, t10⟩)
      rw [if_neg (by decide)] at bs
      obtain ⟨a1, a2, _, _, _, _, _, a8⟩ := ad_c (D := D) (k := 1) (v := gT (nS (nS x)) % 10) (p := -4) (d := st.length) hD.1
      refine ⟨⟨bs, by simp only; rw [a8 0 (by decide) (by decide)]; exact h0, ?_, ?_, z4_ad hz ⟨hD.1, hn⟩⟩, a8⟩
      · simp only
        rw [a2]
        refine psu_c st (D 1) _ (fun z => ?_) (fun o ho => up_n (by have := lvl_mem _ _ lvl0 o ho; omega)) hp
        rw [up_s]
        cases st with
        | nil => exact absurd rfl z
        | cons r st => exact hp.1
      · simp only
        rw [a2]
        have := hb.2.2.1
        omega
    · rw [if_neg c2]
      by_cases c3 : dWay x D < 6
      · have d16 : D 1 < 16 := by unfold dWay at c3; split at c3 <;> omega
        rw [if_pos c3]
        by_cases c4 : (st.length : Int) < 4
        · rw [if_pos c4]
          have kv : ((if dWay x D = 4 then (2 : Int) else 3) = 2 ∧ 1 ≤ (if dWay x D = 4 then gT (nS (nS x)) % 3 + 1 else gT (nS (nS x)) % 4) ∧ (if dWay x D = 4 then gT (nS (nS x)) % 3 + 1 else gT (nS (nS x)) % 4) ≤ 9) ∨ ((if dWay x D = 4 then (2 : Int) else 3) = 3 ∧ 0 ≤ (if dWay x D = 4 then gT (nS (nS x)) % 3 + 1 else gT (nS (nS x)) % 4) ∧ (if dWay x D = 4 then gT (nS (nS x)) % 3 + 1 else gT (nS (nS x)) % 4) ≤ 3) := by
            have := gT_b (nS (nS x))
            split <;> omega
          have bs := b_begin (d := st.length) hb hn (by omega) kv
          obtain ⟨a1, a2, _, _, _, _, _, a8⟩ := ad_c (D := D) (k := if dWay x D = 4 then (2 : Int) else 3) (v := if dWay x D = 4 then gT (nS (nS x)) % 3 + 1 else gT (nS (nS x)) % 4) (p := -4) (d := st.length) hD.1
          generalize hE : adI D (if dWay x D = 4 then (2 : Int) else 3) (if dWay x D = 4 then gT (nS (nS x)) % 3 + 1 else gT (nS (nS x)) % 4) (-4) st.length = E at *
          have e0 : E 0 = D 0 := a8 0 (by decide) (by decide)
          have bp := b_simple (d := st.length + 1) bs (by omega) (Or.inl ⟨rfl, by rw [e0]; exact vN (nS (nS (nS x)))⟩)
          obtain ⟨f1, f2, _, _, _, _, _, f8⟩ := ad_c (D := E) (k := 0) (v := gT (nS (nS (nS x))) % N) (p := -4) (d := st.length + 1) (by omega)
          have em : mn E (gT (nS (nS (nS x))) % N) = mn D (gT (nS (nS (nS x))) % N) := by
            have := vN (nS (nS (nS x)))
            unfold mn; rw [a8 _ (by omega) (by omega)]
          rw [if_pos rfl, a2, up_s, em, show D 1 + 1 + 1 = D 1 + 2 by omega] at bp
          refine ⟨⟨bp, by simp only; rw [f8 0 (by decide) (by decide), e0]; exact h0, ?_, ?_, z4_ad (by rw [← hE]; exact z4_ad hz ⟨hD.1, hn⟩) (by omega)⟩, fun c h1 h2 => (f8 c h1 h2).trans (a8 c h1 h2)⟩
          · simp only
            rw [f2, a2]
            refine ⟨?_, psu_c st (D 1) _ (fun z => ?_) (fun o ho => ?_) hp⟩
            · rw [show D 1 + 1 + 1 = D 1 + 2 by omega, up_s]
              have := mnp (nS (nS (nS x)))
              exact aE_pos (Int.le_refl _) (by omega) (Or.inr (by omega))
            · rw [up_n (by omega), up_n (by omega)]
              cases st with
              | nil => exact absurd rfl z
              | cons r st => exact hp.1
            · have := lvl_mem _ _ lvl0 o ho
              rw [up_n (by omega), up_n (by omega)]
          · simp only
            rw [f2, a2, List.length_cons]
            omega
        · rw [if_neg c4]
          exact ⟨⟨hb, h0, hp, hl, hz⟩, fun _ _ _ => rfl⟩
      · rw [if_neg c3]
        cases st with
        | nil => exact ⟨⟨hb, h0, hp, hl, hz⟩, fun _ _ _ => rfl⟩
        | cons o st =>
          simp only
          have om := lvl_mem _ _ lvl0 o List.mem_cons_self
          have be := b_end (d := st.length) hb hn hp.1
          obtain ⟨_, a2, _, _, _, _, _, a8, _, _⟩ := en_f (D := D) (d := st.length) hD.1 ⟨om.1, om.2.1⟩
          refine ⟨⟨be, by simp only; rw [a8 0 (by decide) (by decide)]; exact h0, ?_, ?_, z4_en hz ⟨hD.1, hn⟩ (by omega)⟩, a8⟩
          · simp only
            rw [a2]
            refine psu_c st o _ (fun _ => ?_) (fun r hr => up_n (by have := lvl_lt lvl0 r hr; omega)) hp.2
            rw [up_s]
            have mp := mE_pos hb ⟨om.1, om.2.1⟩ om.2.2.1 hp.1
            exact aE_pos (su_nn hb om.1 (by omega)) (by omega) (Or.inr mp)
          · simp only
            rw [a2]
            rw [List.length_cons] at hl
            have := hb.2.2.1
            rw [List.length_cons] at this
            omega
end B60
