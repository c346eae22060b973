/-! ===== the reference reads a text ===== -/
def hpl (I : Nat → Int → Int) (su : Int → Int) : List Int → Int → Prop
  | [], _ => True
  | o :: st, x => (I 98 st.length = if 0 < su x then 1 else 0) ∧ hpl I su st o
def rRp (I : Nat → Int → Int) (t : Int → Int) (n : Int) (c : Cf) : Prop := rB I c.2.2.1 c.2.2.2.2.1 ∧ hpl I c.2.2.2.1 c.2.2.2.2.1 (c.2.2.1 1) ∧ tpR I t n ∧ rT I t n c.2.1
def frP (I I' : Nat → Int → Int) : Prop := (∀ q, q ≠ 87 → q ≠ 89 → q ≠ 97 → q ≠ 98 → I' q = I q) ∧ ∀ j, (j < 11 ∨ (16 < j ∧ j ≠ 19)) → I' 87 j = I 87 j
def Dd (I : Nat → Int → Int) (r : Int × Int × Cf) : Prop := Z4 (I 89) ∧ 0 < r.1 ∧ I 87 15 = r.1 ∧ I 87 16 = r.2.1
def Out (I : Nat → Int → Int) (t : Int → Int) (n : Int) (m : Nat) (r : Int × Int × Cf) (q : Int) : Prop := Dd I r ∨ ∃ (m2 : Nat) (c2 : Cf), m2 ≤ m ∧ c2.1 = q ∧ rRp I t n c2 ∧ cOk n c2 ∧ tK t n c2.2.1 ≠ 4 ∧ r = pz t n m2 c2
section A68
variable {I I' J : Nat → Int → Int} {b : Bool} {S : Nat} {t : Int → Int} {n p : Int} {D su su' : Int → Int} {st : List Int} {ik iv : Int}
theorem hpl_f : ∀ (st : List Int) (x : Int), (∀ j, 0 ≤ j → j < st.length → I' 98 j = I 98 j) → su' x = su x → (∀ o, o ∈ st → su' o = su o) → hpl I su st x → hpl I' su' st x := by
  intro st
  induction st with
  | nil => exact fun _ _ _ _ _ => trivial
  | cons o st ih =>
    intro x h1 h2 h3 h
    have l : ((o :: st).length : Int) = st.length + 1 := by rw [List.length_cons]; omega
    exact ⟨by rw [h1 _ (by omega) (by omega), h2]; exact h.1, ih o (fun j j0 j1 => h1 j j0 (by omega)) (h3 o List.mem_cons_self) (fun r hr => h3 r (List.mem_cons_of_mem _ hr)) h.2⟩
theorem hpl_s : ∀ (st : List Int) (x y : Int), (∀ j, 0 ≤ j → j + 1 < st.length → I' 98 j = I 98 j) → (0 < (st.length : Int) → I' 98 (st.length - 1) = if 0 < su' y then 1 else 0) → (∀ o, o ∈ st → su' o = su o) → hpl I su st x → hpl I' su' st y := by
  intro st
  cases st with
  | nil => exact fun _ _ _ _ _ _ => trivial
  | cons o st =>
    intro x y h1 h2 h3 h
    have l : ((o :: st).length : Int) = st.length + 1 := by rw [List.length_cons]; omega
    refine ⟨?_, hpl_f st o (fun j j0 j1 => h1 j j0 (by omega)) (h3 o List.mem_cons_self) (fun r hr => h3 r (List.mem_cons_of_mem _ hr)) h.2⟩
    have z := h2 (by omega)
    rw [l, show (st.length : Int) + 1 - 1 = st.length by omega] at z
    exact z
theorem frP_t (h1 : frP I I') (h2 : frP I' J) : frP I J := ⟨fun q a c d e => (h2.1 q a c d e).trans (h1.1 q a c d e), fun j hj => (h2.2 j hj).trans (h1.2 j hj)⟩
theorem frP_r : frP I I := ⟨fun _ _ _ _ _ => rfl, fun _ _ => rfl⟩
theorem frP_K (h : frK I I') : frP I I' := ⟨fun q a _ _ _ => h.1 q a, fun j hj => h.2 j (by omega)⟩
theorem frP_9 {v : Int → Int} : frP I (sP I 89 v) := ⟨fun q _ c _ _ => sP_n c, fun j _ => by rw [sP_n (by decide)]⟩
theorem frP_s9 {k v : Int} : frP I (sI I 89 k v) := by rw [sI_sP]; exact frP_9
theorem frP_8 {k v : Int} : frP I (sI I 98 k v) := ⟨fun q _ _ _ e => sI_o e, fun j _ => by rw [sI_o (by decide)]⟩
theorem tpR_P (h : tpR I t n) (hf : frP I I') : tpR I' t n := ⟨by rw [hf.2 10 (by omega)]; exact h.1, fun j j0 j1 => by rw [hf.1 96 (by decide) (by decide) (by decide) (by decide)]; exact h.2 j j0 j1⟩
theorem rT_7 (h : ∀ j, 11 ≤ j → j ≤ 16 → I' 87 j = I 87 j) (hT : rT I t n p) : rT I' t n p := by
  unfold rT
  rw [h 11 (by decide) (by decide), h 12 (by decide) (by decide), h 13 (by decide) (by decide), h 14 (by decide) (by decide), h 15 (by decide) (by decide), h 16 (by decide) (by decide)]
  exact hT
theorem rB_K (h : rB I D st) (hf : frK I I') : rB I' D st := ⟨by rw [hf.1 89 (by decide)]; exact h.1, by rw [hf.2 19 (by omega)]; exact h.2.1, rst_c st (fun j _ _ => by rw [hf.1 97 (by decide)]) h.2.2⟩
theorem hpl_K {x : Int} (h : hpl I su st x) (hf : frK I I') : hpl I' su st x := hpl_f st x (fun j _ _ => by rw [hf.1 98 (by decide)]) rfl (fun _ _ => rfl) h
/-! the pure walk -/
theorem one_p : (0 : Int) < 1 := by decide
theorem pz_4 {m : Nat} {c : Cf} (h9 : (pz t n m c).1 ≠ 9) (h : tK t n c.2.1 = 4) : pz t n m c = (1, tS t n c.2.1, c) := by
  cases m with
  | zero => exact absurd rfl h9
  | succ m =>
    have es : stp t n c = (1, c) := by unfold stp; rw [if_pos h]
    show (if _ then _ else _ : Int × Int × Cf) = _
    rw [es, if_neg (show ¬ (1 : Int) = -1 by decide)]
theorem pz_go {m : Nat} {c d : Cf} (h9 : (pz t n m c).1 ≠ 9) (h : stp t n c = (-1, d)) : ∃ k, m = k + 1 ∧ pz t n m c = pz t n k d ∧ (pz t n k d).1 ≠ 9 := by
  cases m with
  | zero => exact absurd rfl h9
  | succ m =>
    have e : pz t n (m + 1) c = pz t n m d := by
      show (if _ then _ else _ : Int × Int × Cf) = _
      rw [h, if_pos rfl]
    exact ⟨m, rfl, e, by rw [← e]; exact h9⟩
theorem pz_st {m : Nat} {c : Cf} {a : Int} (h9 : (pz t n m c).1 ≠ 9) (h : stp t n c = (a, c)) (ha : a ≠ -1) : pz t n m c = (a, tS t n c.2.1, c) := by
  cases m with
  | zero => exact absurd rfl h9
  | succ m =>
    show (if _ then _ else _ : Int × Int × Cf) = _
    rw [h, if_neg ha]
/-! with a fault all goes by -/
theorem d138 {c : Int} (h : 0 < I 87 15) : zrun 138 [vR 87, vI c] (I, zRs b, 103, S) = some (none, (I, zRs b, 103, S)) := by
  rw [run138, e138_0, if_neg (by omega), e138_17, r_dead h, Option.bind_some]
  simp only [zpush_n]
  rw [e138_21]
theorem d137 {x y : Int} (h : 0 < I 87 15) : zrun 137 [vR 87, vI x, vI y] (I, zRs b, 103, S) = some (some (vI 0), (I, zRs b, 103, S)) := by
  rw [run137, e137_0, if_neg (by omega), e137_25, if_neg (by omega), e137_49, if_neg (by omega), r_dead h, Option.bind_some]
  simp only [zpush_n]
  rw [e137_69]
theorem d144 {w2 w3 : zV} (h : 0 < I 87 15) : zX 144 13 [vR 87, vI 0, w2, w3] [] (I, zRs b, 103, S) = some (none, (I, zRs b, 103, S)) := by
  rw [e144_13, if_pos rfl, if_neg (by omega), e144_171, d138 h, Option.bind_some]
  simp only [zpush_n]
  rw [e144_177]
def fl (I : Nat → Int → Int) (c : Int) : Nat → Int → Int := sI (sI I 87 15 c) 87 16 (I 87 12)
theorem fl_15 {c : Int} : fl I c 87 15 = c := by unfold fl; rw [sI_k (by decide), sI_s]
theorem fl_16 {c : Int} : fl I c 87 16 = I 87 12 := by unfold fl; rw [sI_s]
theorem fl_K {c : Int} : frK I (fl I c) := frK_t (frK_s (by decide)) (frK_s (by decide))
theorem fl_D {c a : Int} {d : Cf} (ha : 0 < a) (hc : c = a) (hT : I 87 12 = tS t n p) (hz : Z4 (I 89)) : Dd (fl I c) (a, tS t n p, d) := ⟨by rw [fl_K.1 89 (by decide)]; exact hz, ha, by rw [fl_15]; exact hc, by rw [fl_16]; exact hT⟩
/-! a number -/
theorem n137_2 {x y : Int} (h0 : I 87 15 = 0) (h : I 87 13 ≠ 2) : zrun 137 [vR 87, vI x, vI y] (I, zRs b, 103, S) = some (some (vI 0), (fl I 2, zRs b, 103, S)) := by
  have f : 0 < fl I 2 87 15 := by rw [fl_15]; decide
  rw [run137, e137_0, if_pos h0, if_neg h, r_reqF h0, Option.bind_some]
  simp only [zpush_n]
  show zX 137 25 _ _ (fl I 2, zRs b, 103, S) = _
  rw [e137_25, if_neg (by omega), e137_49, if_neg (by omega), r_dead f, Option.bind_some]
  simp only [zpush_n]
  rw [e137_69]
theorem n137_3 {x y : Int} (h0 : I 87 15 = 0) (h : I 87 13 = 2) (hv : ¬ (x ≤ I 87 14 ∧ I 87 14 ≤ y)) : zrun 137 [vR 87, vI x, vI y] (I, zRs b, 103, S) = some (some (vI 0), (fl I 3, zRs b, 103, S)) := by
  have f : 0 < fl I 3 87 15 := by rw [fl_15]; decide
  rw [run137, e137_0, if_pos h0, if_pos h, r_reqN (Or.inl (by decide)), Option.bind_some]
  simp only [zpush_n]
  rw [e137_25, if_pos h0, r_in, if_neg hv, Option.bind_some]
  simp only [zpush_s]
  rw [e137_45, r_reqF h0, Option.bind_some]
  simp only [zpush_n]
  show zX 137 49 _ _ (fl I 3, zRs b, 103, S) = _
  rw [e137_49, if_neg (by omega), r_dead f, Option.bind_some]
  simp only [zpush_n]
  rw [e137_69]
theorem n137_g {x y : Int} (ht : tpT t n) (hp : 0 ≤ p ∧ p ≤ n) (hI : tpR I t n) (h11 : I 87 11 = p) (h0 : I 87 15 = 0) (h : I 87 13 = 2) (hv : x ≤ I 87 14 ∧ I 87 14 ≤ y) : ∃ I', zrun 137 [vR 87, vI x, vI y] (I, zRs b, 103, S) = some (some (vI (I 87 14)), (I', zRs b, 103, S)) ∧ rT I' t n p ∧ frK I I' := by
  obtain ⟨J, j1, j2, j3⟩ := r_tok (b := b) (S := S) ht hp hI h11 h0
  refine ⟨J, ?_, j2, j3⟩
  rw [run137, e137_0, if_pos h0, if_pos h, r_reqN (Or.inl (by decide)), Option.bind_some]
  simp only [zpush_n]
  rw [e137_25, if_pos h0, r_in, if_pos hv, Option.bind_some]
  simp only [zpush_s]
  rw [e137_45, r_reqN (Or.inl (by decide)), Option.bind_some]
  simp only [zpush_n]
  rw [e137_49, if_pos h0, j1, Option.bind_some]
  simp only [zpush_n]
  rw [e137_69]
/-! an item behind its name -/
theorem Out_m {m k : Nat} {r : Int × Int × Cf} {q : Int} (h : Out I t n m r q) (hm : m ≤ k) : Out I t n k r q := by
  rcases h with h | ⟨m2, c2, h1, h2⟩
  · exact Or.inl h
  · exact Or.inr ⟨m2, c2, by omega, h2⟩
theorem r_it3 (ht : tpT t n) {m : Nat} (h : cOk n (3, p, D, su, st, ik, iv)) (hr : rRp I t n (3, p, D, su, st, ik, iv)) (h9 : (pz t n m (3, p, D, su, st, ik, iv)).1 ≠ 9) : ∃ I', zX 143 4 [vR 87, vI ik, none] [] (I, zRs b, 103, S) = some (none, (I', zRs b, 103, S)) ∧ Out I' t n m (pz t n m (3, p, D, su, st, ik, iv)) 2 ∧ frP I I' := by
  obtain ⟨rb, rh, rt, rT'⟩ := hr
  simp only at rb rh rt rT'
  have hcOk := h
  obtain ⟨hp, hb, hz, ⟨hq, _, _, h3, _⟩⟩ := h
  simp only at hp hb hz hq h3
  obtain ⟨dn, dk⟩ := h3 trivial
  have hn := ht.1.2
  have hD := hb.2.1
  have hl4 := hb.2.2.1
  have tb := tok_b (t := t) hp
  have pE : 0 ≤ tE t n p ∧ tE t n p ≤ n := by omega
  have z89 : Z4 (I 89) := by rw [rb.1]; exact hz
  have sg := hb.1
  have bnds : (if ik = 2 then (1 : Int) else 0) = (if ik = 2 then 1 else 0) := rfl
  -- the number's bounds
  have step : ∀ (v : Int) (J : Nat → Int → Int), zrun 137 [vR 87, vI (if ik = 2 then 1 else 0), vI (grT D ik)] (I, zRs b, 103, S) = some (some (vI v), (J, zRs b, 103, S)) → zX 143 4 [vR 87, vI ik, none] [] (I, zRs b, 103, S) = if ik = 0 then zX 143 21 [vR 87, vI ik, none] [vI v] (J, zRs b, 103, S) else if ik = 1 then zX 143 71 [vR 87, vI ik, none] [vI v] (J, zRs b, 103, S) else zX 143 115 [vR 87, vI ik, none] [vI v] (J, zRs b, 103, S) := by
    intro v J hj
    have := sg.1
    rw [e143_4, rb.1, wr_id (by omega) (by omega)]
    unfold grT at hj
    by_cases q0 : ik = 0
    · rw [if_pos q0, if_neg (by omega)] at hj
      rw [if_pos q0, if_pos q0, hj, Option.bind_some]
      simp only [zpush_s]
    · rw [if_neg q0] at hj
      rw [if_neg q0, if_neg q0]
      by_cases q1 : ik = 1
      · rw [if_neg (by omega), if_neg (by omega)] at hj
        rw [if_pos q1, if_pos q1, hj, Option.bind_some]
        simp only [zpush_s]
      · rw [if_neg q1, if_neg q1]
        by_cases q2 : ik = 2
        · rw [if_pos q2, if_neg (by omega)] at hj
          rw [if_pos q2, if_pos q2, hj, Option.bind_some]
          simp only [zpush_s]
        · rw [if_neg q2, if_pos (by omega)] at hj
          rw [if_neg q2, if_neg q2, hj, Option.bind_some]
          simp only [zpush_s]
  -- with a fault, behind the number
  have bad : ∀ (v : Int) (J : Nat → Int → Int), 0 < J 87 15 → (if ik = 0 then zX 143 21 [vR 87, vI ik, none] [vI v] (J, zRs b, 103, S) else if ik = 1 then zX 143 71 [vR 87, vI ik, none] [vI v] (J, zRs b, 103, S) else zX 143 115 [vR 87, vI ik, none] [vI v] (J, zRs b, 103, S)) = some (none, (J, zRs b, 103, S)) := by
    intro v J hj
    by_cases q0 : ik = 0
    · rw [if_pos q0, e143_21, if_neg (by omega), e143_169]
    · rw [if_neg q0]
      by_cases q1 : ik = 1
      · rw [if_pos q1, e143_71, if_neg (by omega), e143_87, e143_169]
      · rw [if_neg q1, e143_115, if_neg (by omega), e143_152, if_neg (by omega), e143_165, r_dead hj, Option.bind_some]
        simp only [zpush_n]
        rw [e143_169]
  by_cases k4 : tK t n p = 4
  · have f1 := (rT'.2.2.2 k4).1
    have f2 := (rT'.2.2.2 k4).2
    refine ⟨I, ?_, Or.inl ⟨z89, ?_, ?_, ?_⟩, frP_r⟩
    · rw [step 0 I (d137 (by omega)), bad 0 I (by omega)]
    · rw [pz_4 h9 k4]; exact one_p
    · rw [pz_4 h9 k4]; exact f1
    · rw [pz_4 h9 k4]; exact f2
  · obtain ⟨f0, fs, fv⟩ := rT'.2.2.1 k4
    have es : stp t n (3, p, D, su, st, ik, iv) = st3 t n p D su st ik iv := by
      unfold stp; simp only; rw [if_neg k4, if_neg (by decide), if_neg (by decide), if_neg (by decide), if_pos trivial]
    unfold st3 at es
    by_cases c1 : tK t n p = 1
    · rw [if_pos c1] at es
      have s2 : I 87 13 = 2 := by rw [fs]; exact sor_2.mpr c1
      have v14 := fv c1
      by_cases c2 : (if ik = 2 then 1 else 0) ≤ tV t n p ∧ tV t n p ≤ grT D ik
      · rw [if_pos c2] at es
        obtain ⟨B, b1, b2, b3⟩ := n137_g (b := b) (S := S) (x := if ik = 2 then 1 else 0) (y := grT D ik) ht pE rt rT'.2.1 f0 s2 (by rw [v14]; exact c2)
        rw [v14] at b1
        have go := step _ B b1
        have rbB := rB_K rb b3
        have tB := tpR_c rt b3
        have hB := hpl_K rh b3
        have zB : Z4 (B 89) := by rw [rbB.1]; exact hz
        by_cases k4' : tK t n (tE t n p) = 4
        · have g1 := (b2.2.2.2 k4').1
          have g2 := (b2.2.2.2 k4').2
          refine ⟨B, by rw [go, bad _ B (by omega)], Or.inl ?_, frP_K b3⟩
          by_cases c3 : ik = 0
          · rw [if_pos c3] at es
            obtain ⟨k, _, e2, e3⟩ := pz_go h9 es
            have e4 := pz_4 e3 k4'
            rw [e2, e4]; exact ⟨zB, one_p, g1, g2⟩
          · rw [if_neg c3] at es
            by_cases c4 : ik = 1
            · rw [if_pos c4] at es
              obtain ⟨k, _, e2, e3⟩ := pz_go h9 es
              have e4 := pz_4 e3 k4'
              rw [e2, e4]; exact ⟨zB, one_p, g1, g2⟩
            · rw [if_neg c4] at es
              obtain ⟨k, _, e2, e3⟩ := pz_go h9 es
              have e4 := pz_4 e3 k4'
              rw [e2, e4]; exact ⟨zB, one_p, g1, g2⟩
        · obtain ⟨g0, gs, gv⟩ := b2.2.2.1 k4'
          have cn := fun hs => c_next (t := t) hn hcOk hs
          by_cases c3 : ik = 0
          · rw [if_pos c3] at es go
            have cn' := (cn (by rw [es])).1
            rw [es] at cn'
            obtain ⟨k, e1, e2, e3⟩ := pz_go h9 es
            generalize hC : sP B 89 (adI D 0 (tV t n p) (-4) st.length) = C
            have fC : frP B C := by rw [← hC]; exact frP_9
            have rbC : rB C (adI D 0 (tV t n p) (-4) st.length) st := ⟨by rw [← hC, sP_s], by rw [← hC, sP_n (by decide)]; exact rbB.2.1, rst_c st (fun j _ _ => by rw [← hC, sP_n (by decide)]) rbB.2.2⟩
            have c87 : ∀ j, C 87 j = B 87 j := fun j => by rw [← hC, sP_n (by decide)]
            have c98 : C 98 = B 98 := by rw [← hC, sP_n (by decide)]
            have a1 : adI D 0 (tV t n p) (-4) st.length 1 = D 1 + 1 := up_s
            have sup : 0 < aE (su (D 1)) (mn D (tV t n p)) := by
              have tv := tV_b c1 hp
              have vD : tV t n p < D 0 := by have := c2.2; unfold grT at this; rw [if_pos c3] at this; omega
              have := sg.2.1 _ tv.1 vD
              exact aE_pos (su_nn hb hD.1 (by omega)) (by omega) (Or.inr (by omega))
            have go2 : zX 143 4 [vR 87, vI ik, none] [] (I, zRs b, 103, S) = zX 143 37 [vR 87, vI ik, vI (tV t n p)] [] (C, zRs b, 103, S) := by
              rw [go, e143_21, if_pos g0, r_item rbB.1 rbB.2.1 ⟨hD.1, dn⟩, hC, Option.bind_some]
              simp only [zpush_n]
            have mem : ∀ o, o ∈ st → up su (D 1 + 1) (aE (su (D 1)) (mn D (tV t n p))) o = su o := fun o ho => up_n (by have := lvl_mem _ _ hb.2.2.2.2.2.2.2 o ho; omega)
            by_cases l0 : (st.length : Int) ≤ 0
            · refine ⟨C, ?_, Or.inr ⟨k, _, by omega, ?_, ⟨rbC, ?_, tpR_P tB fC, rT_7 (fun j _ _ => c87 j) b2⟩, cn', k4', e2⟩, frP_t (frP_K b3) fC⟩
              · rw [go2, e143_37, c87 19, rbB.2.1, if_pos l0, e143_169]
              · rfl
              · simp only
                exact hpl_s st (D 1) _ (fun j j0 j1 => by omega) (fun z => by omega) mem hB
            · refine ⟨sI C 98 (st.length - 1) 1, ?_, Or.inr ⟨k, _, by omega, ?_, ⟨⟨by rw [sI_o (by decide)]; exact rbC.1, by rw [sI_o (by decide)]; exact rbC.2.1, rst_c st (fun j _ _ => by rw [sI_o (by decide)]) rbC.2.2⟩, ?_, tpR_P tB (frP_t fC frP_8), rT_7 (fun j _ _ => by rw [sI_o (by decide)]; exact c87 j) b2⟩, cn', k4', e2⟩, frP_t (frP_K b3) (frP_t fC frP_8)⟩
              · rw [go2, e143_37, c87 19, rbB.2.1, if_neg l0, wr_id (by omega) (by omega), if_pos (by omega), e143_169]
              · rfl
              · simp only
                rw [a1]
                refine hpl_s st (D 1) _ (fun j j0 j1 => by rw [sI_k (by omega), c98]) (fun _ => ?_) mem hB
                rw [sI_s, up_s, if_pos sup]
          · rw [if_neg c3] at es go
            by_cases c4 : ik = 1
            · rw [if_pos c4] at es go
              have cn' := (cn (by rw [es])).1
              rw [es] at cn'
              obtain ⟨k, e1, e2, e3⟩ := pz_go h9 es
              generalize hC : sP B 89 (adI D 1 (tV t n p) (-4) st.length) = C
              have fC : frP B C := by rw [← hC]; exact frP_9
              have rbC : rB C (adI D 1 (tV t n p) (-4) st.length) st := ⟨by rw [← hC, sP_s], by rw [← hC, sP_n (by decide)]; exact rbB.2.1, rst_c st (fun j _ _ => by rw [← hC, sP_n (by decide)]) rbB.2.2⟩
              have c87 : ∀ j, C 87 j = B 87 j := fun j => by rw [← hC, sP_n (by decide)]
              have c98 : C 98 = B 98 := by rw [← hC, sP_n (by decide)]
              have a1 : adI D 1 (tV t n p) (-4) st.length 1 = D 1 + 1 := up_s
              refine ⟨C, ?_, Or.inr ⟨k, _, by omega, ?_, ⟨rbC, ?_, tpR_P tB fC, rT_7 (fun j _ _ => c87 j) b2⟩, cn', k4', e2⟩, frP_t (frP_K b3) fC⟩
              · rw [go, e143_71, if_pos g0, r_item rbB.1 rbB.2.1 ⟨hD.1, dn⟩, hC, Option.bind_some]
                simp only [zpush_n]
                rw [e143_87, e143_169]
              · rfl
              · simp only
                rw [a1]
                refine hpl_s st (D 1) _ (fun j _ _ => by rw [c98]) (fun z => ?_) (fun o ho => up_n (by have := lvl_mem _ _ hb.2.2.2.2.2.2.2 o ho; omega)) hB
                rw [c98, up_s]
                cases st with
                | nil => rw [List.length_nil] at z; omega
                | cons o st => have y := hB.1; rw [show (((o :: st).length : Nat) : Int) - 1 = st.length by rw [List.length_cons]; omega]; exact y
            · rw [if_neg c4] at es go
              have cn' := (cn (by rw [es])).1
              rw [es] at cn'
              obtain ⟨k, e1, e2, e3⟩ := pz_go h9 es
              -- the sign ( at tE
              have es4 : stp t n (4, tE t n p, D, su, st, ik, tV t n p) = st4 t n (tE t n p) D su st ik (tV t n p) := by
                unfold stp; simp only; rw [if_neg k4', if_neg (by decide), if_neg (by decide), if_neg (by decide), if_neg (by decide), if_pos trivial]
              unfold st4 at es4
              have go2 : zX 143 4 [vR 87, vI ik, none] [] (I, zRs b, 103, S) = zX 143 130 [vR 87, vI ik, vI (tV t n p)] [vI (if sgT t n (tE t n p) 40 then 1 else 0), vR 87] (B, zRs b, 103, S) := by
                rw [go, e143_115, if_pos g0, r_sign ht pE tB b2 k4', Option.bind_some]
                simp only [zpush_s]
              have deadEnd : ∀ J : Nat → Int → Int, 0 < J 87 15 → zX 143 134 [vR 87, vI ik, vI (tV t n p)] [] (J, zRs b, 103, S) = some (none, (J, zRs b, 103, S)) := fun J hj => by
                have e5 : zX 143 152 [vR 87, vI ik, vI (tV t n p)] [] (J, zRs b, 103, S) = some (none, (J, zRs b, 103, S)) := by
                  rw [e143_152, if_neg (by omega), e143_165, r_dead hj, Option.bind_some]
                  simp only [zpush_n]
                  rw [e143_169]
                rw [e143_134]
                split
                · rw [r_reqN (Or.inr (by omega)), Option.bind_some]
                  simp only [zpush_n]
                  rw [e5]
                · rw [r_reqN (Or.inr (by omega)), Option.bind_some]
                  simp only [zpush_n]
                  rw [e5]
              by_cases c5 : sgT t n (tE t n p) 40
              · rw [if_pos c5] at es4
                have go3 : zX 143 4 [vR 87, vI ik, none] [] (I, zRs b, 103, S) = zX 143 134 [vR 87, vI ik, vI (tV t n p)] [] (B, zRs b, 103, S) := by
                  rw [go2, if_pos c5, e143_130, r_reqN (Or.inl (by decide)), Option.bind_some]
                  simp only [zpush_n]
                by_cases c6 : (st.length : Int) < 4
                · rw [if_pos c6] at es4
                  obtain ⟨k', e1', e2', e3'⟩ := pz_go e3 es4
                  have cn2 := (c_next (t := t) hn cn' (by rw [es4])).1
                  rw [es4] at cn2
                  obtain ⟨C, q1, q2, q3, q4, q5, q6, q7⟩ := r_loop (I := B) (b := b) (S := S) (k := ik) (v := tV t n p) rbB.1 rbB.2.1 ⟨by omega, c6⟩ ⟨hD.1, dn⟩
                  have fC : frP B C := ⟨fun q a c d e => q6 q a c d e, fun j hj => q7 j (by omega)⟩
                  have tb2 := tok_b (t := t) pE
                  obtain ⟨E, x1, x2, x3⟩ := r_tok (b := b) (S := S) (p := tE t n (tE t n p)) ht (by omega) (tpR_P tB fC) (by rw [q7 11 (by decide)]; exact b2.2.1) (by rw [q7 15 (by decide)]; exact g0)
                  have l1 : (((D 1 :: st).length : Nat) : Int) = st.length + 1 := by rw [List.length_cons]; omega
                  have rbC : rB C (adI D ik (tV t n p) (-4) st.length) (D 1 :: st) := ⟨q2, by rw [q3, l1], by rw [q4, up_s], rst_c st (fun j _ j1 => by rw [q4, up_n (by omega)]) rbB.2.2⟩
                  have hpC : hpl C (up su (D 1 + 1) 0) (D 1 :: st) (D 1 + 1) := ⟨by rw [q5, up_s, up_s, if_neg (by decide)], hpl_f st (D 1) (fun j _ j1 => by rw [q5, up_n (by omega)]) (up_n (by omega)) (fun o ho => up_n (by have := lvl_mem _ _ hb.2.2.2.2.2.2.2 o ho; omega)) hB⟩
                  have run : zX 143 4 [vR 87, vI ik, none] [] (I, zRs b, 103, S) = some (none, (E, zRs b, 103, S)) := by
                    rw [go3, e143_134, rbB.2.1, if_neg (by omega), r_reqN (Or.inl (by decide)), Option.bind_some]
                    simp only [zpush_n]
                    rw [e143_152, if_pos g0, q1, Option.bind_some]
                    simp only [zpush_n]
                    rw [e143_165, x1, Option.bind_some]
                    simp only [zpush_n]
                    rw [e143_169]
                  have fE := frP_t (frP_K b3) (frP_t fC (frP_K x3))
                  refine ⟨E, run, ?_, fE⟩
                  rw [e2, e2']
                  by_cases k5 : tK t n (tE t n (tE t n p)) = 4
                  · have e4 := pz_4 e3' k5
                    rw [e4]
                    refine Or.inl ⟨?_, one_p, (x2.2.2.2 k5).1, (x2.2.2.2 k5).2⟩
                    rw [x3.1 89 (by decide), q2]
                    exact z4_ad hz ⟨hD.1, dn⟩
                  · exact Or.inr ⟨k', _, by omega, rfl, ⟨rB_K rbC x3, by
                      simp only
                      rw [show adI D ik (tV t n p) (-4) (st.length : Int) 1 = D 1 + 1 from up_s]
                      exact hpl_K hpC x3, tpR_c (tpR_P tB fC) x3, x2⟩, cn2, k5, rfl⟩
                · rw [if_neg c6] at es4
                  have e4 := pz_st e3 es4 (by decide)
                  refine ⟨fl B 5, ?_, Or.inl (by rw [e2, e4]; exact fl_D (by decide) rfl b2.1 zB), frP_t (frP_K b3) (frP_K fl_K)⟩
                  have f5 : 0 < fl B 5 87 15 := by rw [fl_15]; decide
                  rw [go3, e143_134, rbB.2.1, if_pos (by omega), r_reqF g0, Option.bind_some]
                  simp only [zpush_n]
                  show zX 143 152 _ _ (fl B 5, zRs b, 103, S) = _
                  rw [e143_152, if_neg (by omega), e143_165, r_dead f5, Option.bind_some]
                  simp only [zpush_n]
                  rw [e143_169]
              · rw [if_neg c5] at es4
                have e4 := pz_st e3 es4 (by decide)
                refine ⟨fl B 2, ?_, Or.inl (by rw [e2, e4]; exact fl_D (by decide) rfl b2.1 zB), frP_t (frP_K b3) (frP_K fl_K)⟩
                rw [go2, if_neg c5, e143_130, r_reqF g0, Option.bind_some]
                simp only [zpush_n]
                show zX 143 134 _ _ (fl B 2, zRs b, 103, S) = _
                exact deadEnd _ (by rw [fl_15]; decide)
      · rw [if_neg c2] at es
        have e4 := pz_st h9 es (by decide)
        refine ⟨fl I 3, ?_, Or.inl (by rw [e4]; exact fl_D (by decide) rfl rT'.1 z89), frP_K fl_K⟩
        rw [step 0 (fl I 3) (n137_3 f0 s2 (by rw [v14]; exact c2)), bad 0 _ (by rw [fl_15]; decide)]
    · rw [if_neg c1] at es
      have e4 := pz_st h9 es (by decide)
      refine ⟨fl I 2, ?_, Or.inl (by rw [e4]; exact fl_D (by decide) rfl rT'.1 z89), frP_K fl_K⟩
      rw [step 0 (fl I 2) (n137_2 f0 (fun z => c1 (sor_2.mp (by rw [← fs]; exact z)))), bad 0 _ (by rw [fl_15]; decide)]
end A68
