/-! ===== the reference reads a program, segments, a whole text ===== -/
def Fin' (I : Nat → Int → Int) (r : Int × Int × Cf) : Prop := Z4 (I 89) ∧ ((0 < r.1 ∧ I 87 15 = r.1 ∧ I 87 16 = r.2.1) ∨ (I 87 15 = 0 ∧ I 89 = r.2.2.2.2.1 ∧ r.1 = (if I 87 13 = 0 then 0 else 2) ∧ r.2.1 = I 87 12))
section A69
variable {I I' J : Nat → Int → Int} {b : Bool} {S : Nat} {t : Int → Int} {n p : Int} {D su su' : Int → Int} {st : List Int} {ik iv : Int}
theorem Dd_F {r : Int × Int × Cf} (h : Dd I r) : Fin' I r := ⟨h.1, Or.inl h.2⟩
theorem s138_g (ht : tpT t n) (hp : 0 ≤ p ∧ p ≤ n) (hI : tpR I t n) (hT : rT I t n p) (k4 : tK t n p ≠ 4) {c : Int} (hs : sgT t n p c) : ∃ I', zrun 138 [vR 87, vI c] (I, zRs b, 103, S) = some (none, (I', zRs b, 103, S)) ∧ rT I' t n (tE t n p) ∧ frK I I' := by
  have tb := tok_b (t := t) hp
  obtain ⟨f0, _, _⟩ := hT.2.2.1 k4
  obtain ⟨J, j1, j2, j3⟩ := r_tok (b := b) (S := S) (p := tE t n p) ht (by omega) hI hT.2.1 f0
  refine ⟨J, ?_, j2, j3⟩
  rw [run138, e138_0, if_pos f0, r_sign ht hp hI hT k4, if_pos hs, Option.bind_some]
  simp only [zpush_s]
  rw [e138_13, r_reqN (Or.inl (by decide)), Option.bind_some]
  simp only [zpush_n]
  rw [e138_17, j1, Option.bind_some]
  simp only [zpush_n]
  rw [e138_21]
theorem s138_b (ht : tpT t n) (hp : 0 ≤ p ∧ p ≤ n) (hI : tpR I t n) (hT : rT I t n p) (k4 : tK t n p ≠ 4) {c : Int} (hs : ¬ sgT t n p c) : zrun 138 [vR 87, vI c] (I, zRs b, 103, S) = some (none, (fl I 2, zRs b, 103, S)) := by
  obtain ⟨f0, _, _⟩ := hT.2.2.1 k4
  have f : 0 < fl I 2 87 15 := by rw [fl_15]; decide
  rw [run138, e138_0, if_pos f0, r_sign ht hp hI hT k4, if_neg hs, Option.bind_some]
  simp only [zpush_s]
  rw [e138_13, r_reqF f0, Option.bind_some]
  simp only [zpush_n]
  show zX 138 17 _ _ (fl I 2, zRs b, 103, S) = _
  rw [e138_17, r_dead f, Option.bind_some]
  simp only [zpush_n]
  rw [e138_21]
/-! the program's end -/
theorem r_exit (ht : tpT t n) {m : Nat} {w2 w3 : zV} (h : cOk n (2, p, D, su, st, ik, iv)) (hr : rRp I t n (2, p, D, su, st, ik, iv)) (k4 : tK t n p ≠ 4) (h9 : (pz t n m (2, p, D, su, st, ik, iv)).1 ≠ 9) (hs : (sgT t n p 59 ∧ st = [] ∧ stp t n (2, p, D, su, st, ik, iv) = (-1, (5, tE t n p, D, su, st, ik, iv))) ∨ (¬ (sgT t n p 59 ∧ st = []) ∧ stp t n (2, p, D, su, st, ik, iv) = (2, (2, p, D, su, st, ik, iv)))) : ∃ I', zX 144 13 [vR 87, vI 0, w2, w3] [] (I, zRs b, 103, S) = some (none, (I', zRs b, 103, S)) ∧ Fin' I' (pz t n m (2, p, D, su, st, ik, iv)) ∧ frP I I' := by
  obtain ⟨rb, rh, rt, rT'⟩ := hr
  simp only at rb rh rt rT'
  obtain ⟨hp, hb, hz, _⟩ := h
  simp only at hp hb hz
  have z89 : Z4 (I 89) := by rw [rb.1]; exact hz
  obtain ⟨f0, fs, fv⟩ := rT'.2.2.1 k4
  rcases hs with ⟨s1, s2, s3⟩ | ⟨s1, s2⟩
  · obtain ⟨J, j1, j2, j3⟩ := s138_g (b := b) (S := S) ht hp rt rT' k4 s1
    obtain ⟨k, e1, e2, e3⟩ := pz_go h9 s3
    have l0 : I 87 19 = 0 := by rw [rb.2.1, s2]; rfl
    refine ⟨J, ?_, ?_, frP_K j3⟩
    · rw [e144_13, if_pos rfl, if_pos f0, if_pos l0, r_reqN (Or.inl (by decide)), Option.bind_some]
      simp only [zpush_n]
      rw [e144_171, j1, Option.bind_some]
      simp only [zpush_n]
      rw [e144_177]
    · have j89 : J 89 = D := by rw [j3.1 89 (by decide)]; exact rb.1
      rw [e2]
      by_cases k4' : tK t n (tE t n p) = 4
      · rw [pz_4 e3 k4']
        exact ⟨by rw [j89]; exact hz, Or.inl ⟨one_p, (j2.2.2.2 k4').1, (j2.2.2.2 k4').2⟩⟩
      · obtain ⟨g0, gs, _⟩ := j2.2.2.1 k4'
        have es5 : stp t n (5, tE t n p, D, su, st, ik, iv) = if tK t n (tE t n p) = 3 then (0, (5, tE t n p, D, su, st, ik, iv)) else (2, (5, tE t n p, D, su, st, ik, iv)) := by
          unfold stp; simp only; rw [if_neg k4', if_neg (by decide), if_neg (by decide), if_neg (by decide), if_neg (by decide), if_neg (by decide)]
        by_cases k3 : tK t n (tE t n p) = 3
        · rw [if_pos k3] at es5
          rw [pz_st e3 es5 (by decide)]
          refine ⟨by rw [j89]; exact hz, Or.inr ⟨g0, j89, ?_, j2.1.symm⟩⟩
          simp only
          rw [gs, k3, if_pos (show sor 3 = 0 from rfl)]
        · rw [if_neg k3] at es5
          rw [pz_st e3 es5 (by decide)]
          refine ⟨by rw [j89]; exact hz, Or.inr ⟨g0, j89, ?_, j2.1.symm⟩⟩
          simp only
          have kb := tK_b (t := t) (n := n) (p := tE t n p)
          rw [gs, if_neg]
          unfold sor
          split
          · decide
          · split
            · decide
            · split
              · decide
              · omega
  · rw [pz_st h9 s2 (by decide)]
    refine ⟨fl I 2, ?_, Dd_F (fl_D (by decide) rfl rT'.1 z89), frP_K fl_K⟩
    by_cases l0 : I 87 19 = 0
    · have s0 : st = [] := List.eq_nil_of_length_eq_zero (by have := rb.2.1; omega)
      rw [e144_13, if_pos rfl, if_pos f0, if_pos l0, r_reqN (Or.inl (by decide)), Option.bind_some]
      simp only [zpush_n]
      rw [e144_171, s138_b ht hp rt rT' k4 (fun z => s1 ⟨z, s0⟩), Option.bind_some]
      simp only [zpush_n]
      rw [e144_177]
    · rw [e144_13, if_pos rfl, if_pos f0, if_neg l0, r_reqF f0, Option.bind_some]
      simp only [zpush_n]
      show zX 144 171 _ _ (fl I 2, zRs b, 103, S) = _
      rw [e144_171, d138 (by rw [fl_15]; decide), Option.bind_some]
      simp only [zpush_n]
      rw [e144_177]
theorem r_prog (ht : tpT t n) : ∀ (M m : Nat), m ≤ M → ∀ (I : Nat → Int → Int) (p : Int) (D su : Int → Int) (st : List Int) (ik iv : Int) (w2 w3 : zV), cOk n (2, p, D, su, st, ik, iv) → rRp I t n (2, p, D, su, st, ik, iv) → (pz t n m (2, p, D, su, st, ik, iv)).1 ≠ 9 → ∃ I', zX 144 13 [vR 87, vI (if I 87 15 = 0 then 1 else 0), w2, w3] [] (I, zRs b, 103, S) = some (none, (I', zRs b, 103, S)) ∧ Fin' I' (pz t n m (2, p, D, su, st, ik, iv)) ∧ frP I I' := by
  intro M
  induction M with
  | zero => intro m hm I p D su st ik iv w2 w3 h hr h9; rw [show m = 0 by omega] at h9; exact absurd rfl h9
  | succ M ih =>
    intro m hm I p D su st ik iv w2 w3 h hr h9
    have hcOk := h
    have hrr := hr
    obtain ⟨rb, rh, rt, rT'⟩ := hr
    simp only at rb rh rt rT'
    obtain ⟨hp, hb, hz, _⟩ := h
    simp only at hp hb hz
    have hn := ht.1.2
    have hD := hb.2.1
    have hl4 := hb.2.2.1
    have tb := tok_b (t := t) hp
    have z89 : Z4 (I 89) := by rw [rb.1]; exact hz
    by_cases k4 : tK t n p = 4
    · have f1 := (rT'.2.2.2 k4).1
      rw [pz_4 h9 k4, if_neg (by omega)]
      exact ⟨I, d144 (by omega), ⟨z89, Or.inl ⟨one_p, f1, (rT'.2.2.2 k4).2⟩⟩, frP_r⟩
    · obtain ⟨f0, fs, fv⟩ := rT'.2.2.1 k4
      rw [if_pos f0]
      have es : stp t n (2, p, D, su, st, ik, iv) = st2 t n p D su st ik iv := by
        unfold stp; simp only; rw [if_neg k4, if_neg (by decide), if_neg (by decide), if_pos trivial]
      unfold st2 at es
      have kb := kN_b (t := t) (n := n) (p := p)
      have go : zX 144 13 [vR 87, vI 1, w2, w3] [] (I, zRs b, 103, S) = zX 144 28 [vR 87, vI 1, vI (kN t n p), w3] [vI (if sgT t n p 41 then 1 else 0)] (I, zRs b, 103, S) := by
        rw [e144_13, if_neg (by decide), r_kind ht hp rt rT' k4, Option.bind_some]
        simp only [zpush_s]
        rw [e144_21, r_sign ht hp rt rT' k4, Option.bind_some]
        simp only [zpush_s]
      -- what comes behind an item, an END
      have nxt : ∀ (J : Nat → Int → Int) (a3 : Int), Out J t n M (pz t n m (2, p, D, su, st, ik, iv)) 2 → frP I J → ∃ I', zX 144 131 [vR 87, vI 1, vI (kN t n p), vI a3] [] (J, zRs b, 103, S) = some (none, (I', zRs b, 103, S)) ∧ Fin' I' (pz t n m (2, p, D, su, st, ik, iv)) ∧ frP I I' := by
        intro J a3 hO hf
        rcases hO with hO | ⟨m2, c2, o1, o2, o3, o4, o5, o6⟩
        · refine ⟨J, ?_, Dd_F hO, hf⟩
          have := hO.2.1
          have := hO.2.2.1
          rw [e144_131, if_neg (by omega), d144 (by omega)]
        · obtain ⟨q2, p2, D2, su2, st2', ik2, iv2⟩ := c2
          simp only at o2 o5
          subst o2
          obtain ⟨K, k1, k2, k3⟩ := ih m2 o1 J p2 D2 su2 st2' ik2 iv2 (vI (kN t n p)) (vI a3) o4 o3 (by rw [← o6]; exact h9)
          refine ⟨K, ?_, by rw [o6]; exact k2, frP_t hf k3⟩
          have g0 := (o3.2.2.2.2.2.1 o5).1
          rw [if_pos g0] at k1
          rw [e144_131, if_pos g0, k1]
      have dead80 : ∀ (J : Nat → Int → Int) (a3 : Int), 0 < J 87 15 → (a3 = 0 ∨ (J 87 19 = st.length ∧ 0 < (st.length : Int))) → zX 144 80 [vR 87, vI 1, vI (kN t n p), vI a3] [] (J, zRs b, 103, S) = some (none, (J, zRs b, 103, S)) := by
        intro J a3 hj ha
        have e131 : zX 144 131 [vR 87, vI 1, vI (kN t n p), vI a3] [] (J, zRs b, 103, S) = some (none, (J, zRs b, 103, S)) := by rw [e144_131, if_neg (by omega), d144 hj]
        rw [e144_80]
        by_cases q : a3 = 0
        · rw [if_pos q, if_neg (by omega), e131]
        · have l := ha.resolve_left q
          rw [if_neg q, l.1, wr_id (by omega) (by omega), if_pos (by omega), r_reqN (Or.inr (by omega)), Option.bind_some]
          simp only [zpush_n]
          rw [e144_101, if_neg (by omega), e144_112, r_dead hj, Option.bind_some]
          simp only [zpush_n]
          rw [e144_116, e131]
      by_cases c1 : sgT t n p 41
      · rw [if_pos c1] at es
        have kn : kN t n p = -4 := by
          by_cases q : 0 ≤ kN t n p
          · have := kN_0 q; have := c1.1; omega
          · omega
        cases st with
        | nil =>
          obtain ⟨J, j1, j2, j3⟩ := r_exit (b := b) (S := S) (w2 := vI (kN t n p)) (w3 := vI 0) ht hcOk hrr k4 h9 (Or.inr ⟨fun z => by have := c1.2; have := z.1.2; omega, es⟩)
          refine ⟨J, ?_, j2, j3⟩
          rw [go, if_pos c1, e144_28, if_neg (by decide), rb.2.1, if_pos (by rw [List.length_nil]; decide), if_pos kn, j1]
        | cons o st =>
          rw [stE_c] at es
          have l1 : (((o :: st).length : Nat) : Int) = st.length + 1 := by rw [List.length_cons]; omega
          have hl4' : (st.length : Int) ≤ 3 := by rw [List.length_cons] at hl4; omega
          have h98 : I 98 st.length = if 0 < su (D 1) then 1 else 0 := rh.1
          by_cases c2 : D 1 < 24
          · rw [if_pos c2] at es
            have go2 : zX 144 13 [vR 87, vI 1, w2, w3] [] (I, zRs b, 103, S) = (zrun 129 [vR 87, vI (if 0 < su (D 1) then 1 else 0), vI 6] (I, zRs b, 103, S)).bind (fun q => zX 144 101 [vR 87, vI 1, vI (kN t n p), vI 1] (zpush q.1 []) q.2) := by
              rw [go, if_pos c1, e144_28, if_neg (by decide), rb.2.1, if_neg (by omega), if_pos kn, rb.1, if_neg (by omega), r_reqN (Or.inl (by decide)), Option.bind_some]
              simp only [zpush_n]
              rw [e144_80, if_neg (by decide), rb.2.1, l1, wr_id (by omega) (by omega), show (st.length : Int) + 1 - 1 = st.length by omega, if_pos (by omega), h98]
            by_cases c3 : 0 < su (D 1)
            · rw [if_pos c3] at es go2
              obtain ⟨k, e1, e2, e3⟩ := pz_go h9 es
              have cn := (c_next (t := t) hn hcOk (by rw [es])).1
              rw [es] at cn
              obtain ⟨J, j1, j2, j3, j4, j5, j6⟩ := r_dEnd (b := b) (S := S) hb c2 rb
              have fJ : frP I J := ⟨fun q a c d e => j4.1 q a c d e, fun j hj => j6 j (by omega)⟩
              obtain ⟨K, x1, x2, x3⟩ := r_tok (b := b) (S := S) (p := tE t n p) ht (by omega) (tpR_P rt fJ) (by rw [j6 11 (by decide)]; exact rT'.2.1) (by rw [j6 15 (by decide)]; exact f0)
              have om := lvl_mem _ _ hb.2.2.2.2.2.2.2 o List.mem_cons_self
              have a2 := (en_f (D := D) (d := st.length) hD.1 ⟨om.1, om.2.1⟩).2.1
              have hpJ : hpl J (up su (D 1 + 1) (aE (su o) (mE D o (su (D 1))))) st (D 1 + 1) := by
                refine hpl_s st o _ (fun j j0 j1 => ?_) (fun z => ?_) (fun r hr => up_n (by have := lvl_lt hb.2.2.2.2.2.2.2 r hr; omega)) rh.2
                · rw [j5]
                  split
                  · rfl
                  · rw [up_n (by omega)]
                · have mp := mE_pos hb ⟨om.1, om.2.1⟩ om.2.2.1 c3
                  have ap := aE_pos (a := su o) (c := mE D o (su (D 1))) (su_nn hb om.1 (by omega)) (by omega) (Or.inr mp)
                  rw [j5, if_neg (by omega), up_s, up_s, if_pos ap, h98, if_pos c3]
                  split
                  · rw [if_neg (by decide)]
                  · rfl
              have hO : Out K t n M (pz t n m (2, p, D, su, o :: st, ik, iv)) 2 := by
                rw [e2]
                by_cases k5 : tK t n (tE t n p) = 4
                · rw [pz_4 e3 k5]
                  refine Or.inl ⟨?_, one_p, (x2.2.2.2 k5).1, (x2.2.2.2 k5).2⟩
                  rw [x3.1 89 (by decide), j2.1]
                  exact z4_en hz ⟨hD.1, c2⟩ (by omega)
                · exact Or.inr ⟨k, _, by omega, rfl, ⟨rB_K j2 x3, by simp only; rw [a2]; exact hpl_K hpJ x3, tpR_c (tpR_P rt fJ) x3, x2⟩, cn, k5, rfl⟩
              obtain ⟨F, y1, y2, y3⟩ := nxt K 1 hO (frP_t fJ (frP_K x3))
              refine ⟨F, ?_, y2, y3⟩
              rw [go2, r_reqN (Or.inl (by decide)), Option.bind_some]
              simp only [zpush_n]
              rw [e144_101, if_pos f0, j1, Option.bind_some]
              simp only [zpush_n]
              rw [e144_112, x1, Option.bind_some]
              simp only [zpush_n]
              rw [e144_116, y1]
            · rw [if_neg c3] at es go2
              rw [pz_st h9 es (by decide)]
              refine ⟨fl I 6, ?_, Dd_F (fl_D (by decide) rfl rT'.1 z89), frP_K fl_K⟩
              have f6 : 0 < fl I 6 87 15 := by rw [fl_15]; decide
              rw [go2, r_reqF f0, Option.bind_some]
              simp only [zpush_n]
              show zX 144 101 _ _ (fl I 6, zRs b, 103, S) = _
              rw [e144_101, if_neg (by omega), e144_112, r_dead f6, Option.bind_some]
              simp only [zpush_n]
              rw [e144_116, e144_131, if_neg (by omega), d144 f6]
          · rw [if_neg c2] at es
            rw [pz_st h9 es (by decide)]
            refine ⟨fl I 4, ?_, Dd_F (fl_D (by decide) rfl rT'.1 z89), frP_K fl_K⟩
            rw [go, if_pos c1, e144_28, if_neg (by decide), rb.2.1, if_neg (by omega), if_pos kn, rb.1, if_pos (by omega), r_reqF f0, Option.bind_some]
            simp only [zpush_n]
            show zX 144 80 _ _ (fl I 4, zRs b, 103, S) = _
            exact dead80 _ 1 (by rw [fl_15]; decide) (Or.inr ⟨by rw [fl_K.2 19 (by omega)]; exact rb.2.1, by omega⟩)
      · rw [if_neg c1] at es
        have go2 : zX 144 13 [vR 87, vI 1, w2, w3] [] (I, zRs b, 103, S) = if kN t n p = -4 then zX 144 13 [vR 87, vI 0, vI (kN t n p), vI 0] [] (I, zRs b, 103, S) else if 24 ≤ D 1 then (zrun 129 [vR 87, vI 0, vI 4] (I, zRs b, 103, S)).bind (fun q => zX 144 80 [vR 87, vI 1, vI (kN t n p), vI 0] (zpush q.1 []) q.2) else (zrun 129 [vR 87, vI 1, vI 4] (I, zRs b, 103, S)).bind (fun q => zX 144 80 [vR 87, vI 1, vI (kN t n p), vI 0] (zpush q.1 []) q.2) := by
          rw [go, if_neg c1, e144_28, if_pos rfl, rb.1]
        by_cases c3 : 0 ≤ kN t n p
        · have k0 := kN_0 c3
          rw [if_neg (fun z => by have := z.1.1; omega), if_pos c3] at es
          rw [if_neg (by omega)] at go2
          by_cases c4 : D 1 < 24
          · rw [if_pos c4] at es
            obtain ⟨k, e1, e2, e3⟩ := pz_go h9 es
            have cn := (c_next (t := t) hn hcOk (by rw [es])).1
            rw [es] at cn
            obtain ⟨A, x1, x2, x3⟩ := r_tok (b := b) (S := S) (p := tE t n p) ht (by omega) rt rT'.2.1 f0
            obtain ⟨K, y1, y2, y3⟩ := r_it3 (I := A) (b := b) (S := S) ht (m := k) cn ⟨rB_K rb x3, hpl_K rh x3, tpR_c rt x3, x2⟩ e3
            obtain ⟨F, w1, w2', w3'⟩ := nxt K 0 (by rw [e2]; exact Out_m y2 (by omega)) (frP_t (frP_K x3) y3)
            refine ⟨F, ?_, w2', w3'⟩
            rw [go2, if_neg (by omega), r_reqN (Or.inl (by decide)), Option.bind_some]
            simp only [zpush_n]
            rw [e144_80, if_pos rfl, if_pos f0, run143, e143_0, x1, Option.bind_some]
            simp only [zpush_n]
            rw [y1, Option.bind_some]
            simp only [zpush_n]
            rw [w1]
          · rw [if_neg c4] at es
            rw [pz_st h9 es (by decide)]
            refine ⟨fl I 4, ?_, Dd_F (fl_D (by decide) rfl rT'.1 z89), frP_K fl_K⟩
            rw [go2, if_pos (by omega), r_reqF f0, Option.bind_some]
            simp only [zpush_n]
            show zX 144 80 _ _ (fl I 4, zRs b, 103, S) = _
            exact dead80 _ 0 (by rw [fl_15]; decide) (Or.inl rfl)
        · have kn : kN t n p = -4 := by omega
          rw [if_pos kn] at go2
          have hs : (sgT t n p 59 ∧ st = [] ∧ stp t n (2, p, D, su, st, ik, iv) = (-1, (5, tE t n p, D, su, st, ik, iv))) ∨ (¬ (sgT t n p 59 ∧ st = []) ∧ stp t n (2, p, D, su, st, ik, iv) = (2, (2, p, D, su, st, ik, iv))) := by
            by_cases q : sgT t n p 59 ∧ (st.length : Int) = 0
            · rw [if_pos q] at es
              exact Or.inl ⟨q.1, List.eq_nil_of_length_eq_zero (by omega), es⟩
            · rw [if_neg q, if_neg c3] at es
              exact Or.inr ⟨fun z => q ⟨z.1, by rw [z.2]; rfl⟩, es⟩
          obtain ⟨J, j1, j2, j3⟩ := r_exit (b := b) (S := S) (w2 := vI (kN t n p)) (w3 := vI 0) ht hcOk hrr k4 h9 hs
          exact ⟨J, by rw [go2, j1], j2, j3⟩
/-! levels of a segment -/
theorem r_levs (ht : tpT t n) : ∀ (m : Nat) (I : Nat → Int → Int) (p : Int) (D su : Int → Int) (st : List Int) (ik iv : Int) (w3 : zV), cOk n (1, p, D, su, st, ik, iv) → rRp I t n (1, p, D, su, st, ik, iv) → (pz t n m (1, p, D, su, st, ik, iv)).1 ≠ 9 → ∃ I', zX 139 65 [vR 87, vI (2 + 17 * D 0), vI (if I 87 15 = 0 ∧ (mn D (D 0) = 0 ∨ tK t n p = 1) then 1 else 0), w3] [] (I, zRs b, 103, S) = some (none, (I', zRs b, 103, S)) ∧ Out I' t n m (pz t n m (1, p, D, su, st, ik, iv)) 0 ∧ frP I I' := by
  intro m
  induction m with
  | zero => intro I p D su st ik iv w3 h hr h9; exact absurd rfl h9
  | succ m ih =>
    intro I p D su st ik iv w3 h hr h9
    have hcOk := h
    obtain ⟨rb, rh, rt, rT'⟩ := hr
    simp only at rb rh rt rT'
    obtain ⟨hp, hb, hz, ⟨hq, _, h1, _⟩⟩ := h
    simp only at hp hb hz hq h1
    obtain ⟨⟨d1, dsu, dst⟩, d8, dm, dl, dz⟩ := h1 trivial
    have hn := ht.1.2
    have tb := tok_b (t := t) hp
    have sg := hb.1.1
    have z89 : Z4 (I 89) := by rw [rb.1]; exact hz
    -- a fault, then behind the loop
    have dead : ∀ (J : Nat → Int → Int) (w : zV) (r : Int × Int × Cf), frP I J → J 89 = D → 0 < J 87 15 → 0 < r.1 → J 87 15 = r.1 → J 87 16 = r.2.1 → ∃ I', zX 139 65 [vR 87, vI (2 + 17 * D 0), vI 0, w] [] (J, zRs b, 103, S) = some (none, (I', zRs b, 103, S)) ∧ Out I' t n (m + 1) r 0 ∧ frP I I' := by
      intro J w r hf j89 hj r1 r2 r3
      refine ⟨sI J 89 0 (D 0 + 1), ?_, Or.inl ⟨?_, r1, by rw [sI_o (by decide)]; exact r2, by rw [sI_o (by decide)]; exact r3⟩, frP_t hf frP_s9⟩
      · rw [e139_65, if_pos rfl, d138 hj, Option.bind_some]
        simp only [zpush_n]
        rw [e139_179, j89, wr_id (by omega) (by omega)]
      · rw [sI_f, j89]; exact z4_up hz (by decide)
    have dead115 : ∀ (J : Nat → Int → Int) (w : zV) (v : Int) (r : Int × Int × Cf), frP I J → J 89 = D → 0 < J 87 15 → 0 < r.1 → J 87 15 = r.1 → J 87 16 = r.2.1 → ∃ I', zX 139 115 [vR 87, vI (2 + 17 * D 0), vI 1, w] [vI v] (J, zRs b, 103, S) = some (none, (I', zRs b, 103, S)) ∧ Out I' t n (m + 1) r 0 ∧ frP I I' := by
      intro J w v r hf j89 hj r1 r2 r3
      rw [e139_115, if_neg (by omega), if_neg (by omega)]
      exact dead J (vI v) r hf j89 hj r1 r2 r3
    have fl89 : ∀ c, fl I c 89 = D := fun c => by rw [fl_K.1 89 (by decide)]; exact rb.1
    by_cases k4 : tK t n p = 4
    · have f1 := (rT'.2.2.2 k4).1
      have e4 := pz_4 h9 k4
      rw [e4, if_neg (fun z => by have := z.1; omega)]
      exact dead I w3 _ frP_r rb.1 (by omega) one_p f1 (rT'.2.2.2 k4).2
    · obtain ⟨f0, fs, fv⟩ := rT'.2.2.1 k4
      have es : stp t n (1, p, D, su, st, ik, iv) = st1 t n p D su st ik iv := by
        unfold stp; simp only; rw [if_neg k4, if_neg (by decide), if_pos trivial]
      unfold st1 at es
      by_cases c1 : 0 < mn D (D 0) ∧ sgT t n p 59
      · rw [if_pos c1] at es
        have k2 := c1.2.1
        rw [if_neg (fun z => by have := z.2; omega)]
        obtain ⟨k, e1, e2, e3⟩ := pz_go h9 es
        have cn := (c_next (t := t) hn hcOk (by rw [es])).1
        rw [es] at cn
        obtain ⟨K, x1, x2, x3⟩ := s138_g (b := b) (S := S) ht hp rt rT' k4 c1.2
        have k89 : K 89 = D := by rw [x3.1 89 (by decide)]; exact rb.1
        have f9 : ∀ q, q ≠ 89 → sI K 89 0 (D 0 + 1) q = K q := fun q hq => sI_o hq
        refine ⟨sI K 89 0 (D 0 + 1), ?_, ?_, frP_t (frP_K x3) frP_s9⟩
        · rw [e139_65, if_pos rfl, x1, Option.bind_some]
          simp only [zpush_n]
          rw [e139_179, k89, wr_id (by omega) (by omega)]
        · rw [e2]
          by_cases k5 : tK t n (tE t n p) = 4
          · rw [pz_4 e3 k5]
            exact Or.inl ⟨by rw [sI_f, k89]; exact z4_up hz (by decide), one_p, by rw [f9 87 (by decide)]; exact (x2.2.2.2 k5).1, by rw [f9 87 (by decide)]; exact (x2.2.2.2 k5).2⟩
          · refine Or.inr ⟨k, _, by omega, rfl, ⟨⟨by rw [sI_f, k89], by rw [f9 87 (by decide), x3.2 19 (by omega)]; exact rb.2.1, by simp only; rw [dst]; trivial⟩, by simp only; rw [dst]; trivial, tpR_P (tpR_c rt x3) frP_s9, rT_7 (fun j _ _ => by rw [f9 87 (by decide)]) x2⟩, cn, k5, rfl⟩
      · rw [if_neg c1] at es
        by_cases c2 : tK t n p = 1
        · rw [if_pos c2] at es
          have s2 : I 87 13 = 2 := by rw [fs]; exact sor_2.mpr c2
          have v14 := fv c2
          have tv := tV_b c2 hp
          have m2 : I 89 (2 + 17 * D 0) = mn D (D 0) := by rw [rb.1]; rfl
          rw [if_pos ⟨f0, Or.inr c2⟩]
          by_cases c3 : mn D (D 0) < 16
          · rw [if_pos c3] at es
            obtain ⟨k, e1, e2, e3⟩ := pz_go h9 es
            have ek : k = m := by omega
            subst ek
            have cn := (c_next (t := t) hn hcOk (by rw [es])).1
            rw [es] at cn
            obtain ⟨K, x1, x2, x3⟩ := n137_g (b := b) (S := S) (x := 0) (y := 99) (p := tE t n p) ht (by omega) rt rT'.2.1 f0 s2 (by rw [v14]; exact tv)
            rw [v14] at x1
            have k89 : K 89 = D := by rw [x3.1 89 (by decide)]; exact rb.1
            have go : zX 139 65 [vR 87, vI (2 + 17 * D 0), vI 1, w3] [] (I, zRs b, 103, S) = zX 139 115 [vR 87, vI (2 + 17 * D 0), vI 1, w3] [vI (tV t n p)] (K, zRs b, 103, S) := by
              rw [e139_65, if_neg (by decide), if_pos s2, r_reqN (Or.inl (by decide)), Option.bind_some]
              simp only [zpush_n]
              rw [e139_87, if_pos (by omega), m2, if_neg (by omega), r_reqN (Or.inl (by decide)), Option.bind_some]
              simp only [zpush_n]
              rw [e139_108, x1, Option.bind_some]
              simp only [zpush_s]
            by_cases k5 : tK t n (tE t n p) = 4
            · have e4 := pz_4 e3 k5
              rw [go, e2, e4]
              exact dead115 K w3 _ _ (frP_K x3) k89 (by have := (x2.2.2.2 k5).1; omega) one_p (x2.2.2.2 k5).1 (x2.2.2.2 k5).2
            · obtain ⟨g0, gs, _⟩ := x2.2.2.1 k5
              generalize hC : sI (sI K 89 (3 + 17 * D 0 + mn D (D 0)) (tV t n p)) 89 (2 + 17 * D 0) (mn D (D 0) + 1) = C
              have c89 : C 89 = lvA D (tV t n p) := by rw [← hC, sI_f, sI_f, k89]; rfl
              have co : ∀ q, q ≠ 89 → C q = K q := fun q hq => by rw [← hC, sI_o hq, sI_o hq]
              have c0 : lvA D (tV t n p) 0 = D 0 := lvA_f 0 (by omega) (by omega)
              have fC : frP K C := by rw [← hC]; exact frP_t frP_s9 frP_s9
              have em : mn (lvA D (tV t n p)) (D 0) = mn D (D 0) + 1 := up_s
              obtain ⟨F, y1, y2, y3⟩ := ih C (tE t n p) (lvA D (tV t n p)) su st ik iv (vI (tV t n p)) cn ⟨⟨c89, by rw [co 87 (by decide), x3.2 19 (by omega)]; exact rb.2.1, by simp only; rw [dst]; trivial⟩, by simp only; rw [dst]; trivial, tpR_P (tpR_c rt x3) fC, rT_7 (fun j _ _ => by rw [co 87 (by decide)]) x2⟩ e3
              rw [c0] at y1
              refine ⟨F, ?_, by rw [e2]; exact Out_m y2 (by omega), frP_t (frP_K x3) (frP_t fC y3)⟩
              have kn : K 89 (2 + 17 * D 0) = mn D (D 0) := by rw [k89]; rfl
              have i1 : sI K 89 (3 + 17 * D 0 + mn D (D 0)) (tV t n p) 89 (2 + 17 * D 0) = mn D (D 0) := by rw [sI_k (by omega)]; exact kn
              rw [go, e139_115, if_pos g0, if_pos (by omega), kn, wr_id (a := 2 + 17 * D 0 + 1) (by omega) (by omega), show 2 + 17 * D 0 + 1 + mn D (D 0) = 3 + 17 * D 0 + mn D (D 0) by omega, wr_id (a := 3 + 17 * D 0 + mn D (D 0)) (by omega) (by omega), if_pos (by omega), if_pos (by omega), if_pos (by omega), i1, wr_id (by omega) (by omega), hC, if_pos g0, gs]
              by_cases q : tK t n (tE t n p) = 1
              · rw [if_pos ⟨by rw [co 87 (by decide)]; exact g0, Or.inr q⟩] at y1
                rw [if_pos (sor_2.mpr q), y1]
              · rw [if_neg (fun z => by
                  rcases z.2 with w | w
                  · rw [em] at w; omega
                  · exact q w)] at y1
                rw [if_neg (fun z => q (sor_2.mp z)), y1]
          · rw [if_neg c3] at es
            have e4 := pz_st h9 es (by decide)
            rw [e4]
            have f4 : 0 < fl I 4 87 15 := by rw [fl_15]; decide
            have go : zX 139 65 [vR 87, vI (2 + 17 * D 0), vI 1, w3] [] (I, zRs b, 103, S) = zX 139 115 [vR 87, vI (2 + 17 * D 0), vI 1, w3] [vI 0] (fl I 4, zRs b, 103, S) := by
              rw [e139_65, if_neg (by decide), if_pos s2, r_reqN (Or.inl (by decide)), Option.bind_some]
              simp only [zpush_n]
              rw [e139_87, if_pos (by omega), m2, if_pos (by omega), r_reqF f0, Option.bind_some]
              simp only [zpush_n]
              show zX 139 108 _ _ (fl I 4, zRs b, 103, S) = _
              rw [e139_108, d137 f4, Option.bind_some]
              simp only [zpush_s]
            rw [go]
            exact dead115 (fl I 4) w3 0 _ (frP_K fl_K) (fl89 4) f4 (show (0 : Int) < 4 by decide) fl_15 (by rw [fl_16]; exact rT'.1)
        · rw [if_neg c2] at es
          have e4 := pz_st h9 es (by decide)
          rw [e4]
          have f2 : 0 < fl I 2 87 15 := by rw [fl_15]; decide
          by_cases m0 : mn D (D 0) = 0
          · rw [if_pos ⟨f0, Or.inl m0⟩]
            have go : zX 139 65 [vR 87, vI (2 + 17 * D 0), vI 1, w3] [] (I, zRs b, 103, S) = zX 139 115 [vR 87, vI (2 + 17 * D 0), vI 1, w3] [vI 0] (fl I 2, zRs b, 103, S) := by
              have e108 : zX 139 108 [vR 87, vI (2 + 17 * D 0), vI 1, w3] [] (fl I 2, zRs b, 103, S) = zX 139 115 [vR 87, vI (2 + 17 * D 0), vI 1, w3] [vI 0] (fl I 2, zRs b, 103, S) := by
                rw [e139_108, d137 f2, Option.bind_some]
                simp only [zpush_s]
              rw [e139_65, if_neg (by decide), if_neg (fun z => c2 (sor_2.mp (by rw [← fs]; exact z))), r_reqF f0, Option.bind_some]
              simp only [zpush_n]
              show zX 139 87 _ _ (fl I 2, zRs b, 103, S) = _
              rw [e139_87, if_pos (by omega)]
              split
              · rw [r_reqN (Or.inr (by omega)), Option.bind_some]
                simp only [zpush_n]
                rw [e108]
              · rw [r_reqN (Or.inr (by omega)), Option.bind_some]
                simp only [zpush_n]
                rw [e108]
            rw [go]
            exact dead115 (fl I 2) w3 0 _ (frP_K fl_K) (fl89 2) f2 (show (0 : Int) < 2 by decide) fl_15 (by rw [fl_16]; exact rT'.1)
          · rw [if_neg (fun z => by rcases z.2 with w | w; exact m0 w; exact c2 w)]
            refine ⟨sI (fl I 2) 89 0 (D 0 + 1), ?_, Or.inl ⟨by rw [sI_f, fl89 2]; exact z4_up hz (by decide), show (0 : Int) < 2 by decide, by rw [sI_o (by decide), fl_15], by rw [sI_o (by decide), fl_16]; exact rT'.1⟩, frP_t (frP_K fl_K) frP_s9⟩
            rw [e139_65, if_pos rfl, s138_b ht hp rt rT' k4 (fun z => c1 ⟨by omega, z⟩), Option.bind_some]
            simp only [zpush_n]
            rw [e139_179, fl89 2, wr_id (by omega) (by omega)]
/-! from the first token on -/
theorem r_head (ht : tpT t n) {a1 : Int} : ∀ (M m : Nat), m ≤ M → ∀ (I : Nat → Int → Int) (p : Int) (D su : Int → Int) (st : List Int) (ik iv : Int), cOk n (0, p, D, su, st, ik, iv) → rRp I t n (0, p, D, su, st, ik, iv) → (pz t n m (0, p, D, su, st, ik, iv)).1 ≠ 9 → ∃ I', zX 145 41 [vR 87, vI a1] [] (I, zRs b, 103, S) = zX 145 86 [vR 87, vI a1] [] (I', zRs b, 103, S) ∧ Fin' I' (pz t n m (0, p, D, su, st, ik, iv)) ∧ frP I I' := by
  -- with a fault
  have dead : ∀ J : Nat → Int → Int, 0 < J 87 15 → zX 145 78 [vR 87, vI a1] [] (J, zRs b, 103, S) = zX 145 86 [vR 87, vI a1] [] (J, zRs b, 103, S) := by
    intro J hj
    rw [e145_78, r_dead hj, Option.bind_some]
    simp only [zpush_n]
    rw [e145_82, run144, e144_0, if_neg (by omega), d144 hj, Option.bind_some]
    simp only [zpush_n]
  have dead41 : ∀ J : Nat → Int → Int, 0 < J 87 15 → zX 145 41 [vR 87, vI a1] [] (J, zRs b, 103, S) = zX 145 86 [vR 87, vI a1] [] (J, zRs b, 103, S) := by
    intro J hj
    rw [e145_41, if_neg (by omega), if_neg (by omega), dead J hj]
  intro M
  induction M with
  | zero => intro m hm I p D su st ik iv h hr h9; rw [show m = 0 by omega] at h9; exact absurd rfl h9
  | succ M ih =>
    intro m hm I p D su st ik iv h hr h9
    have hcOk := h
    obtain ⟨rb, rh, rt, rT'⟩ := hr
    simp only at rb rh rt rT'
    obtain ⟨hp, hb, hz, ⟨hq, h0, _⟩⟩ := h
    simp only at hp hb hz hq h0
    obtain ⟨⟨d1, dsu, dst⟩, dz⟩ := h0 trivial
    have hn := ht.1.2
    have tb := tok_b (t := t) hp
    have sg := hb.1.1
    have z89 : Z4 (I 89) := by rw [rb.1]; exact hz
    by_cases k4 : tK t n p = 4
    · have f1 := (rT'.2.2.2 k4).1
      rw [pz_4 h9 k4]
      exact ⟨I, dead41 I (by omega), ⟨z89, Or.inl ⟨one_p, f1, (rT'.2.2.2 k4).2⟩⟩, frP_r⟩
    · obtain ⟨f0, fs, fv⟩ := rT'.2.2.1 k4
      have es : stp t n (0, p, D, su, st, ik, iv) = st0 t n p D su st ik iv := by
        unfold stp; simp only; rw [if_neg k4, if_pos trivial]
      unfold st0 at es
      have go : zX 145 41 [vR 87, vI a1] [] (I, zRs b, 103, S) = zX 145 52 [vR 87, vI a1] [vI (if nmS t n p then 1 else 0)] (I, zRs b, 103, S) := by
        rw [e145_41, if_pos f0, r_isSeg ht hp rt rT' k4, Option.bind_some]
        simp only [zpush_s]
      by_cases c1 : nmG t n p
      · rw [if_pos c1] at es
        have nS : ¬ nmS t n p := fun z => by have := c1.2.1; have := z.2.1; omega
        obtain ⟨k, e1, e2, e3⟩ := pz_go h9 es
        have cn := (c_next (t := t) hn hcOk (by rw [es])).1
        rw [es] at cn
        obtain ⟨A, x1, x2, x3⟩ := r_tok (b := b) (S := S) (p := tE t n p) ht (by omega) rt rT'.2.1 f0
        obtain ⟨F, y1, y2, y3⟩ := r_prog (b := b) (S := S) ht k k (Nat.le_refl _) A (tE t n p) D su st ik iv none none cn ⟨rB_K rb x3, hpl_K rh x3, tpR_c rt x3, x2⟩ e3
        refine ⟨F, ?_, by rw [e2]; exact y2, frP_t (frP_K x3) y3⟩
        have e144 : zrun 144 [vR 87] (A, zRs b, 103, S) = some (none, (F, zRs b, 103, S)) := by
          rw [run144, e144_0]
          by_cases q : A 87 15 = 0
          · rw [if_pos q] at y1 ⊢
            exact y1
          · rw [if_neg q] at y1 ⊢
            exact y1
        rw [go, if_neg nS, e145_52, if_pos rfl, if_pos f0, r_isGo ht hp rt rT' k4, if_pos c1, Option.bind_some]
        simp only [zpush_s]
        rw [e145_74, r_reqN (Or.inl (by decide)), Option.bind_some]
        simp only [zpush_n]
        rw [e145_78, x1, Option.bind_some]
        simp only [zpush_n]
        rw [e145_82, e144, Option.bind_some]
        simp only [zpush_n]
      · rw [if_neg c1] at es
        by_cases c2 : nmS t n p
        · rw [if_pos c2] at es
          by_cases c3 : D 0 < 8
          · rw [if_pos c3] at es
            obtain ⟨k, e1, e2, e3⟩ := pz_go h9 es
            have cn := (c_next (t := t) hn hcOk (by rw [es])).1
            rw [es] at cn
            have m0 := dz (D 0) (Int.le_refl _) c3
            obtain ⟨A, x1, x2, x3⟩ := r_tok (b := b) (S := S) (p := tE t n p) ht (by omega) rt rT'.2.1 f0
            obtain ⟨K, y1, y2, y3⟩ := r_levs (b := b) (S := S) ht k A (tE t n p) D su st ik iv none cn ⟨rB_K rb x3, hpl_K rh x3, tpR_c rt x3, x2⟩ e3
            have a89 : A 89 0 = D 0 := by rw [x3.1 89 (by decide), rb.1]
            have seg : zrun 139 [vR 87] (I, zRs b, 103, S) = some (none, (K, zRs b, 103, S)) := by
              rw [run139, e139_0, rb.1, if_neg (by omega), r_reqN (Or.inl (by decide)), Option.bind_some]
              simp only [zpush_n]
              rw [e139_21, x1, Option.bind_some]
              simp only [zpush_n]
              rw [e139_25, a89, if_neg (by omega), wr_id (a := 17 * D 0) (by omega) (by omega), wr_id (by omega) (by omega)]
              by_cases q : A 87 15 = 0
              · rw [if_pos ⟨q, Or.inl m0⟩] at y1
                rw [if_pos q, y1]
              · rw [if_neg (fun z => q z.1)] at y1
                rw [if_neg q, y1]
            have go2 : zX 145 41 [vR 87, vI a1] [] (I, zRs b, 103, S) = zX 145 41 [vR 87, vI a1] [] (K, zRs b, 103, S) := by
              rw [go, if_pos c2, e145_52, if_neg (by decide), seg, Option.bind_some]
              simp only [zpush_n]
              rw [e145_59]
            have fK := frP_t (frP_K x3) y3
            rcases y2 with hO | ⟨m2, c2', o1, o2, o3, o4, o5, o6⟩
            · refine ⟨K, ?_, by rw [e2]; exact Dd_F hO, fK⟩
              have := hO.2.1
              have := hO.2.2.1
              rw [go2, dead41 K (by omega)]
            · obtain ⟨q2, p2, D2, su2, st2', ik2, iv2⟩ := c2'
              simp only at o2 o5
              subst o2
              obtain ⟨F, w1, w2', w3'⟩ := ih m2 (by omega) K p2 D2 su2 st2' ik2 iv2 o4 o3 (by rw [← o6]; exact e3)
              exact ⟨F, by rw [go2, w1], by rw [e2, o6]; exact w2', frP_t fK w3'⟩
          · rw [if_neg c3] at es
            rw [pz_st h9 es (by decide)]
            have f4 : 0 < fl I 4 87 15 := by rw [fl_15]; decide
            have f89 : fl I 4 89 = D := by rw [fl_K.1 89 (by decide)]; exact rb.1
            -- the segment's reading goes by; one more is counted
            have seg : zrun 139 [vR 87] (I, zRs b, 103, S) = some (none, (sI (fl I 4) 89 0 (D 0 + 1), zRs b, 103, S)) := by
              have e65 : ∀ a : Int, zX 139 65 [vR 87, vI a, vI 0, none] [] (fl I 4, zRs b, 103, S) = some (none, (sI (fl I 4) 89 0 (D 0 + 1), zRs b, 103, S)) := fun a => by
                rw [e139_65, if_pos rfl, d138 f4, Option.bind_some]
                simp only [zpush_n]
                rw [e139_179, f89, wr_id (by omega) (by omega)]
              rw [run139, e139_0, rb.1, if_pos (by omega), r_reqF f0, Option.bind_some]
              simp only [zpush_n]
              show zX 139 21 _ _ (fl I 4, zRs b, 103, S) = _
              rw [e139_21, r_dead f4, Option.bind_some]
              simp only [zpush_n]
              rw [e139_25, f89, if_pos (by omega), if_neg (by omega), e65]
            refine ⟨sI (fl I 4) 89 0 (D 0 + 1), ?_, ⟨by rw [sI_f, f89]; exact z4_up hz (by decide), Or.inl ⟨show (0 : Int) < 4 by decide, by rw [sI_o (by decide), fl_15], by rw [sI_o (by decide), fl_16]; exact rT'.1⟩⟩, frP_t (frP_K fl_K) frP_s9⟩
            rw [go, if_pos c2, e145_52, if_neg (by decide), seg, Option.bind_some]
            simp only [zpush_n]
            rw [e145_59, dead41 _ (by rw [sI_o (by decide), fl_15]; decide)]
        · rw [if_neg c2] at es
          rw [pz_st h9 es (by decide)]
          refine ⟨fl I 2, ?_, Dd_F (fl_D (by decide) rfl rT'.1 z89), frP_K fl_K⟩
          rw [go, if_neg c2, e145_52, if_pos rfl, if_pos f0, r_isGo ht hp rt rT' k4, if_neg c1, Option.bind_some]
          simp only [zpush_s]
          rw [e145_74, r_reqF f0, Option.bind_some]
          simp only [zpush_n]
          show zX 145 78 _ _ (fl I 2, zRs b, 103, S) = _
          exact dead _ (by rw [fl_15]; decide)
end A69
