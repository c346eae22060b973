/-! ===== a new program is told ===== -/
section A55
variable {I : Nat → Int → Int} {b : Bool} {S : Nat} {g : Nat}
theorem mix4 {f h : Int → Int} (hf : Z4 f) (hh : Z4 h) : mix 234 h f = h := by
  funext c
  unfold mix
  split
  · rfl
  · rename_i z; rw [hf c z, hh c z]
theorem r_tkL {f : Int → Int} : ∀ (n : Nat) (a : Int), a = 234 - n → 0 ≤ a → zX 146 2 [vR 87, vI a] [] (sP I 88 (mix a (I 89) f), zRs b, 103, S) = zX 146 34 [vR 87, vI 0] [] (sI (sP I 88 (mix 234 (I 89) f)) 87 3 0, zRs b, 103, S) := by
  intro n
  induction n with
  | zero => intro a e h0; rw [e146_2, if_pos (by omega), show a = 234 by omega]
  | succ n ih =>
    intro a e h0
    rw [e146_2, if_neg (by omega), if_pos (by omega), if_pos (by omega), wr_id (by omega) (by omega), sIP, sP_n (by decide), mix_up h0]
    exact ih _ (by omega) (by omega)
theorem r_tkP {T : Int → Int} (ok : tOk T) : ∀ (n : Nat) (I : Nat → Int → Int) (s : Int), s + n = T 0 → 0 ≤ s → I 88 = T → poolIs T s (I 91) (I 92) (I 90) (I 87 3) → Z0 (I 93) → Z0 (I 99) → ∃ I', zX 146 34 [vR 87, vI s] [] (I, zRs b, 103, S) = some (none, (I', zRs b, 103, S)) ∧ I' 88 = T ∧ poolIs T (T 0) (I' 91) (I' 92) (I' 90) (I' 87 3) ∧ I' 95 0 = 0 ∧ I' 95 1 = 0 ∧ I' 93 = begF T (I 93) ∧ I' 99 = begF T (I 93) ∧ (∀ q, q ≠ 87 → q ≠ 90 → q ≠ 91 → q ≠ 92 → q ≠ 93 → q ≠ 95 → q ≠ 99 → I' q = I q) ∧ ∀ j, j ≠ 3 → j ≠ 21 → I' 87 j = I 87 j := by
  have t0 := ok.1
  intro n
  induction n with
  | zero =>
    intro I s h0 h1 e88 hp z3 z9
    have es : s = T 0 := by omega
    subst es
    have f93 : sI (sI I 95 0 0) 95 1 0 93 = I 93 := by funext j; rw [sI_p (by decide), sI_p (by decide)]
    have f99 : sI (sI I 95 0 0) 95 1 0 99 = I 99 := by funext j; rw [sI_p (by decide), sI_p (by decide)]
    have f88 : sI (sI I 95 0 0) 95 1 0 88 = T := by rw [← e88]; funext j; rw [sI_p (by decide), sI_p (by decide)]
    have rb := r_begins (I := sI (sI I 95 0 0) 95 1 0) (b := b) (S := S) (by rw [f88]; exact ok) (by rw [f93]; exact z3) (by rw [f99]; exact z9)
    rw [f88, f93] at rb
    generalize hK : sP (sP (sI (sI (sI I 95 0 0) 95 1 0) 87 21 1) 99 (begF T (I 93))) 93 (begF T (I 93)) = K at rb
    have fr : ∀ q, q ≠ 87 → q ≠ 93 → q ≠ 95 → q ≠ 99 → K q = I q := fun q q1 q2 q3 q4 => by rw [← hK, sP_n q2, sP_n q4]; funext j; rw [sI_p q1, sI_p q3, sI_p q3]
    have k7 : ∀ j, j ≠ 21 → K 87 j = I 87 j := fun j hj => by rw [← hK, sP_n (by decide), sP_n (by decide), sI_k hj, sI_p (by decide), sI_p (by decide)]
    refine ⟨K, ?_, by rw [fr 88 (by decide) (by decide) (by decide) (by decide)]; exact e88, ?_, ?_, ?_, by rw [← hK, sP_s], by rw [← hK, sP_n (by decide), sP_s], fun q q1 q2 q3 q4 q5 q6 q7 => fr q q1 q5 q6 q7, fun j j1 j2 => k7 j j2⟩
    · rw [e146_34, e88, if_pos (by omega), rb, Option.bind_some]
      simp only [zpush_n]
      rw [e146_73]
    · rw [fr 91 (by decide) (by decide) (by decide) (by decide), fr 92 (by decide) (by decide) (by decide) (by decide), fr 90 (by decide) (by decide) (by decide) (by decide), k7 3 (by decide)]; exact hp
    · rw [← hK, sP_n (by decide), sP_n (by decide), sI_p (by decide), sI_k (by decide), sI_s]
    · rw [← hK, sP_n (by decide), sP_n (by decide), sI_p (by decide), sI_s]
  | succ n ih =>
    intro I s h0 h1 e88 hp z3 z9
    have mm := ok.2.2.1
    have hz : 0 ≤ I 87 3 ∧ I 87 3 ≤ 16 * s := by
      obtain ⟨z, y0, ym, h⟩ := hp
      have zz := pool_z (m := s) (fun t a c => mm t a (by omega)) y0 h s.toNat (by omega)
      rw [show ((s.toNat : Nat) : Int) = s by omega, ym] at zz
      exact ⟨zz.1, zz.2.1⟩
    have ms := mm s h1 (by omega)
    obtain ⟨p, c, J, p1, c1, j1, j2, j3, j4, j5, j6, j7⟩ := r_pools (I := I) (b := b) (S := S) (s := s) (n := mn T s) (by omega) (by rw [e88]) ms (by omega)
    have hadd := pool_add (row := lv (I 88) s) (n := mn T s) (p := p) (c := c) (pl' := J 90) h1 hp (fun t a c => mm t a (by omega)) rfl (fun i _ _ => by rw [e88]) p1 c1 j3
    rw [← j4, ← j5, ← j2] at hadd
    obtain ⟨K, k1, k2, k3, k4, k5, k6, k7, k8, k9⟩ := ih J (s + 1) (by omega) (by omega) (by rw [j6 88 (by decide) (by decide) (by decide) (by decide)]; exact e88) hadd (by rw [j6 93 (by decide) (by decide) (by decide) (by decide)]; exact z3) (by rw [j6 99 (by decide) (by decide) (by decide) (by decide)]; exact z9)
    rw [j6 93 (by decide) (by decide) (by decide) (by decide)] at k6 k7
    refine ⟨K, ?_, k2, k3, k4, k5, k6, k7, fun q q1 q2 q3 q4 q5 q6 q7 => (k8 q q1 q2 q3 q4 q5 q6 q7).trans (j6 q q1 q2 q3 q4), fun j h1 h2 => (k9 j h1 h2).trans (j7 j h1)⟩
    rw [e146_34, e88, if_neg (by omega), j1, Option.bind_some]
    simp only [zpush_n]
    rw [e146_49, wr_id (by omega) (by omega), k1]
theorem r_takes {T : Int → Int} (ok : tOk T) (e89 : I 89 = T) (z4 : Z4 (I 88)) (z4' : Z4 T) (z3 : Z0 (I 93)) (z9 : Z0 (I 99)) : ∃ I', zrun 146 [vR 87] (I, zRs b, 103, S) = some (none, (I', zRs b, 103, S)) ∧ I' 88 = T ∧ poolIs T (T 0) (I' 91) (I' 92) (I' 90) (I' 87 3) ∧ I' 95 0 = 0 ∧ I' 95 1 = 0 ∧ I' 93 = begF T (I 93) ∧ I' 99 = begF T (I 93) ∧ (∀ q, q ≠ 87 → q ≠ 88 → q ≠ 90 → q ≠ 91 → q ≠ 92 → q ≠ 93 → q ≠ 95 → q ≠ 99 → I' q = I q) ∧ ∀ j, j ≠ 3 → j ≠ 21 → I' 87 j = I 87 j := by
  have l := r_tkL (I := I) (b := b) (S := S) (f := I 88) 234 0 (by omega) (by omega)
  rw [mix_0, sP_I, e89, mix4 z4 z4'] at l
  generalize hA : sI (sP I 88 T) 87 3 0 = A at l
  have ao : ∀ q, q ≠ 87 → q ≠ 88 → A q = I q := fun q q1 q2 => by rw [← hA]; funext j; rw [sI_p q1, sP_n q2]
  have a7 : ∀ j, j ≠ 3 → A 87 j = I 87 j := fun j hj => by rw [← hA, sI_k hj, sP_n (by decide)]
  have a88 : A 88 = T := by rw [← hA]; funext j; rw [sI_p (by decide), sP_s]
  have a3 : A 87 3 = 0 := by rw [← hA, sI_s]
  obtain ⟨K, k1, k2, k3, k4, k5, k6, k7, k8, k9⟩ := r_tkP (b := b) (S := S) ok (T 0).toNat A 0 (by have := ok.1; omega) (by omega) a88 ⟨fun _ => 0, rfl, by rw [a3], fun s s0 s1 => by omega⟩ (by rw [ao 93 (by decide) (by decide)]; exact z3) (by rw [ao 99 (by decide) (by decide)]; exact z9)
  rw [ao 93 (by decide) (by decide)] at k6 k7
  exact ⟨K, by rw [run146, e146_0, l, k1], k2, k3, k4, k5, k6, k7, fun q q1 q2 q3 q4 q5 q6 q7 q8 => (k8 q q1 q3 q4 q5 q6 q7 q8).trans (ao q q1 q2), fun j h1 h2 => (k9 j h1 h2).trans (a7 j h1)⟩
/-! what the class has built of a draft -/
def bld (I : Nat → Int → Int) (g : Nat) (T : Int → Int) : Prop := (I g 6 = T 1 ∧ (∀ i, 0 ≤ i → i < T 1 → I (g + 6) i = kd T i ∧ I (g + 7) i = nb T i ∧ I (g + 8) i = pt T i ∧ I (g + 9) i = dp T i)) ∧ (I (g + 1) 5 = T 0 ∧ (∀ s, 0 ≤ s → s < T 0 → I (g + 4) s = mn T s) ∧ poolIs T (T 0) (I (g + 3)) (I (g + 5)) (I (g + 2)) (I (g + 1) 4)) ∧ nOk T ∧ uR I g T
theorem bld_pgm {T : Int → Int} (h : bld I g T) : pgm I g T (I (g + 3)) (I (g + 2)) (I (g + 1) 4) := ⟨h.1.1, h.1.2, h.2.1.1, rfl, fun s s0 s1 => ⟨rfl, h.2.1.2.1 s s0 s1⟩, fun j _ _ => rfl⟩
theorem c_beginNew {T f : Int → Int} (ok : tOk T) (hp : pgm I (zg b) T (I (zg b + 3)) (I (zg b + 2)) (I (zg b + 1) 4)) (hs : ∀ j, 0 ≤ j → j < 5 → I 19 j = f (13 + j)) (hz : Z0 f) : ∃ I', zrun 119 [vR 1] (I, zRs b, 103, S) = some (none, (I', zRs b, 103, S)) ∧ PR I' 8 (begF T f) ∧ laOk (begF T f) ∧ I' 23 0 = 0 ∧ I' 23 1 = 0 ∧ ∀ q, (q < 8 ∨ 21 < q) → q ≠ 23 → I' q = I q := by
  have zz := zg_or b
  generalize hA : sI (sI I 23 0 0) 23 1 0 = A
  have ao : ∀ q, q ≠ 23 → A q = I q := fun q hq => by rw [← hA]; funext j; rw [sI_p hq, sI_p hq]
  obtain ⟨J, j1, j2, j3, j4⟩ := c_begin (I := A) (b := b) (S := S) (zg_or b) ok (pgm_fr (fun q q1 q2 => ao q (by omega)) hp) (fun j j0 j1 => by rw [ao 19 (by decide)]; exact hs j j0 j1) hz
  refine ⟨J, ?_, j2, j3, ?_, ?_, fun q h1 h2 => (j4 q h1).trans (ao q h2)⟩
  · rw [run119, e119_0, e119_2, if_neg (by decide), if_pos (by decide), wr_id (by decide) (by decide), e119_2, if_neg (by decide), if_pos (by decide), wr_id (by decide) (by decide), e119_2, if_pos (by decide)]
    rw [show (0 : Int) + 1 = 1 by rfl, hA, j1, Option.bind_some]
    simp only [zpush_n]
    rw [e119_31]
  · rw [j4 23 (by decide), ← hA, sI_k (by decide), sI_s]
  · rw [j4 23 (by decide), ← hA, sI_s]
theorem Inv_new {N : Int} {J0 F C : Nat → Int → Int} {b' : Bool} {T : Int → Int} (hI : Inv I b N J0) (ok : tOk T) (hb : bld C (zg b') T) (z4 : Z4 T) (ht : iTape F) (h8 : PR C 8 (begF T (I 93))) (hla : laOk (begF T (I 93))) (hC23 : C 23 0 = 0 ∧ C 23 1 = 0) (e88 : F 88 = T) (e89 : Z4 (F 89)) (hpo : poolIs T (T 0) (F 91) (F 92) (F 90) (F 87 3)) (h95 : F 95 0 = 0 ∧ F 95 1 = 0) (e93 : F 93 = begF T (I 93)) (e99 : Z0 (F 99)) (fC : ∀ q, (7 < q ∧ q < 87) → F q = C q) (hm : F 4 1 = F 87 15) (hm2 : F 1 9 = F 87 28) (fI : ∀ q, (78 < q ∧ q < 87) ∨ 100 < q → F q = I q) : Inv F b' (N + 30000) J0 := by
  obtain ⟨_, _, ⟨hR, hv, hz⟩, _, hs, _, hro⟩ := id hI
  have zz := zg_or b'
  have fg : ∀ q, zg b' ≤ q → q ≤ zg b' + 12 → F q = C q := fun q q1 q2 => fC q (by omega)
  have hu := pool_u (by have := ok.1; omega) ok.2.2.1 hb.2.1.2.2 hpo
  have hv1 := hv.1
  obtain ⟨_, _, h13, h14, h15, h16, h17, h7, h8', h4, h6⟩ := hv1
  have bo := beg_ok (pm := F 87 3) (N := N + 30000) ok ⟨h13, h14, h15, h16, h17⟩ hv.2.2.2 (by omega)
  have P : pOk T (F 87 3) (N + 30000) (begF T (I 93)) := ⟨bo.1, hla, bo.2⟩
  have y := pOk_78 P
  have img : ∀ (p : Nat) (k : Int), F 95 k = 0 → F 23 k = 0 → iImg1 F (N + 30000) p k := fun p k h1 h2 => ⟨by rw [h1, h2], Or.inl h1, fun z => by omega⟩
  refine ⟨ht, ?_, ⟨?_, ?_, e99⟩, ⟨img 51 0 h95.1 (by rw [fC 23 (by omega)]; exact hC23.1), img 65 1 h95.2 (by rw [fC 23 (by omega)]; exact hC23.2)⟩, ?_, ⟨hm, hm2, by rw [e88]; exact z4, e89⟩, fun q hq => by rw [fI q (by omega)]; exact hro q hq⟩
  · unfold iProg
    rw [e88]
    have pg := bld_pgm hb
    refine ⟨ok, pool_ok ok.1 ok.2.2.1 hpo, ?_, fun s s0 s1 => ?_, hb.2.2.1, ?_⟩
    · unfold pgm
      rw [fg _ (by omega) (by omega), fg (zg b' + 6) (by omega) (by omega), fg (zg b' + 7) (by omega) (by omega), fg (zg b' + 8) (by omega) (by omega), fg (zg b' + 9) (by omega) (by omega), fg (zg b' + 1) (by omega) (by omega), fg (zg b' + 3) (by omega) (by omega), fg (zg b' + 4) (by omega) (by omega), fg (zg b' + 2) (by omega) (by omega)]
      exact ⟨hb.1.1, hb.1.2, hb.2.1.1, hu.1, fun s s0 s1 => ⟨(hu.2.1 s s0 s1).1, hb.2.1.2.1 s s0 s1⟩, fun j j0 j1 => hu.2.2 j j0 (by rw [hu.1]; exact j1)⟩
    · rw [fg _ (by omega) (by omega)]; exact (hu.2.1 s s0 s1).2
    · have := hb.2.2.2
      unfold uR at this ⊢
      rw [fg (zg b' + 10) (by omega) (by omega), fg (zg b' + 12) (by omega) (by omega)]
      exact this
  · rw [e93]
    exact PR_c (fun q q1 q2 => fC q (by omega)) (fun _ _ _ => rfl) y.1 y.2 h8
  · rw [e93, e88]; exact P
  · exact iSh_mk (fun k s k0 k1 e => iSh_c (fI s (by omega)) (fI (s + 1) (by omega)) (fI 101 (by omega)) (fI 102 (by omega)) (fI 103 (by omega)) (iSh_of hs ⟨k0, k1⟩ e))
end A55
