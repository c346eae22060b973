/-! ===== the calls that play, keep, lay ===== -/
def tN (T fs : Int → Int) : Nat → (Int → Int) → Int → Int
  | 0, f => f
  | n + 1, f => tN T fs n (tiF T fs f)
section A47
variable {I : Nat → Int → Int} {b : Bool} {S : Nat} {N M : Int} {J0 : Nat → Int → Int} {T fs pl f f' : Int → Int} {pm : Int} {g : Nat}
theorem pvB_c (hf : ∀ c, c = 0 ∨ c = 1 ∨ c = 4 ∨ c = 6 ∨ c = 7 ∨ c = 8 ∨ (13 ≤ c ∧ c < 18) → f' c = f c) (h : pvB T f N) : pvB T f' N := by
  obtain ⟨ha, hp, h13, h14, h15, h16, h17, h7, h8, h4, h6⟩ := h
  refine ⟨at_c (hf 0 (by omega)) ha, ph_c (hf 0 (by omega)) (hf 1 (by omega)) hp, ?_, ?_, ?_, ?_, ?_, ?_, ?_, ?_, ?_⟩
  · rw [hf 13 (by omega)]; exact h13
  · rw [hf 14 (by omega)]; exact h14
  · rw [hf 15 (by omega)]; exact h15
  · rw [hf 16 (by omega)]; exact h16
  · rw [hf 17 (by omega)]; exact h17
  · rw [hf 7 (by omega), hf 15 (by omega)]; exact h7
  · rw [hf 8 (by omega)]; exact h8
  · rw [hf 4 (by omega)]; exact h4
  · rw [hf 6 (by omega)]; exact h6
theorem pOk_la {x : Int} (h : pOk T pm N f) (hx : 0 ≤ x ∧ x < 4) : pOk T pm N (up f (9 + x) 1) := by
  obtain ⟨h1, h2, h3, h4⟩ := h
  refine ⟨pvB_c (fun c hc => up_n (by omega)) h1, la_up h2 hx (Or.inr rfl), ?_, fun c hc => by rw [up_n (by omega)]; exact h4 c hc⟩
  rw [up_n (by omega), up_n (by omega)]
  exact dj_c (fun x hx => up_n (by unfold slt at hx; omega)) h3
theorem PR_la {x : Int} (h : PR I 8 f) (hx : 0 ≤ x ∧ x < 4) (h7 : f 7 ≤ 6) (h8 : f 8 ≤ 16) : PR (sI I 9 3 (lav (up f (9 + x) 1))) 8 (up f (9 + x) 1) := by
  obtain ⟨hu, hg, hm, hl⟩ := h
  have fr : ∀ q, q ≠ 9 → sI I 9 3 (lav (up f (9 + x) 1)) q = I q := fun q hq => by funext j; rw [sI_p hq]
  refine ⟨⟨?_, cu_latch hu.2 hx⟩, pgR_c (fun q q1 q2 => fr q (by omega)) h8 h7 (fun c hc => up_n (by omega)) hg, mkR_c (fr _ (by decide)) (fr _ (by decide)) (fr _ (by decide)) (up_n (by omega)) (fun c c1 c2 => up_n (by omega)) hm, plR_c (fr _ (by decide)) (fr _ (by decide)) (fr _ (by decide)) (fun c hc => up_n (by omega)) hl⟩
  rw [sI_k (by decide), up_n (by omega)]
  exact hu.1
theorem c_latchOn {x : Int} (hu : cuR' I 9 f) (hla : laOk f) (hx : 0 ≤ x ∧ x < 4) : zrun 4 [vR 9, vI x] (I, zRs b, 103, S) = some (some (vI (f (9 + x))), (sI I 9 3 (lav (up f (9 + x) 1)), zRs b, 103, S)) := by
  have l := la_bits hla hx
  rw [run4, e4_0 (cc_cur (Or.inl rfl)), hu.2.1, l.2.2]
  rcases la_of hla hx with z | z
  · rw [if_pos (l.1.mpr z), z]
  · rw [if_neg (fun y => by have := l.1.mp y; omega), z]
theorem op_trigger {x : Int} (hI : Inv I b N J0) : opOk 108 191 [vI x] I b S N J0 := by
  obtain ⟨_, _, ⟨hR, hv, hz⟩, _, _, hm, _⟩ := id hI
  have r0 : ∀ J, zrun 191 [vR 87, vI x] (J, zRs b, 103, S) = zX 191 9 [vR 87, vI x, none] [vI (if 0 ≤ x ∧ x ≤ 3 then 1 else 0)] (J, zRs b, 103, S) := fun J => by
    rw [run191, e191_0, r_in, Option.bind_some]
    simp only [zpush_s]
  by_cases h : 0 ≤ x ∧ x < 4
  · have z := pOk_78 hv
    have e93 : sI I 9 3 (lav (up (I 93) (9 + x) 1)) 93 = I 93 := by funext j; rw [sI_p (by decide)]
    refine ⟨I 93 (9 + x), sI I 9 3 (lav (up (I 93) (9 + x) 1)), b, sP (sI I 9 3 (lav (up (I 93) (9 + x) 1))) 93 (up (I 93) (9 + x) 1), ?_, ?_, ?_⟩
    · rw [run108, e108_0, if_neg (by omega), if_pos h.2, c_latchOn hR.1.2 hv.2.1 h, Option.bind_some]
      simp only [zpush_s]
      rw [e108_22]
      rcases la_of hv.2.1 h with z | z
      · rw [if_pos z, z]
      · rw [if_neg (by omega), z]
    · rw [r0, e191_9, z01, if_pos (show 0 ≤ x ∧ x ≤ 3 by omega), wr_id (by omega) (by omega), if_pos (by omega), if_pos (by omega), sI_sP (p := 93), e93]
    · have fr : ∀ q, q ≠ 9 → q ≠ 93 → sP (sI I 9 3 (lav (up (I 93) (9 + x) 1))) 93 (up (I 93) (9 + x) 1) q = I q := fun q q1 q2 => by rw [sP_n q2]; funext j; rw [sI_p q1]
      have P := PR_la hR h z.1 z.2
      refine Inv_play hI (by omega) (fun q hq => fr q (by omega) (by omega)) (fun j _ _ _ => by rw [fr 87 (by decide) (by decide)]) (by rw [fr 1 (by decide) (by decide), fr 87 (by decide) (by decide)]; exact hm.2.1) ⟨?_, ?_, ?_⟩
      · rw [sP_s]
        exact PR_c (fun q q1 q2 => sP_n (by omega)) (fun _ _ _ => rfl) (by rw [up_n (by omega)]; exact z.1) (by rw [up_n (by omega)]; exact z.2) P
      · rw [sP_s, fr 88 (by decide) (by decide), fr 87 (by decide) (by decide)]
        exact pOk_m (pOk_la hv h) (by omega)
      · rw [fr 99 (by decide) (by decide)]; exact hz
  · refine op_ro (-1) hI ?_ ?_
    · rw [run108, e108_0]
      by_cases h2 : x < 0
      · rw [if_pos h2]
      · rw [if_neg h2, if_neg (by omega)]
    · rw [r0, e191_9, z01, if_neg (by omega)]
theorem c_tickL {a1 : Int} (hgb : zg b = g) (hg : g = 25 ∨ g = 38) (ok : tOk T) (po : poolOk T fs pl pm) : ∀ (n : Nat) (I : Nat → Int → Int) (k M : Int) (f : Int → Int), k + n = a1 → 0 ≤ k → a1 ≤ 30 → pgm I g T fs pl pm → PR I 8 f → pOk T pm M f → M + 1000 * n < 2147300000 → ∃ I', zX 104 15 [vR 1, vI a1, vI k] [] (I, zRs b, 103, S) = some (some (vI (tN T fs n f 3)), (I', zRs b, 103, S)) ∧ PR I' 8 (tN T fs n f) ∧ (∀ m : Nat, m ≤ n → pOk T pm (M + 1000 * m) (tN T fs m f)) ∧ ∀ q, q < 8 ∨ 21 < q → I' q = I q := by
  intro n
  induction n with
  | zero =>
    intro I k M f h0 h1 h2 hp hR hv hM
    refine ⟨I, ?_, hR, fun m hm => ?_, fun _ _ => rfl⟩
    · rw [e104_15, if_pos (by omega), show I 8 8 = f 3 from hR.2.2.2.2.2.2.1]; rfl
    · have : m = 0 := by omega
      subst this
      exact pOk_m hv (by omega)
  | succ n ih =>
    intro I k M f h0 h1 h2 hp hR hv hM
    obtain ⟨J, j1, j2, j3, j4⟩ := c_step (b := b) (S := S) hg ok po hp hR hv (by omega)
    have zz := zg_or b
    obtain ⟨K, k1, k2, k3, k4⟩ := ih J (k + 1) (M + 1000) (tiF T fs f) (by omega) (by omega) h2 (pgm_fr (fun q q1 q2 => j4 q (by omega)) hp) j2 j3 (by omega)
    refine ⟨K, ?_, k2, fun m hm => ?_, fun q hq => (k4 q hq).trans (j4 q hq)⟩
    · rw [e104_15, if_neg (by omega), hgb, j1, Option.bind_some]
      simp only [zpush_n]
      rw [e104_31, wr_id (by omega) (by omega), k1]
      rfl
    · cases m with
      | zero => exact pOk_m hv (by omega)
      | succ m =>
        have := k3 m (by omega)
        exact pOk_m this (by omega)
theorem r_tickL {a1 : Int} : ∀ (n : Nat) (I : Nat → Int → Int) (k M : Int), k + n = a1 → 0 ≤ k → a1 ≤ 30 → tOk (I 88) → fsOk (I 88) (I 91) → (∀ m : Nat, m ≤ n → pvB (I 88) (tN (I 88) (I 91) m (I 93)) M ∧ Z0 (tN (I 88) (I 91) m (I 93))) → Z0 (I 99) → M < 2147300000 → ∃ I', zX 187 16 [vR 87, vI a1, vI k] [] (I, zRs b, 103, S) = some (some (vI (tN (I 88) (I 91) n (I 93) 3)), (I', zRs b, 103, S)) ∧ I' 93 = tN (I 88) (I 91) n (I 93) ∧ Z0 (I' 99) ∧ (∀ q, q ≠ 87 → q ≠ 93 → q ≠ 99 → q ≠ 100 → I' q = I q) ∧ ∀ j, j ≠ 21 → j ≠ 23 → I' 87 j = I 87 j := by
  intro n
  induction n with
  | zero =>
    intro I k M h0 h1 h2 ok hfs hv hz hM
    refine ⟨I, ?_, rfl, hz, fun _ _ _ _ _ => rfl, fun _ _ _ => rfl⟩
    rw [e187_16, if_pos (by omega)]; rfl
  | succ n ih =>
    intro I k M h0 h1 h2 ok hfs hv hz hM
    have v0 := hv 0 (by omega)
    obtain ⟨X, Y, e⟩ := r_ticks (b := b) (S := S) ok hfs v0.1 hM v0.2 hz
    generalize hJ : sP (sP (sP (sP I 100 X) 87 (up (up (I 87) 21 1) 23 Y)) 99 (tiF (I 88) (I 91) (I 93))) 93 (tiF (I 88) (I 91) (I 93)) = J at e
    have j93 : J 93 = tiF (I 88) (I 91) (I 93) := by rw [← hJ, sP_s]
    have j99 : J 99 = tiF (I 88) (I 91) (I 93) := by rw [← hJ, sP_n (by decide), sP_s]
    have jf : ∀ q, q ≠ 87 → q ≠ 93 → q ≠ 99 → q ≠ 100 → J q = I q := fun q q1 q2 q3 q4 => by rw [← hJ, sP_n q2, sP_n q3, sP_n q1, sP_n q4]
    have j7 : ∀ j, j ≠ 21 → j ≠ 23 → J 87 j = I 87 j := fun j h1 h2 => by rw [← hJ, sP_n (by decide), sP_n (by decide), sP_s, up_n h2, up_n h1]
    have j88 := jf 88 (by decide) (by decide) (by decide) (by decide)
    have j91 := jf 91 (by decide) (by decide) (by decide) (by decide)
    obtain ⟨K, k1, k2, k3, k4, k5⟩ := ih J (k + 1) M (by omega) (by omega) h2 (by rw [j88]; exact ok) (by rw [j88, j91]; exact hfs) (fun m hm => by rw [j88, j91, j93]; exact hv (m + 1) (by omega)) (by rw [j99]; exact (hv 1 (by omega)).2) hM
    rw [j88, j91, j93] at k1 k2
    refine ⟨K, ?_, k2, k3, fun q q1 q2 q3 q4 => (k4 q q1 q2 q3 q4).trans (jf q q1 q2 q3 q4), fun j h1 h2 => (k5 j h1 h2).trans (j7 j h1 h2)⟩
    rw [e187_16, if_neg (by omega), e, Option.bind_some]
    simp only [zpush_n]
    rw [e187_25, wr_id (by omega) (by omega), k1]
    rfl
theorem op_tick {x : Int} (hI : Inv I b N J0) (hN : N < 2147000000) : opOk 104 187 [vI x] I b S N J0 := by
  obtain ⟨_, ⟨ok, po, hp, hc, _⟩, ⟨hR, hv, hz⟩, _, _, hm, _⟩ := id hI
  have zz := zg_or b
  have r0 : ∀ J, zrun 187 [vR 87, vI x] (J, zRs b, 103, S) = zX 187 9 [vR 87, vI x, none] [vI (if 1 ≤ x ∧ x ≤ 30 then 1 else 0)] (J, zRs b, 103, S) := fun J => by
    rw [run187, e187_0, r_in, Option.bind_some]
    simp only [zpush_s]
  by_cases h : 1 ≤ x ∧ x ≤ 30
  · obtain ⟨J, j1, j2, j3, j4⟩ := c_tickL (b := b) (S := S) (a1 := x) rfl (zg_or b) ok po x.toNat I 0 N (I 93) (by omega) (by omega) h.2 hp hR hv (by omega)
    have j88 : J 88 = I 88 := j4 88 (by omega)
    have j91 : J 91 = I 91 := j4 91 (by omega)
    have j93 : J 93 = I 93 := j4 93 (by omega)
    have j99 : J 99 = I 99 := j4 99 (by omega)
    obtain ⟨K, k1, k2, k3, k4, k5⟩ := r_tickL (b := b) (S := S) (a1 := x) x.toNat J 0 (N + 30000) (by omega) (by omega) h.2 (by rw [j88]; exact ok) (by rw [j88, j91]; exact pool_fs ok po) (fun m hm => by
      rw [j88, j91, j93]
      have a := j3 m hm
      exact ⟨pvB_m a.1 (by omega), a.2.2.2⟩) (by rw [j99]; exact hz) (by omega)
    rw [j88, j91, j93] at k1 k2
    have fr : ∀ q, (q < 8 ∨ 21 < q) → q ≠ 87 → q ≠ 93 → q ≠ 99 → q ≠ 100 → K q = I q := fun q q0 q1 q2 q3 q4 => (k4 q q1 q2 q3 q4).trans (j4 q q0)
    have f7 : ∀ j, j ≠ 21 → j ≠ 23 → K 87 j = I 87 j := fun j h1 h2 => (k5 j h1 h2).trans (by rw [j4 87 (by omega)])
    have vv := j3 x.toNat (by omega)
    have z := pOk_78 vv
    refine ⟨_, J, b, K, by rw [run104, e104_0, if_neg (by omega), if_pos h.2]; exact j1, ?_, ?_⟩
    · rw [r0, if_pos h, e187_9, if_neg (by decide), k1]
    · refine Inv_play hI (by omega) (fun q hq => fr q (by omega) (by omega) (by omega) (by omega) (by omega)) (fun j h1 h2 _ => f7 j h1 h2) (by rw [fr 1 (by omega) (by omega) (by omega) (by omega) (by omega), f7 28 (by omega) (by omega)]; exact hm.2.1) ⟨?_, ?_, k3⟩
      · rw [k2]
        exact PR_c (fun q q1 q2 => k4 q (by omega) (by omega) (by omega) (by omega)) (fun _ _ _ => rfl) z.1 z.2 j2
      · rw [k2, fr 88 (by omega) (by omega) (by omega) (by omega) (by omega), f7 3 (by omega) (by omega)]
        exact pOk_m vv (by omega)
  · refine op_ro (-1) hI ?_ ?_
    · rw [run104, e104_0]
      by_cases h2 : x < 1
      · rw [if_pos h2]
      · rw [if_neg h2, if_neg (by omega)]
    · rw [r0, if_neg h, e187_9, if_pos rfl]
theorem op_again (hI : Inv I b N J0) : opOk 110 195 [] I b S N J0 := by
  obtain ⟨_, ⟨ok, po, hp, hc, _⟩, ⟨hR, hv, hz⟩, _, _, hm, _⟩ := id hI
  have zz := zg_or b
  have hv1 := hv.1
  obtain ⟨_, _, h13, h14, h15, h16, h17, h7, h8, h4, h6⟩ := hv1
  obtain ⟨J, j1, j2, j3, j4⟩ := c_begin (b := b) (S := S) (zg_or b) ok hp hR.2.2.2.2.2.2.2.2 hv.2.2.2
  have bo := beg_ok (pm := I 87 3) (N := N + 30000) ok ⟨h13, h14, h15, h16, h17⟩ hv.2.2.2 (by omega)
  have j88 : J 88 = I 88 := j4 88 (by omega)
  have j93 : J 93 = I 93 := j4 93 (by omega)
  have j99 : J 99 = I 99 := j4 99 (by omega)
  have rb := r_begins (I := J) (b := b) (S := S) (by rw [j88]; exact ok) (by rw [j93]; exact hv.2.2.2) (by rw [j99]; exact hz)
  rw [j88, j93] at rb
  generalize hK : sP (sP (sI J 87 21 1) 99 (begF (I 88) (I 93))) 93 (begF (I 88) (I 93)) = K at rb
  have k93 : K 93 = begF (I 88) (I 93) := by rw [← hK, sP_s]
  have k99 : K 99 = begF (I 88) (I 93) := by rw [← hK, sP_n (by decide), sP_s]
  have kj : ∀ q, q ≠ 87 → q ≠ 93 → q ≠ 99 → K q = J q := fun q q1 q2 q3 => by rw [← hK, sP_n q2, sP_n q3]; funext j; rw [sI_p q1]
  have f7 : ∀ j, j ≠ 21 → K 87 j = I 87 j := fun j hj => by rw [← hK, sP_n (by decide), sP_n (by decide), sI_k hj, j4 87 (by omega)]
  have fr : ∀ q, (q < 8 ∨ 21 < q) → q ≠ 87 → q ≠ 93 → q ≠ 99 → K q = I q := fun q q0 q1 q2 q3 => (kj q q1 q2 q3).trans (j4 q q0)
  have z := pOk_78 (pm := I 87 3) (N := N + 30000) (T := I 88) (f := begF (I 88) (I 93)) ⟨bo.1, j3, bo.2⟩
  refine ⟨begF (I 88) (I 93) 0, J, b, K, ?_, ?_, ?_⟩
  · rw [run110, e110_0, j1, Option.bind_some]
    simp only [zpush_n]
    rw [e110_11, show J 9 0 = _ from j2.1.1]
  · rw [run195, e195_0, rb, Option.bind_some]
    simp only [zpush_n]
    rw [e195_4, k93]
  · refine Inv_play hI (by omega) (fun q hq => fr q (by omega) (by omega) (by omega) (by omega)) (fun j h1 h2 _ => f7 j h1) (by rw [fr 1 (by omega) (by omega) (by omega) (by omega), f7 28 (by omega)]; exact hm.2.1) ⟨?_, ?_, ?_⟩
    · rw [k93]
      exact PR_c (fun q q1 q2 => kj q (by omega) (by omega) (by omega)) (fun _ _ _ => rfl) z.1 z.2 j2
    · rw [k93, fr 88 (by omega) (by omega) (by omega) (by omega), f7 3 (by omega)]
      exact ⟨bo.1, j3, bo.2⟩
    · rw [k99]; exact bo.2.2
theorem k112 {x : Int} (h : ¬ (0 ≤ x ∧ x < 2)) : zX 112 0 [vR 1, vI x, none] [] (I, zRs b, 103, S) = some (some (vI (-1)), (I, zRs b, 103, S)) := by
  refine (xIload_n d112_0 rfl).trans ((xIfLt (t := 9) d112_1 rfl).trans ?_)
  by_cases h1 : x < 0
  · rw [if_pos h1]; exact (xIconst d112_9).trans (xIret d112_10 zret_112)
  · rw [if_neg h1]
    refine (xIload_n d112_4 rfl).trans ((xIconst d112_5).trans ((xIcmpLt (t := 11) d112_6 rfl).trans ?_))
    rw [if_neg (by omega)]
    exact (xIconst d112_9).trans (xIret d112_10 zret_112)
theorem k113 {x : Int} (h : ¬ (0 ≤ x ∧ x < 2)) : zX 113 0 [vR 1, vI x] [] (I, zRs b, 103, S) = some (some (vI (-1)), (I, zRs b, 103, S)) := by
  refine (xIload_n d113_0 rfl).trans ((xIfLt (t := 9) d113_1 rfl).trans ?_)
  by_cases h1 : x < 0
  · rw [if_pos h1]; exact (xIconst d113_9).trans (xIret d113_10 zret_113)
  · rw [if_neg h1]
    refine (xIload_n d113_4 rfl).trans ((xIconst d113_5).trans ((xIcmpLt (t := 11) d113_6 rfl).trans ?_))
    rw [if_neg (by omega)]
    exact (xIconst d113_9).trans (xIret d113_10 zret_113)
theorem k115 {a1 a2 a3 : Int} : zX 115 4 [vR 1, vI a1, vI a2, vI a3, none, none] [vI 0] (I, zRs b, 103, S) = some (some (vI (-1)), (I, zRs b, 103, S)) := by
  refine (xIfNe (t := 9) d115_4 rfl).trans ?_
  rw [if_pos rfl]; exact (xIconst d115_7).trans (xIret d115_8 zret_115)
theorem img_p {k : Int} (hk : 0 ≤ k ∧ k < 2) : ∃ p, isPl p ∧ zRs b 22 k = p ∧ ((k = 0 ∧ p = 51) ∨ (k = 1 ∧ p = 65)) := by
  have hk' : k = 0 ∨ k = 1 := by omega
  rcases hk' with rfl | rfl
  · exact ⟨51, by decide, by cases b <;> rfl, Or.inl ⟨rfl, rfl⟩⟩
  · exact ⟨65, by decide, by cases b <;> rfl, Or.inr ⟨rfl, rfl⟩⟩
def kpF (k a : Int) (s h : Int → Int) : Int → Int := fun c => if 392 * k ≤ c ∧ c < 392 * k + a then s (c - 392 * k) else h c
theorem kpF_up {k a : Int} {s h : Int → Int} (h0 : 0 ≤ a) : up (kpF k a s h) (392 * k + a) (s a) = kpF k (a + 1) s h := by
  funext c; unfold up kpF
  by_cases h1 : c = 392 * k + a
  · rw [if_pos h1, if_pos (by omega), h1, show 392 * k + a - 392 * k = a by omega]
  · rw [if_neg h1]
    by_cases h2 : 392 * k ≤ c ∧ c < 392 * k + a
    · rw [if_pos h2, if_pos (by omega)]
    · rw [if_neg h2, if_neg (by omega)]
theorem r_keepL {k t : Int} {h : Int → Int} (hk : 0 ≤ k ∧ k < 2) : ∀ (n : Nat) (a : Int), a = 392 - n → 0 ≤ a → zX 199 31 [vR 87, vI k, vI t, vI a] [] (sP I 94 (kpF k a (I 93) h), zRs b, 103, S) = some (some (vI t), (sP I 94 (kpF k 392 (I 93) h), zRs b, 103, S)) := by
  intro n
  induction n with
  | zero => intro a e h0; rw [e199_31, if_pos (by omega), show a = 392 by omega]
  | succ n ih =>
    intro a e h0
    rw [e199_31, if_neg (by omega), if_pos (by omega), wr_id (a := 392 * k) (by omega) (by omega), wr_id (a := 392 * k + a) (by omega) (by omega), if_pos (by omega), wr_id (by omega) (by omega), sIP, sP_n (by decide), kpF_up h0]
    exact ih _ (by omega) (by omega)
theorem r_backL {k : Int} {f : Int → Int} (hk : 0 ≤ k ∧ k < 2) : ∀ (n : Nat) (a : Int), a = 392 - n → 0 ≤ a → zX 200 26 [vR 87, vI k, vI a] [] (sP I 93 (mix a (fun c => I 94 (392 * k + c)) f), zRs b, 103, S) = some (some (vI (I 94 (392 * k + 2))), (sP I 93 (mix 392 (fun c => I 94 (392 * k + c)) f), zRs b, 103, S)) := by
  intro n
  induction n with
  | zero => intro a e h0; rw [e200_26, if_pos (by omega), show a = 392 by omega, sP_s, mix_i (by omega)]
  | succ n ih =>
    intro a e h0
    rw [e200_26, if_neg (by omega), wr_id (a := 392 * k) (by omega) (by omega), wr_id (a := 392 * k + a) (by omega) (by omega), if_pos (by omega), if_pos (by omega), wr_id (by omega) (by omega), sIP, sP_n (by decide), mix_up (g := fun c => I 94 (392 * k + c)) h0]
    exact ih _ (by omega) (by omega)
theorem op_keep {k : Int} (hI : Inv I b N J0) : opOk 112 199 [vI k] I b S N J0 := by
  obtain ⟨_, _, ⟨hR, hv, hz⟩, hi, _, hm, _⟩ := id hI
  have r0 : ∀ J, zrun 199 [vR 87, vI k] (J, zRs b, 103, S) = zX 199 7 [vR 87, vI k, none, none] [vI (if 0 ≤ k ∧ k ≤ 1 then 1 else 0)] (J, zRs b, 103, S) := fun J => by
    rw [run199, e199_0, r_in, Option.bind_some]
    simp only [zpush_s]
  by_cases hk : 0 ≤ k ∧ k < 2
  · obtain ⟨p, hp, ep, hkp⟩ := img_p (b := b) hk
    have z := pOk_78 hv
    have had : I 23 k = I 95 k ∧ (I 95 k = 0 ∨ I 95 k = 1) := by
      rcases hkp with ⟨e, _⟩ | ⟨e, _⟩ <;> rw [e]
      · exact ⟨hi.1.1, hi.1.2.1⟩
      · exact ⟨hi.2.1, hi.2.2.1⟩
    obtain ⟨J, j1, j2, j3⟩ := c_copy (I := I) (b := b) (S := S) (f := I 93) (p := p) (p2 := 8) hp (by decide) (by omega) z.1 z.2 hR
    have j93 : J 93 = I 93 := j3 93 (by omega)
    have j94 : J 94 = I 94 := j3 94 (by omega)
    have j95 : J 95 = I 95 := j3 95 (by omega)
    have c0 : zrun 112 [vR 1, vI k] (I, zRs b, 103, S) = some (some (vI (I 95 k)), (sI J 23 k 1, zRs b, 103, S)) := by
      rw [run112, e112_0 hp ep, if_neg (by omega), if_pos hk.2, if_pos hk, if_pos hk, j1, Option.bind_some]
      simp only [zpush_n, Option.bind_some]
      rw [e112_39, e112_39, if_pos hk, had.1]
      rcases had.2 with y | y
      · rw [if_pos y, y]
      · rw [if_neg (by omega), y]
        repeat rw [if_pos hk]
    generalize hA : sI J 23 k 1 = A at c0
    have a93 : A 93 = I 93 := by rw [← hA]; funext j; rw [sI_p (by decide), j93]
    have a95 : A 95 = I 95 := by rw [← hA]; funext j; rw [sI_p (by decide), j95]
    have rl := r_keepL (I := sI A 95 k 1) (b := b) (S := S) (k := k) (t := I 95 k) (h := sI A 95 k 1 94) hk 392 0 (by omega) (by omega)
    have kp0 : kpF k 0 (sI A 95 k 1 93) (sI A 95 k 1 94) = sI A 95 k 1 94 := by funext c; unfold kpF; rw [if_neg (by omega)]
    rw [kp0, sP_I] at rl
    generalize hB : sP (sI A 95 k 1) 94 (kpF k 392 (sI A 95 k 1 93) (sI A 95 k 1 94)) = B at rl
    have e93 : sI A 95 k 1 93 = I 93 := by funext j; rw [sI_p (by decide), a93]
    have e94 : sI A 95 k 1 94 = I 94 := by funext j; rw [sI_p (by decide), ← hA, sI_p (by decide), j94]
    have b94 : B 94 = kpF k 392 (I 93) (I 94) := by rw [← hB, sP_s, e93, e94]
    have b95 : ∀ j, B 95 j = if j = k then 1 else I 95 j := fun j => by
      rw [← hB, sP_n (by decide)]
      split
      · rename_i e; rw [e, sI_s]
      · rename_i e; rw [sI_k e, a95]
    have b23 : ∀ j, B 23 j = if j = k then 1 else I 23 j := fun j => by
      rw [← hB, sP_n (by decide), sI_p (by decide), ← hA]
      split
      · rename_i e; rw [e, sI_s]
      · rename_i e; rw [sI_k e, j3 23 (by omega)]
    have bJ : ∀ q, q ≠ 23 → q ≠ 94 → q ≠ 95 → B q = J q := fun q q1 q2 q3 => by rw [← hB, sP_n q2, ← hA]; funext j; rw [sI_p q3, sI_p q1]
    have bI : ∀ q, q ≠ 23 → q ≠ 94 → q ≠ 95 → (q < p ∨ p + 11 < q) → B q = I q := fun q q1 q2 q3 q4 => (bJ q q1 q2 q3).trans (j3 q q4)
    refine ⟨I 95 k, A, b, B, c0, ?_, ?_⟩
    · rw [r0, if_pos (by omega), e199_7, if_neg (by decide), if_pos hk, r_flag, Option.bind_some]
      simp only [zpush_s]
      rw [e199_21, if_pos hk, a95]
      have e : (if I 95 k = 0 then (0 : Int) else 1) = I 95 k := by
        rcases had.2 with y | y
        · rw [if_pos y, y]
        · rw [if_neg (by omega), y]
      rw [e, rl]
    · have kq : kpt B k = I 93 := by
        funext c
        unfold kpt
        rw [b94]
        by_cases hc : 0 ≤ c ∧ c < 392
        · rw [if_pos hc]
          unfold kpF
          rw [if_pos (by omega), show 392 * k + c - 392 * k = c by omega]
        · rw [if_neg hc, hv.2.2.2 c hc]
      have ko : ∀ m, 0 ≤ m → m < 2 → m ≠ k → kpt B m = kpt I m := fun m m0 m1 hm => by
        funext c
        unfold kpt
        rw [b94]
        by_cases hc : 0 ≤ c ∧ c < 392
        · rw [if_pos hc, if_pos hc]
          unfold kpF
          rw [if_neg (by omega)]
        · rw [if_neg hc, if_neg hc]
      have B88 : B 88 = I 88 := bI 88 (by decide) (by decide) (by decide) (by omega)
      have B87 : B 87 = I 87 := bI 87 (by decide) (by decide) (by decide) (by omega)
      have nw : iImg1 B (N + 30000) p k := by
        refine ⟨by rw [b23, b95, if_pos rfl, if_pos rfl], by rw [b95, if_pos rfl]; exact Or.inr rfl, fun _ => ?_⟩
        rw [kq, B88, B87]
        exact ⟨PR_c (fun q q1 q2 => bJ q (by omega) (by omega) (by omega)) (fun _ _ _ => rfl) z.1 z.2 j2, pOk_m hv (by omega)⟩
      have od : ∀ (p' : Nat) (m : Int), 0 ≤ m → m < 2 → m ≠ k → (p' + 11 < p ∨ p + 11 < p') → 50 < p' → p' < 70 → iImg1 I N p' m → iImg1 B (N + 30000) p' m := fun p' m m0 m1 hm h1 h2 h3 ho => by
        unfold iImg1
        rw [b23, b95, if_neg hm, if_neg hm, B88, B87, ko m m0 m1 hm]
        refine ⟨ho.1, ho.2.1, fun z1 => ?_⟩
        have a := ho.2.2 z1
        have y := pOk_78 a.2
        exact ⟨PR_c (fun q q1 q2 => bI q (by omega) (by omega) (by omega) (by omega)) (fun _ _ _ => rfl) y.1 y.2 a.1, pOk_m a.2 (by omega)⟩
      refine Inv_img hI (by omega) (fun q q1 q2 q3 q4 => bI q q1 q2 q3 (by omega)) ?_
      rcases hkp with ⟨e1, e2⟩ | ⟨e1, e2⟩
      · refine ⟨by rw [e1, e2] at nw; exact nw, od 65 1 (by omega) (by omega) (by omega) (by omega) (by omega) (by omega) hi.2⟩
      · refine ⟨od 51 0 (by omega) (by omega) (by omega) (by omega) (by omega) (by omega) hi.1, by rw [e1, e2] at nw; exact nw⟩
  · refine op_ro (-1) hI ?_ ?_
    · rw [run112, k112 hk]
    · rw [r0, if_neg (by omega), e199_7, if_pos rfl]
theorem op_back {k : Int} (hI : Inv I b N J0) : opOk 113 200 [vI k] I b S N J0 := by
  obtain ⟨_, _, ⟨hR, hv, hz⟩, hi, _, hm, _⟩ := id hI
  have r0 : ∀ J, zrun 200 [vR 87, vI k] (J, zRs b, 103, S) = zX 200 7 [vR 87, vI k, none] [vI (if 0 ≤ k ∧ k ≤ 1 then 1 else 0)] (J, zRs b, 103, S) := fun J => by
    rw [run200, e200_0, r_in, Option.bind_some]
    simp only [zpush_s]
  by_cases hk : 0 ≤ k ∧ k < 2
  · obtain ⟨p, hp, ep, hkp⟩ := img_p (b := b) hk
    have had : iImg1 I N p k := by
      rcases hkp with ⟨e, e2⟩ | ⟨e, e2⟩ <;> rw [e, e2]
      · exact hi.1
      · exact hi.2
    by_cases h0 : I 95 k = 0
    · refine op_ro (-2) hI ?_ ?_
      · rw [run113, e113_0 hp ep, if_neg (by omega), if_pos hk.2, if_pos hk, had.1, if_pos h0]
      · rw [r0, if_pos (by omega), e200_7, if_neg (by decide), if_pos hk, if_pos h0]
    · have hh := had.2.2 (by have := had.2.1; omega)
      have z := pOk_78 hh.2
      obtain ⟨J, j1, j2, j3⟩ := c_copy (I := I) (b := b) (S := S) (f := kpt I k) (p := 8) (p2 := p) (by decide) hp (by omega) z.1 z.2 hh.1
      have rl := r_backL (I := J) (b := b) (S := S) (k := k) (f := J 93) hk 392 0 (by omega) (by omega)
      rw [mix_0, sP_I] at rl
      have j94 : J 94 = I 94 := j3 94 (by omega)
      have j93 : J 93 = I 93 := j3 93 (by omega)
      have em : mix 392 (fun c => J 94 (392 * k + c)) (J 93) = kpt I k := by
        funext c
        unfold mix kpt
        by_cases hc : 0 ≤ c ∧ c < 392
        · rw [if_pos hc, if_pos hc, j94]
        · rw [if_neg hc, if_neg hc, j93, hv.2.2.2 c hc]
      rw [em] at rl
      have k2 : kpt I k 2 = J 94 (392 * k + 2) := by unfold kpt; rw [if_pos (by omega), j94]
      refine ⟨kpt I k 2, J, b, sP J 93 (kpt I k), ?_, ?_, ?_⟩
      · rw [run113, e113_0 hp ep, if_neg (by omega), if_pos hk.2, if_pos hk, had.1, if_neg h0, if_pos hk, j1, Option.bind_some]
        simp only [zpush_n]
        rw [e113_36, show J 8 7 = _ from j2.2.2.2.2.2.1]
      · rw [r0, if_pos (by omega), e200_7, if_neg (by decide), if_pos hk, show J 95 k = I 95 k by rw [j3 95 (by omega)], if_neg h0, rl, k2]
      · have fr : ∀ q, (q < 8 ∨ 19 < q) → q ≠ 93 → sP J 93 (kpt I k) q = I q := fun q q0 q1 => by rw [sP_n q1]; exact j3 q (by omega)
        refine Inv_play hI (by omega) (fun q hq => fr q (by omega) (by omega)) (fun j h1 h2 _ => by rw [fr 87 (by omega) (by omega)]) (by rw [fr 1 (by omega) (by omega), fr 87 (by omega) (by omega)]; exact hm.2.1) ⟨?_, ?_, ?_⟩
        · rw [sP_s]
          exact PR_c (fun q q1 q2 => sP_n (by omega)) (fun _ _ _ => rfl) z.1 z.2 j2
        · rw [sP_s, fr 88 (by omega) (by omega), fr 87 (by omega) (by omega)]
          exact pOk_m hh.2 (by omega)
        · rw [fr 99 (by omega) (by omega)]; exact hz
  · refine op_ro (-1) hI ?_ ?_
    · rw [run113, k113 hk]
    · rw [r0, if_neg (by omega), e200_7, if_pos rfl]
end A47
