/-! ===== a tick whole, a beginning, a copy ===== -/
def pOk (T : Int → Int) (pm N : Int) (f : Int → Int) : Prop := pvB T f N ∧ laOk f ∧ dj ((pm + 7) / 8) (f 7) (f 8) 0 0 f ∧ Z0 f
theorem pvB_m {T f : Int → Int} {N M : Int} (h : pvB T f N) (hm : N ≤ M) : pvB T f M := by
  obtain ⟨b1, b2, b3, b4, b5, b6, b7, b8, b9, b10, b11⟩ := h
  exact ⟨b1, b2, b3, b4, b5, b6, b7, b8, b9, by omega, by omega⟩
theorem asks_ok {T fs pl f : Int → Int} {pm N : Int} (ok : tOk T) (po : poolOk T fs pl pm) (hv : pvB T f N) (hd : dj ((pm + 7) / 8) (f 7) (f 8) 0 0 f) (hz : Z0 f) : pvB T (asksF T fs f) N ∧ dj ((pm + 7) / 8) (asksF T fs f 7) (asksF T fs f 8) 0 0 (asksF T fs f) ∧ Z0 (asksF T fs f) := by
  obtain ⟨ha, ph, h13, h14, h15, h16, h17, h7, h8, h4, h6⟩ := hv
  have p1 := po.1
  have p2 := po.2.1
  have skp := sk_P ok po (f 17 + 1).toNat f ha ph h13 h6.1
  have fl := akL_c (skF T fs (f 17 + 1).toNat f) f h8.1
  have sl := skF_len (T := T) (fs := fs) (f 17 + 1).toNat f
  have d8 := akL_dj (P := (pm + 7) / 8) (skF T fs (f 17 + 1).toNat f) f h8.1 (by omega) skp hd
  have pp := dj_php (by omega) (by rw [fl.2 7 (by omega)]; omega) (by omega) d8
  have ac : ∀ c, c < 48 ∧ c ≠ 8 ∨ 113 ≤ c → asksF T fs f c = f c := fun c hc => fl.2 c (by omega)
  have e8 : asksF T fs f 8 = List.foldl akF f (skF T fs (f 17 + 1).toNat f) 8 := rfl
  rw [fl.2 7 (by omega)] at pp
  refine ⟨⟨at_c (ac 0 (by omega)) ha, ph_c (ac 0 (by omega)) (ac 1 (by omega)) ph, ?_, ?_, ?_, ?_, ?_, ?_, ?_, ?_, ?_⟩, d8, fun c hc => by rw [ac c (by omega)]; exact hz c hc⟩
  · rw [ac 13 (by omega)]; exact h13
  · rw [ac 14 (by omega)]; exact h14
  · rw [ac 15 (by omega)]; exact h15
  · rw [ac 16 (by omega)]; exact h16
  · rw [ac 17 (by omega)]; exact h17
  · rw [ac 7 (by omega), ac 15 (by omega)]; exact h7
  · omega
  · rw [ac 4 (by omega)]; exact h4
  · rw [ac 6 (by omega)]; exact h6
section A44
variable {I : Nat → Int → Int} {b : Bool} {S : Nat} {T fs pl f : Int → Int} {pm N : Int} {g : Nat}
theorem c_step (hg : g = 25 ∨ g = 38) (ok : tOk T) (po : poolOk T fs pl pm) (hp : pgm I g T fs pl pm) (hR : PR I 8 f) (hv : pOk T pm N f) (hN : N < 2147300000) : ∃ I', zrun 39 [vR 8, vR g] (I, zRs b, 103, S) = some (none, (I', zRs b, 103, S)) ∧ PR I' 8 (tiF T fs f) ∧ pOk T pm (N + 1000) (tiF T fs f) ∧ ∀ q, q < 8 ∨ 21 < q → I' q = I q := by
  obtain ⟨hv, hla, hd, hz⟩ := hv
  have hv' := hv
  obtain ⟨ha, ph, h13, h14, h15, h16, h17, h7, h8, h4, h6⟩ := hv
  obtain ⟨hu, hpg, hmk, hpl⟩ := hR
  have gg : isProg g := hg
  have u : ∀ c, c ≠ 2 → up f 2 (wr (f 2 + 1)) c = f c := fun c hc => up_n hc
  have u2 : up f 2 (wr (f 2 + 1)) 2 = wr (f 2 + 1) := up_s
  have s2 : I 19 2 = f 15 := hpl.2.2.2.2.2 2 (by omega) (by omega)
  rw [run39, e39_0 gg, hpl.2.2.1, s2]
  have fr0 : ∀ q, q ≠ 8 → sI I 8 7 (wr (f 2 + 1)) q = I q := fun q q1 => by funext j; rw [sI_p q1]
  obtain ⟨J, j1, j2, j3⟩ := c_bringIn (I := sI I 8 7 (wr (f 2 + 1))) (b := b) (S := S) (f := up f 2 (wr (f 2 + 1))) (pgR_c (fun q q1 q2 => fr0 q (by omega)) h8.2 (by omega) (fun x hx => u x (by omega)) hpg) (by rw [u 8 (by omega)]; exact h8) (by rw [u 7 (by omega), u 15 (by omega)]; omega)
  rw [u2, u 15 (by omega)] at j1
  rw [j1, Option.bind_some]
  simp only [zpush_n]
  have ar := arF_c (f := up f 2 (wr (f 2 + 1))) (by rw [u 8 (by omega)]; exact h8) (by rw [u 7 (by omega), u 15 (by omega)]; omega)
  have ad := arF_dj (P := (pm + 7) / 8) (f := up f 2 (wr (f 2 + 1))) (by rw [u 8 (by omega)]; exact h8) (by rw [u 7 (by omega), u 15 (by omega)]; omega) (by rw [u 7 (by omega), u 8 (by omega)]; exact dj_c (fun x hx => u x (by unfold slt at hx; omega)) hd)
  rw [u 15 (by omega), u 8 (by omega)] at ar
  have tie : tiF T fs f = asksF T fs ((fun g => if g 0 = -4 then g else soF T fs g) (arF (up f 2 (wr (f 2 + 1))))) := rfl
  have ar2 : arF (up f 2 (wr (f 2 + 1))) 2 = wr (f 2 + 1) := (ar.2.2 2 (by omega)).trans u2
  generalize arF (up f 2 (wr (f 2 + 1))) = e at ar ad ar2 tie j2 ⊢
  have arc : ∀ c, c ≠ 2 → (c < 7 ∨ (9 ≤ c ∧ c < 42) ∨ 112 ≤ c) → e c = f c := fun c c1 c2 => (ar.2.2 c c2).trans (u c c1)
  have fr1 : ∀ q, q < 8 ∨ (8 < q ∧ q < 11) ∨ 14 < q → J q = I q := fun q hq => (j3 q (by omega)).trans (fr0 q (by omega))
  have ev : pvB T e N := by
    refine ⟨at_c (arc 0 (by omega) (by omega)) ha, ph_c (arc 0 (by omega) (by omega)) (arc 1 (by omega) (by omega)) ph, ?_, ?_, ?_, ?_, ?_, ?_, ?_, ?_, ?_⟩
    · rw [arc 13 (by omega) (by omega)]; exact h13
    · rw [arc 14 (by omega) (by omega)]; exact h14
    · rw [arc 15 (by omega) (by omega)]; exact h15
    · rw [arc 16 (by omega) (by omega)]; exact h16
    · rw [arc 17 (by omega) (by omega)]; exact h17
    · rw [arc 15 (by omega) (by omega)]; exact ar.1
    · omega
    · rw [arc 4 (by omega) (by omega)]; exact h4
    · rw [arc 6 (by omega) (by omega)]; exact h6
  have ez : Z0 e := fun c hc => (arc c (by omega) (by omega)).trans (hz c hc)
  have el : laOk e := laOk_c (fun x x1 x2 => arc x (by omega) (by omega)) hla
  have eR : PR J 8 e := by
    refine ⟨cuR_c (fr1 9 (by omega)) (fr1 10 (by omega)) (fun x hx => arc x (by omega) (by omega)) hu, j2, mkR_c (fr1 15 (by omega)) (fr1 16 (by omega)) (fr1 17 (by omega)) (arc 6 (by omega) (by omega)) (fun x x1 x2 => arc x (by omega) (by omega)) hmk, ?_⟩
    unfold plR
    rw [j3 8 (by omega), show 8 + 10 = 18 from rfl, show 8 + 11 = 19 from rfl, fr1 18 (by omega), fr1 19 (by omega), arc 4 (by omega) (by omega), arc 5 (by omega) (by omega), arc 3 (by omega) (by omega), ar2, sI_k (by decide), sI_k (by decide), sI_s, sI_k (by decide)]
    exact ⟨hpl.1, hpl.2.1, rfl, hpl.2.2.2.1, fun j y0 y1 y2 => by rw [arc _ (by omega) (by omega)]; exact hpl.2.2.2.2.1 j y0 y1 y2, fun j y0 y1 => by rw [arc _ (by omega) (by omega)]; exact hpl.2.2.2.2.2 j y0 y1⟩
  have hpJ : pgm J g T fs pl pm := pgm_fr (fun q q1 q2 => fr1 q (by omega)) hp
  have body : ∃ K E, (tiF T fs f = asksF T fs E ∧ pvB T E (N + 1000) ∧ Z0 E ∧ laOk E ∧ dj ((pm + 7) / 8) (E 7) (E 8) 0 0 E ∧ PR K 8 E) ∧ (∀ q, q < 8 ∨ 21 < q → K q = I q) ∧ zX 39 27 [vR 8, vR g] [] (J, zRs b, 103, S) = zX 39 42 [vR 8, vR g] [] (K, zRs b, 103, S) := by
    rw [e39_27 gg, c_isOver (Or.inl rfl), Option.bind_some, eR.1.1]
    simp only [zpush_s]
    rw [e39_34 gg]
    dsimp only at tie
    by_cases g0 : e 0 = -4
    · rw [if_pos g0] at tie
      rw [g0, if_neg (show ¬ (0 : Int) ≤ -4 by decide), if_neg (by decide)]
      exact ⟨J, e, ⟨tie, pvB_m ev (by omega), ez, el, ad, eR⟩, fun q hq => fr1 q (by omega), rfl⟩
    · rw [if_neg g0] at tie
      have ge : 0 ≤ e 0 := by rcases ev.1 with z | z; exact absurd z g0; exact z.1
      have so := so_ok (fs := fs) ok ev g0
      obtain ⟨K, k1, k2, k3, k4⟩ := c_playOne (b := b) (S := S) hg ok po hpJ eR el ev (by omega) g0
      rw [if_pos ge, if_pos rfl, k1, Option.bind_some]
      exact ⟨K, soF T fs e, ⟨tie, so.1, fun c hc => (so.2 c (by omega)).trans (ez c hc), k3, so_dj ok ev g0 ad, k2⟩, fun q hq => (k4 q (by omega)).trans (fr1 q (by omega)), rfl⟩
  obtain ⟨K, E, ⟨t1, t2, t3, t4, t5, t6⟩, t7, t8⟩ := body
  obtain ⟨L, l1, l2, l3, l4⟩ := c_askAhead (b := b) (S := S) hg ok po (pgm_fr (fun q q1 q2 => t7 q (by omega)) hp) t6 t4 t2 (by omega) t5
  have fin := asks_ok ok po t2 t5 t3
  rw [t8, e39_42 gg, l1, Option.bind_some]
  simp only [zpush_n]
  rw [e39_47 gg, t1]
  exact ⟨L, rfl, l2, ⟨fin.1, l3, fin.2.1, fin.2.2⟩, fun q hq => (l4 q hq).trans (t7 q hq)⟩
theorem c_clearL {c : Nat} (hc : isCur c) : ∀ (n : Nat) (I : Nat → Int → Int) (a : Int), a + n = 24 → 0 ≤ a → (∀ j, 0 ≤ j → j < a → I (c + 1) j = 0) → ∃ I', zX 1 18 [vR c, vI a] [] (I, zRs b, 103, S) = some (none, (I', zRs b, 103, S)) ∧ (∀ j, 0 ≤ j → j < 24 → I' (c + 1) j = 0) ∧ ∀ q, q ≠ c + 1 → I' q = I q := by
  intro n
  induction n with
  | zero =>
    intro I a ha a0 h
    rw [e1_18 hc, if_pos (by omega)]
    exact ⟨I, rfl, fun j j0 j1 => h j j0 (by omega), fun _ _ => rfl⟩
  | succ n ih =>
    intro I a ha a0 h
    rw [e1_18 hc, if_neg (by omega), if_pos (by omega), wr_id (by omega) (by omega)]
    obtain ⟨I', r1, r2, r3⟩ := ih (sI I (c + 1) a 0) (a + 1) (by omega) (by omega) (fun j j0 j1 => by
      by_cases e : j = a
      · rw [e, sI_s]
      · rw [sI_k e]; exact h j j0 (by omega))
    exact ⟨I', r1, r2, fun q hq => (r3 q hq).trans (by funext j; rw [sI_p hq])⟩
theorem zr_c {c : Int} (h : (0 ≤ c ∧ c < 13) ∨ (18 ≤ c ∧ c < 392)) : zrF f c = 0 := by
  unfold zrF; rw [if_pos h]
theorem zr_s {c : Int} (h : 13 ≤ c ∧ c < 18) : zrF f c = f c := by
  unfold zrF; rw [if_neg (by omega)]
def seOk (f : Int → Int) : Prop := (1 ≤ f 13 ∧ f 13 ≤ 64) ∧ (0 ≤ f 14 ∧ f 14 ≤ 2) ∧ (1 ≤ f 15 ∧ f 15 ≤ 6) ∧ (0 ≤ f 16 ∧ f 16 ≤ 9) ∧ (0 ≤ f 17 ∧ f 17 ≤ 16)
theorem beg_ok (ok : tOk T) (hs : seOk f) (hz : Z0 f) (hN : 46 ≤ N) : pvB T (begF T f) N ∧ dj ((pm + 7) / 8) (begF T f 7) (begF T f 8) 0 0 (begF T f) ∧ Z0 (begF T f) := by
  have e := setF_end (lg := 1) (f := zrF f) (i := 0) ok (by omega) (by rw [zr_6]; omega)
  have z := beg_Z ok hz
  unfold begF at z ⊢
  rw [zr_6] at e
  have z1 : zrF f 1 = 0 := zr_c (by omega)
  have e7 : setF T 1 0 (zrF f) 7 = 0 := (e.2.2 7 (by omega)).trans (zr_c (by omega))
  have e8 : setF T 1 0 (zrF f) 8 = 0 := (e.2.2 8 (by omega)).trans (zr_c (by omega))
  have e4 : setF T 1 0 (zrF f) 4 = 0 := (e.2.2 4 (by omega)).trans (zr_c (by omega))
  have es : ∀ c, 13 ≤ c ∧ c < 18 → setF T 1 0 (zrF f) c = f c := fun c hc => (e.2.2 c (by omega)).trans (zr_s hc)
  have ha : atOk T (setF T 1 0 (zrF f)) := by
    rcases e.1 with y | y
    · exact Or.inl y.1
    · exact Or.inr ⟨y.1, y.2.1, y.2.2.1⟩
  refine ⟨⟨ha, ⟨?_, ?_, ?_⟩, ?_, ?_, ?_, ?_, ?_, ?_, ?_, ?_, ?_⟩, ?_, z⟩
  · rcases e.1 with y | y <;> omega
  · rcases e.1 with y | y <;> omega
  · intro h0
    have a := at_seg ok ha h0
    unfold lenAt
    rcases e.1 with y | y <;> omega
  · rw [es 13 (by omega)]; exact hs.1
  · rw [es 14 (by omega)]; exact hs.2.1
  · rw [es 15 (by omega)]; exact hs.2.2.1
  · rw [es 16 (by omega)]; exact hs.2.2.2.1
  · rw [es 17 (by omega)]; exact hs.2.2.2.2
  · rw [e7, es 15 (by omega)]; have := hs.2.2.1; omega
  · omega
  · omega
  · omega
  · rw [e7, e8]
    exact ⟨fun x hx => by unfold slt at hx; omega, fun x y hx => by unfold slt at hx; omega⟩
theorem c_begin (hg : g = 25 ∨ g = 38) (ok : tOk T) (hp : pgm I g T fs pl pm) (hs : ∀ j, 0 ≤ j → j < 5 → I 19 j = f (13 + j)) (hz : Z0 f) : ∃ I', zrun 36 [vR 8, vR g] (I, zRs b, 103, S) = some (none, (I', zRs b, 103, S)) ∧ PR I' 8 (begF T f) ∧ laOk (begF T f) ∧ ∀ q, q < 8 ∨ 21 < q → I' q = I q := by
  have gg : isProg g := hg
  obtain ⟨J, j1, j2, j3⟩ := c_clearL (b := b) (S := S) (c := 9) (by decide) 24 (sI (sI (sI I 9 0 (-4)) 9 1 0) 9 3 0) 0 (by omega) (by omega) (fun j j0 j1 => by omega)
  rw [run36, e36_0 gg, run1, e1_0 (by decide), j1, Option.bind_some]
  simp only [zpush_n]
  rw [e36_7 gg, run27, e27_0, Option.bind_some]
  simp only [zpush_n]
  rw [e36_14 gg, run21, e21_0, Option.bind_some]
  simp only [zpush_n]
  rw [e36_21 gg]
  have hJ : ∀ q, q ≠ 9 → q ≠ 10 → J q = I q := fun q q1 q2 => (j3 q q2).trans (by funext j; rw [sI_p q1, sI_p q1, sI_p q1])
  have J9 : J 9 = sI (sI (sI I 9 0 (-4)) 9 1 0) 9 3 0 9 := j3 9 (by decide)
  generalize hK : sI (sI (sI (sI (sI (sI (sI J 11 1 0) 11 4 0) 15 2 0) 8 5 0) 8 6 0) 8 7 0) 8 8 0 = K
  have K9 : K 9 = J 9 := by rw [← hK]; funext j; rw [sI_p (by decide), sI_p (by decide), sI_p (by decide), sI_p (by decide), sI_p (by decide), sI_p (by decide), sI_p (by decide)]
  have K10 : K 10 = J 10 := by rw [← hK]; funext j; rw [sI_p (by decide), sI_p (by decide), sI_p (by decide), sI_p (by decide), sI_p (by decide), sI_p (by decide), sI_p (by decide)]
  have Kq : ∀ q, q ≠ 8 → q ≠ 11 → q ≠ 15 → K q = J q := fun q q1 q2 q3 => by rw [← hK]; funext j; rw [sI_p q1, sI_p q1, sI_p q1, sI_p q1, sI_p q3, sI_p q2, sI_p q2]
  have K15 : K 15 2 = 0 := by rw [← hK, sI_p (by decide), sI_p (by decide), sI_p (by decide), sI_p (by decide), sI_s]
  have K11 : K 11 1 = 0 ∧ K 11 4 = 0 := by
    constructor
    · rw [← hK, sI_p (by decide), sI_p (by decide), sI_p (by decide), sI_p (by decide), sI_p (by decide), sI_k (by decide), sI_s]
    · rw [← hK, sI_p (by decide), sI_p (by decide), sI_p (by decide), sI_p (by decide), sI_p (by decide), sI_s]
  have K8 : K 8 5 = 0 ∧ K 8 6 = 0 ∧ K 8 7 = 0 ∧ K 8 8 = 0 := by
    refine ⟨?_, ?_, ?_, ?_⟩
    · rw [← hK, sI_k (by decide), sI_k (by decide), sI_k (by decide), sI_s]
    · rw [← hK, sI_k (by decide), sI_k (by decide), sI_s]
    · rw [← hK, sI_k (by decide), sI_s]
    · rw [← hK, sI_s]
  have cu : cuR' K 9 (zrF f) := by
    unfold cuR' lav
    rw [K9, show 9 + 1 = 10 from rfl, K10, J9, zr_c (by omega), zr_c (by omega), zr_c (by omega), zr_c (by omega), zr_c (by omega), sI_k (by decide), sI_s, sI_s]
    exact ⟨rfl, rfl, fun j y0 y1 => by rw [zr_c (by omega)]; exact j2 j y0 y1⟩
  have mk : mkR K 15 (zrF f) := by
    unfold mkR
    rw [K15, zr_6]
    exact ⟨rfl, fun j y0 y1 => by unfold hd40 at y1; rw [if_pos (by omega)] at y1; omega⟩
  have la : laOk (zrF f) := ⟨Or.inl (zr_c (by omega)), Or.inl (zr_c (by omega)), Or.inl (zr_c (by omega)), Or.inl (zr_c (by omega))⟩
  obtain ⟨L, l1, l2, l3, l4, l5⟩ := c_settle (b := b) (S := S) (I := K) (c := 9) (lg := 15) (lgv := 1) (f := zrF f) (clk := 0) (i := 0) (Or.inl rfl) hg ok (Or.inr ⟨rfl, rfl⟩) (pgm_fr (fun q q1 q2 => (Kq q (by omega) (by omega) (by omega)).trans (hJ q (by omega) (by omega))) hp) cu la (fun _ => mk) (zr_c (by omega)).symm (by omega) (by rw [zr_6]; omega) (by rw [zr_6]; omega)
  rw [l1, Option.bind_some]
  simp only [zpush_n]
  rw [e36_58 gg]
  have e := setF_end (lg := 1) (f := zrF f) (i := 0) ok (by omega) (by rw [zr_6]; omega)
  have ez : ∀ c, ((2 ≤ c ∧ c ≤ 5) ∨ c = 7 ∨ c = 8 ∨ (42 ≤ c ∧ c < 312)) → setF T 1 0 (zrF f) c = 0 := fun c hc => (e.2.2 c (by omega)).trans (zr_c (by omega))
  have es : ∀ c, 13 ≤ c ∧ c < 18 → setF T 1 0 (zrF f) c = f c := fun c hc => (e.2.2 c (by omega)).trans (zr_s hc)
  have L' : ∀ q, q ≠ 9 → q ≠ 10 → (q < 15 ∨ 17 < q) → L q = K q := fun q q1 q2 q3 => l5 q q1 q2 (Or.inr q3)
  refine ⟨L, rfl, ⟨l2, ?_, l4 rfl, ?_⟩, l3, fun q hq => (L' q (by omega) (by omega) (by omega)).trans ((Kq q (by omega) (by omega) (by omega)).trans (hJ q (by omega) (by omega)))⟩
  · unfold begF pgR
    rw [ez 7 (by omega), ez 8 (by omega), L' 11 (by decide) (by decide) (by decide)]
    exact ⟨K11.1, K11.2, fun j y0 y1 => by omega, fun j y0 y1 => by omega⟩
  · unfold begF plR
    rw [ez 4 (by omega), ez 5 (by omega), ez 2 (by omega), ez 3 (by omega), L' 8 (by decide) (by decide) (by decide)]
    refine ⟨K8.1, K8.2.1, K8.2.2.1, K8.2.2.2, fun j y0 y1 y2 => by omega, fun j y0 y1 => ?_⟩
    rw [show 8 + 11 = 19 from rfl, L' 19 (by decide) (by decide) (by decide), Kq 19 (by decide) (by decide) (by decide), hJ 19 (by decide) (by decide), es _ (by omega)]
    exact hs j y0 y1
theorem c_copy {p p2 : Nat} (hp : isPl p) (hp2 : isPl p2) (hne : p + 13 < p2 ∨ p2 + 13 < p) (h7 : f 7 ≤ 6) (h8 : f 8 ≤ 16) (hR : PR I p2 f) : ∃ I', zrun 37 [vR p, vR p2] (I, zRs b, 103, S) = some (none, (I', zRs b, 103, S)) ∧ PR I' p f ∧ ∀ q, q < p ∨ p + 11 < q → I' q = I q := by
  obtain ⟨hu, hpg, hmk, hpl⟩ := hR
  have c1 : isCur (p + 1) := by rcases hp with rfl | rfl | rfl <;> decide
  have c2 : isCur (p2 + 1) := by rcases hp2 with rfl | rfl | rfl <;> decide
  have g1 : isPgs (p + 3) := by rcases hp with rfl | rfl | rfl <;> decide
  have g2 : isPgs (p2 + 3) := by rcases hp2 with rfl | rfl | rfl <;> decide
  have m1 : isMk (p + 7) := by rcases hp with rfl | rfl | rfl <;> decide
  have m2 : isMk (p2 + 7) := by rcases hp2 with rfl | rfl | rfl <;> decide
  rw [run37, e37_0 hp hp2, run2, e2_0 c1 c2, Option.bind_some]
  simp only [zpush_n]
  generalize hA : zcpy (sI (sI (sI I (p + 1) 0 (I (p2 + 1) 0)) (p + 1) 1 ((sI I (p + 1) 0 (I (p2 + 1) 0)) (p2 + 1) 1)) (p + 1) 3 ((sI (sI I (p + 1) 0 (I (p2 + 1) 0)) (p + 1) 1 ((sI I (p + 1) 0 (I (p2 + 1) 0)) (p2 + 1) 1)) (p2 + 1) 3)) (p2 + 1 + 1) 0 (p + 1 + 1) 0 24 = A
  have Af : ∀ q, q ≠ p + 1 → q ≠ p + 2 → A q = I q := fun q q1 q2 => by rw [← hA]; funext j; rw [zcpy_p (by omega), sI_p q1, sI_p q1, sI_p q1]
  have Au : cuR A (p + 1) f := by
    rw [← hA]
    refine ⟨?_, ?_, ?_, fun j j0 j1 => ?_⟩
    · rw [zcpy_p (by omega), sI_k (by decide), sI_k (by decide), sI_s]; exact hu.1
    · rw [zcpy_p (by omega), sI_k (by decide), sI_s, sI_p (by omega)]; exact hu.2.1
    · rw [zcpy_p (by omega), sI_s, sI_p (by omega), sI_p (by omega)]; exact hu.2.2.1
    · rw [cpy_s (by omega), sI_p (by omega), sI_p (by omega), sI_p (by omega)]; exact hu.2.2.2 j j0 j1
  rw [e37_11 hp hp2, run28, e28_0 g1 g2, Option.bind_some]
  simp only [zpush_n]
  generalize hB : zcpy (zcpy (zcpy (sI (sI A (p + 3) 1 (A (p2 + 3) 1)) (p + 3) 4 ((sI A (p + 3) 1 (A (p2 + 3) 1)) (p2 + 3) 4)) (p2 + 3 + 1) 0 (p + 3 + 1) 0 6) (p2 + 3 + 2) 0 (p + 3 + 2) 0 16) (p2 + 3 + 3) 0 (p + 3 + 3) 0 16 = B
  have Bf : ∀ q, q < p + 3 ∨ p + 6 < q → B q = A q := fun q hq => by rw [← hB]; funext j; rw [zcpy_p (by omega), zcpy_p (by omega), zcpy_p (by omega), sI_p (by omega), sI_p (by omega)]
  have Bg : pgR B (p + 3) f := by
    rw [← hB]
    refine ⟨?_, ?_, fun j j0 j1 => ?_, fun j j0 j1 => ⟨?_, ?_⟩⟩
    · rw [zcpy_p (by omega), zcpy_p (by omega), zcpy_p (by omega), sI_k (by decide), sI_s, Af _ (by omega) (by omega)]; exact hpg.1
    · rw [zcpy_p (by omega), zcpy_p (by omega), zcpy_p (by omega), sI_s, sI_p (by omega), Af _ (by omega) (by omega)]; exact hpg.2.1
    · rw [zcpy_p (by omega), zcpy_p (by omega), cpy_s (by omega), sI_p (by omega), sI_p (by omega), Af _ (by omega) (by omega)]; exact hpg.2.2.1 j j0 j1
    · rw [zcpy_p (by omega), cpy_s (by omega), zcpy_p (by omega), sI_p (by omega), sI_p (by omega), Af _ (by omega) (by omega)]; exact (hpg.2.2.2 j j0 j1).1
    · rw [cpy_s (by omega), zcpy_p (by omega), zcpy_p (by omega), sI_p (by omega), sI_p (by omega), Af _ (by omega) (by omega)]; exact (hpg.2.2.2 j j0 j1).2
  rw [e37_22 hp hp2, run22, e22_0 m1 m2, Option.bind_some]
  simp only [zpush_n]
  generalize hC : zcpy (zcpy (sI B (p + 7) 2 (B (p2 + 7) 2)) (p2 + 7 + 1) 0 (p + 7 + 1) 0 40) (p2 + 7 + 2) 0 (p + 7 + 2) 0 40 = C
  have Cf : ∀ q, q < p + 7 ∨ p + 9 < q → C q = B q := fun q hq => by rw [← hC]; funext j; rw [zcpy_p (by omega), zcpy_p (by omega), sI_p (by omega)]
  have Ck : mkR C (p + 7) f := by
    rw [← hC]
    have z2 := hmk.2
    refine ⟨?_, fun j j0 j1 => ⟨?_, ?_⟩⟩
    · rw [zcpy_p (by omega), zcpy_p (by omega), sI_s, Bf _ (by omega), Af _ (by omega) (by omega)]; exact hmk.1
    · rw [zcpy_p (by omega), cpy_s (by omega), sI_p (by omega), Bf _ (by omega), Af _ (by omega) (by omega)]; exact (z2 j j0 j1).1
    · rw [cpy_s (by omega), zcpy_p (by omega), sI_p (by omega), Bf _ (by omega), Af _ (by omega) (by omega)]; exact (z2 j j0 j1).2
  have CI : ∀ q, (q < p ∨ p + 9 < q) → C q = I q := fun q hq => by rw [Cf q (by omega), Bf q (by omega), Af q (by omega) (by omega)]
  rw [e37_33 hp hp2]
  generalize hD : zcpy (zcpy C (p2 + 10) 0 (p + 10) 0 200) (p2 + 11) 0 (p + 11) 0 5 = D
  have Df : ∀ q, q ≠ p + 10 → q ≠ p + 11 → D q = C q := fun q q1 q2 => by rw [← hD]; funext j; rw [zcpy_p q2, zcpy_p q1]
  have D10 : ∀ j, 0 ≤ j → j < 200 → D (p + 10) j = I (p2 + 10) j := fun j j0 j1 => by rw [← hD, zcpy_p (by omega), cpy_s (by omega), CI _ (by omega)]
  have D11 : ∀ j, 0 ≤ j → j < 5 → D (p + 11) j = I (p2 + 11) j := fun j j0 j1 => by rw [← hD, cpy_s (by omega), zcpy_p (by omega), CI _ (by omega)]
  refine ⟨_, rfl, ⟨?_, ?_, ?_, ?_⟩, fun q hq => ?_⟩
  · refine cuR_c (I := A) (f := f) ?_ ?_ (fun _ _ => rfl) Au
    · funext j; rw [sI_p (by omega), sI_p (by omega), sI_p (by omega), sI_p (by omega), Df _ (by omega) (by omega), Cf _ (by omega), Bf _ (by omega)]
    · funext j; rw [sI_p (by omega), sI_p (by omega), sI_p (by omega), sI_p (by omega), Df _ (by omega) (by omega), Cf _ (by omega), Bf _ (by omega)]
  · exact pgR_c (I := B) (fun q q1 q2 => by funext j; rw [sI_p (by omega), sI_p (by omega), sI_p (by omega), sI_p (by omega), Df _ (by omega) (by omega), Cf _ (by omega)]) h8 h7 (fun _ _ => rfl) Bg
  · have e : ∀ q, p + 7 ≤ q → q ≤ p + 9 → ∀ x y z w, sI (sI (sI (sI D p 5 x) p 6 y) p 7 z) p 8 w q = C q := fun q q1 q2 x y z w => by funext j; rw [sI_p (by omega), sI_p (by omega), sI_p (by omega), sI_p (by omega), Df _ (by omega) (by omega)]
    exact mkR_c (e _ (by omega) (by omega) _ _ _ _) (e _ (by omega) (by omega) _ _ _ _) (e _ (by omega) (by omega) _ _ _ _) rfl (fun _ _ _ => rfl) Ck
  · have d2 : ∀ j, D p2 j = I p2 j := fun j => by rw [Df _ (by omega) (by omega), CI _ (by omega)]
    refine ⟨?_, ?_, ?_, ?_, fun j j0 j1 j2 => ?_, fun j j0 j1 => ?_⟩
    · rw [sI_k (by decide), sI_k (by decide), sI_k (by decide), sI_s, d2]; exact hpl.1
    · rw [sI_k (by decide), sI_k (by decide), sI_s, sI_p (by omega), d2]; exact hpl.2.1
    · rw [sI_k (by decide), sI_s, sI_p (by omega), sI_p (by omega), d2]; exact hpl.2.2.1
    · rw [sI_s, sI_p (by omega), sI_p (by omega), sI_p (by omega), d2]; exact hpl.2.2.2.1
    · rw [sI_p (by omega), sI_p (by omega), sI_p (by omega), sI_p (by omega), D10 j j0 j1]; exact hpl.2.2.2.2.1 j j0 j1 j2
    · rw [sI_p (by omega), sI_p (by omega), sI_p (by omega), sI_p (by omega), D11 j j0 j1]; exact hpl.2.2.2.2.2 j j0 j1
  · funext j
    rw [sI_p (by omega), sI_p (by omega), sI_p (by omega), sI_p (by omega), Df _ (by omega) (by omega), CI _ (by omega)]
end A44
