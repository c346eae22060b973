/-! ===== the class's tick ===== -/
section A43
variable {I : Nat → Int → Int} {b : Bool} {S : Nat} {T fs pl f : Int → Int} {pm : Int} {g : Nat}
theorem cpy_s {a p : Nat} {n j : Int} (h : 0 ≤ j ∧ j < n) : zcpy I a 0 p 0 n p j = I a j := by
  unfold zcpy
  rw [if_pos ⟨rfl, by omega, by omega⟩, show 0 + (j - 0) = j by omega]
theorem c_scout (hu : cuR I 9 f) : ∃ I', zrun 2 [vR 20, vR 9] (I, zRs b, 103, S) = some (none, (I', zRs b, 103, S)) ∧ cuR I' 20 f ∧ ∀ q, q ≠ 20 → q ≠ 21 → I' q = I q := by
  rw [run2, e2_0 (by decide) (by decide)]
  refine ⟨_, rfl, ⟨?_, ?_, ?_, fun j j0 j1 => ?_⟩, fun q q1 q2 => by funext j; rw [zcpy_p q2, sI_p q1, sI_p q1, sI_p q1]⟩
  · rw [zcpy_p (by decide), sI_k (by decide), sI_k (by decide), sI_s]; exact hu.1
  · rw [zcpy_p (by decide), sI_k (by decide), sI_s, sI_p (by decide)]; exact hu.2.1
  · rw [zcpy_p (by decide), sI_s, sI_p (by decide), sI_p (by decide)]; exact hu.2.2.1
  · rw [cpy_s (by omega), sI_p (by decide), sI_p (by decide), sI_p (by decide)]; exact hu.2.2.2 j j0 j1
theorem c_logOut {x : Int} (h5 : I 8 5 = f 4) (h6 : I 8 6 = f 5) (h7 : I 8 7 = f 2) (h8 : I 8 8 = x) (ho : ∀ j, 0 ≤ j → j < 200 → j < f 4 → I 18 j = f (112 + j)) (hs : ∀ j, 0 ≤ j → j < 5 → I 19 j = f (13 + j)) (h4 : 0 ≤ f 4 ∧ f 4 < 2147483647) : ∃ I', zrun 41 [vR 8] (I, zRs b, 103, S) = some (none, (I', zRs b, 103, S)) ∧ plR I' 8 (ouF x f) ∧ ∀ q, q ≠ 8 → q ≠ 18 → I' q = I q := by
  have o := ou_c (f := f) (x := x) h4.1
  rw [run41, e41_0, h5, h8, wr_id (by omega) (by omega)]
  by_cases h : 200 ≤ f 4
  · rw [if_pos h]
    refine ⟨_, rfl, ?_, fun q q1 q2 => by funext j; rw [sI_p q1]⟩
    unfold plR
    rw [o.1, o.2.1, o.2.2 5 (by omega) (by omega) (by omega), o.2.2 2 (by omega) (by omega) (by omega), show 8 + 10 = 18 from rfl, show 8 + 11 = 19 from rfl]
    refine ⟨sI_s, by rw [sI_k (by decide)]; exact h6, by rw [sI_k (by decide)]; exact h7, by rw [sI_k (by decide)]; exact h8, fun j j0 j1 j2 => ?_, fun j j0 j1 => ?_⟩
    · rw [sI_p (by decide), ho j j0 j1 (by omega)]
      unfold ouF
      rw [up_n (by omega), up_n (by omega), if_neg (by omega)]
    · rw [sI_p (by decide), o.2.2 _ (by omega) (by omega) (by omega)]; exact hs j j0 j1
  · rw [if_neg h, if_pos (by omega)]
    refine ⟨_, rfl, ?_, fun q q1 q2 => by funext j; rw [sI_p q1, sI_p q2]⟩
    unfold plR
    rw [o.1, o.2.1, o.2.2 5 (by omega) (by omega) (by omega), o.2.2 2 (by omega) (by omega) (by omega), show 8 + 10 = 18 from rfl, show 8 + 11 = 19 from rfl]
    refine ⟨sI_s, by rw [sI_k (by decide), sI_p (by decide)]; exact h6, by rw [sI_k (by decide), sI_p (by decide)]; exact h7, by rw [sI_k (by decide), sI_p (by decide)]; exact h8, fun j j0 j1 j2 => ?_, fun j j0 j1 => ?_⟩
    · rw [sI_p (by decide)]
      unfold ouF
      rw [up_n (by omega), up_n (by omega), if_pos (by omega)]
      by_cases jl : j = f 4
      · rw [jl, sI_s, up_s]
      · rw [sI_k jl, up_n (by omega)]; exact ho j j0 j1 (by omega)
    · rw [sI_p (by decide), sI_p (by decide), o.2.2 _ (by omega) (by omega) (by omega)]; exact hs j j0 j1
theorem c_playOne {N : Int} (hg : g = 25 ∨ g = 38) (ok : tOk T) (po : poolOk T fs pl pm) (hp : pgm I g T fs pl pm) (hR : PR I 8 f) (hla : laOk f) (hv : pvB T f N) (hN : N < 2147400000) (h0 : f 0 ≠ -4) : ∃ I', zrun 40 [vR 8, vR g] (I, zRs b, 103, S) = some (none, (I', zRs b, 103, S)) ∧ PR I' 8 (soF T fs f) ∧ laOk (soF T fs f) ∧ ∀ q, q < 8 ∨ 19 < q → I' q = I q := by
  obtain ⟨ha, ph, h13, h14, h15, h16, h17, h7, h8, h4, h6⟩ := hv
  obtain ⟨hu, hpg, hmk, hpl⟩ := hR
  have gg : isProg g := hg
  rw [run40, e40_0 gg, c_pageOf (Or.inl rfl) gg ok po hp hu ha h0 ph, Option.bind_some]
  simp only [zpush_s]
  obtain ⟨J, j1, j2, j3⟩ := c_use (b := b) (S := S) (pg := pgF T fs f) hpg (by omega) h8
  rw [e40_12 gg, j1, Option.bind_some]
  simp only [zpush_s]
  rw [e40_15 gg]
  unfold soF
  by_cases hc : caF f (pgF T fs f) = -4
  · rw [if_pos hc] at j2
    rw [if_pos hc, if_pos hc, if_pos rfl, j3 8 (by decide), hpl.2.1]
    have u : ∀ c, c ≠ 5 → up f 5 (wr (f 5 + 1)) c = f c := fun c hc => up_n hc
    obtain ⟨K, k1, k2, k3⟩ := c_logOut (I := sI J 8 6 (wr (f 5 + 1))) (b := b) (S := S) (f := up f 5 (wr (f 5 + 1))) (x := f 3) (by rw [sI_k (by decide), j3 8 (by decide), u 4 (by omega)]; exact hpl.1) (by rw [sI_s, up_s]) (by rw [sI_k (by decide), j3 8 (by decide), u 2 (by omega)]; exact hpl.2.2.1) (by rw [sI_k (by decide), j3 8 (by decide)]; exact hpl.2.2.2.1) (fun j j0 j1 j2 => by rw [sI_p (by decide), j3 18 (by decide), u _ (by omega)]; rw [u 4 (by omega)] at j2; exact hpl.2.2.2.2.1 j j0 j1 j2) (fun j j0 j1 => by rw [sI_p (by decide), j3 19 (by decide), u _ (by omega)]; exact hpl.2.2.2.2.2 j j0 j1) (by rw [u 4 (by omega)]; omega)
    have o := ou_c (f := up f 5 (wr (f 5 + 1))) (x := f 3) (by rw [u 4 (by omega)]; omega)
    have o2 : ∀ c, c ≠ 3 → c ≠ 4 → c ≠ 5 → (c < 112 ∨ 312 ≤ c) → ouF (f 3) (up f 5 (wr (f 5 + 1))) c = f c := fun c a1 a2 a3 a4 => (o.2.2 c a1 a2 a4).trans (u c a3)
    have k4 : ∀ q, q ≠ 8 → q ≠ 18 → K q = J q := fun q q1 q2 => (k3 q q1 q2).trans (by funext j; rw [sI_p q1])
    rw [k1, Option.bind_some]
    simp only [zpush_n]
    rw [e40_79 gg]
    refine ⟨K, rfl, ⟨?_, ?_, ?_, k2⟩, laOk_c (fun x x1 x2 => o2 x (by omega) (by omega) (by omega) (by omega)) hla, fun q hq => (k4 q (by omega) (by omega)).trans (j3 q (by omega))⟩
    · exact cuR_c ((k4 9 (by decide) (by decide)).trans (j3 9 (by decide))) ((k4 10 (by decide) (by decide)).trans (j3 10 (by decide))) (fun x hx => o2 x (by omega) (by omega) (by omega) (by omega)) hu
    · exact pgR_c (fun q q1 q2 => k4 q (by omega) (by omega)) h8.2 (by omega) (fun x hx => o2 x (by omega) (by omega) (by omega) (by omega)) j2
    · exact mkR_c ((k4 15 (by decide) (by decide)).trans (j3 15 (by decide))) ((k4 16 (by decide) (by decide)).trans (j3 16 (by decide))) ((k4 17 (by decide) (by decide)).trans (j3 17 (by decide))) (o2 6 (by omega) (by omega) (by omega) (by omega)) (fun x x1 x2 => o2 x (by omega) (by omega) (by omega) (by omega)) hmk
  · rw [if_neg hc] at j2
    rw [if_neg hc, if_neg hc, if_neg (by decide)]
    have cr := (ca_r (pg := pgF T fs f) h7.1).resolve_left (fun z => hc z.1)
    have us := us_c (pg := pgF T fs f) (k := caF f (pgF T fs f)) (f := f) (by omega)
    dsimp only
    generalize inF (pgF T fs f) (lvs (caF f (pgF T fs f)) f) = e at us j2 ⊢
    have e0 := us 0 (by omega)
    have e1 := us 1 (by omega)
    have e14 : J 19 1 = e 14 := by
      rw [j3 19 (by decide), us 14 (by omega)]; exact hpl.2.2.2.2.2 1 (by omega) (by omega)
    have hpJ : pgm J g T fs pl pm := pgm_fr (fun q q1 q2 => j3 q (by omega)) hp
    rw [e14, c_levelBy (Or.inl rfl) gg ok po hpJ (cuR_c (j3 9 (by decide)) (j3 10 (by decide)) (fun x hx => us x (by omega)) hu) (at_c e0 ha) (by rw [e0]; exact h0) (ph_c e0 e1 ph), Option.bind_some]
    simp only [zpush_s]
    rw [e40_33 gg]
    obtain ⟨K, k1, k2, k3⟩ := c_logOut (I := sI J 8 8 (lvF T e)) (b := b) (S := S) (f := e) (x := lvF T e) (by rw [sI_k (by decide), j3 8 (by decide), us 4 (by omega)]; exact hpl.1) (by rw [sI_k (by decide), j3 8 (by decide), us 5 (by omega)]; exact hpl.2.1) (by rw [sI_k (by decide), j3 8 (by decide), us 2 (by omega)]; exact hpl.2.2.1) sI_s (fun j j0 j1 j2 => by rw [sI_p (by decide), j3 18 (by decide), us _ (by omega)]; rw [us 4 (by omega)] at j2; exact hpl.2.2.2.2.1 j j0 j1 j2) (fun j j0 j1 => by rw [sI_p (by decide), j3 19 (by decide), us _ (by omega)]; exact hpl.2.2.2.2.2 j j0 j1) (by rw [us 4 (by omega)]; omega)
    have o := ou_c (f := e) (x := lvF T e) (by rw [us 4 (by omega)]; omega)
    rw [k1, Option.bind_some]
    simp only [zpush_n]
    generalize ouF (lvF T e) e = d at o k2 ⊢
    have oe : ∀ c, c ≠ 3 → c ≠ 4 → (c < 42 ∨ (48 ≤ c ∧ c < 112) ∨ 312 ≤ c) → d c = f c := fun c a1 a2 a3 => (o.2.2 c a1 a2 (by omega)).trans (us c (by omega))
    have k4 : ∀ q, q ≠ 8 → q ≠ 18 → K q = J q := fun q q1 q2 => (k3 q q1 q2).trans (by funext j; rw [sI_p q1])
    have k5 : ∀ q, q ≠ 8 → q ≠ 18 → q ≠ 12 → K q = I q := fun q q1 q2 q3 => (k4 q q1 q2).trans (j3 q q3)
    have d0 := oe 0 (by omega) (by omega) (by omega)
    have d1 := oe 1 (by omega) (by omega) (by omega)
    have d6 := oe 6 (by omega) (by omega) (by omega)
    have d13 := oe 13 (by omega) (by omega) (by omega)
    have d2 := oe 2 (by omega) (by omega) (by omega)
    have r13 : K 19 0 = d 13 := k2.2.2.2.2.2 0 (by omega) (by omega)
    have r2 : K 8 7 = d 2 := k2.2.2.1
    have hpK : pgm K g T fs pl pm := pgm_fr (fun q q1 q2 => k5 q (by omega) (by omega) (by omega)) hp
    rw [e40_40 gg, r13, r2]
    obtain ⟨L, l1, l2, l3, l4, l5⟩ := c_advance (b := b) (S := S) (I := K) (c := 9) (lg := 15) (lgv := 1) (f := d) (clk := d 2) (Or.inl rfl) hg ok (Or.inr ⟨rfl, rfl⟩) hpK (cuR_c (k5 9 (by decide) (by decide) (by decide)) (k5 10 (by decide) (by decide) (by decide)) (fun x hx => oe x (by omega) (by omega) (by omega)) hu) (laOk_c (fun x x1 x2 => oe x (by omega) (by omega) (by omega)) hla) (fun _ => mkR_c (k5 15 (by decide) (by decide) (by decide)) (k5 16 (by decide) (by decide) (by decide)) (k5 17 (by decide) (by decide) (by decide)) d6 (fun x x1 x2 => oe x (by omega) (by omega) (by omega)) hmk) rfl (at_c d0 ha) (by rw [d0]; exact h0) (ph_c d0 d1 ph) (by omega) (by omega) (by omega)
    have dv := advF_eq (lg := 1) (f := d) ok (at_c d0 ha) (by rw [d0]; exact h0) (ph_c d0 d1 ph) (by omega) (by omega)
    rw [l1, Option.bind_some]
    simp only [zpush_n]
    rw [e40_62 gg, e40_79 gg]
    refine ⟨L, rfl, ⟨l2, ?_, l4 rfl, ?_⟩, l3, fun q hq => (l5 q (by omega) (by omega) (by omega)).trans (k5 q (by omega) (by omega) (by omega))⟩
    · refine pgR_c (I := J) (f := e) (fun q q1 q2 => (l5 q (by omega) (by omega) (by omega)).trans (k4 q (by omega) (by omega))) (by rw [us 8 (by omega)]; exact h8.2) (by rw [us 7 (by omega)]; omega) (fun x hx => ?_) j2
      rw [dv.2.2.2.2 x (by omega), o.2.2 x (by omega) (by omega) (by omega)]
    · exact plR_c (l5 8 (by decide) (by decide) (by decide)) (l5 18 (by decide) (by decide) (by decide)) (l5 19 (by decide) (by decide) (by decide)) (fun x hx => dv.2.2.2.2 x (by omega)) k2
theorem c_poolPages (hg : isProg g) (po : poolOk T fs pl pm) (hp : pgm I g T fs pl pm) : zrun 51 [vR (g + 1)] (I, zRs b, 103, S) = some (some (vI ((pm + 7) / 8)), (I, zRs b, 103, S)) := by
  have h1 := po.1
  have h2 := po.2.1
  rw [run51, e51_0 (isProg_pool hg), hp.2.2.2.1, wr_id (a := pm + 8) (by omega) (by omega), wr_id (a := pm + 8 - 1) (by omega) (by omega), td_ed (by omega), wr_id (by omega) (by omega), show (pm + 8 - 1) / 8 = (pm + 7) / 8 by omega]
end A43
theorem akL_112 : ∀ (L : List Int) (f : Int → Int), 0 ≤ f 8 → L.foldl akF f 8 ≤ 32 → L.foldl akF f 112 = f 112 := by
  intro L
  induction L with
  | nil => intro f _ _; rfl
  | cons x L ih =>
    intro f h8 h
    rw [List.foldl_cons] at h ⊢
    have a := ak_c (f := f) (pg := x) h8
    have z := akL_c L (akF f x) (by omega)
    rw [ih (akF f x) (by omega) h]
    unfold akF
    by_cases hc : caF f x = -4 ∧ asF f x = -4
    · have e8 : akF f x 8 = f 8 + 1 := by unfold akF; rw [if_pos hc, up_s]
      rw [if_pos hc, up_n (by omega), up_n (by omega), up_n (by omega)]
    · rw [if_neg hc]
theorem c_askL {b : Bool} {S : Nat} {T fs pl : Int → Int} {pm : Int} {g : Nat} {cm : Int} (hg : g = 25 ∨ g = 38) (ok : tOk T) (po : poolOk T fs pl pm) : ∀ (n : Nat) (I : Nat → Int → Int) (k : Int) (f s : Int → Int), pgm I g T fs pl pm → k + n = f 17 + 1 → 0 ≤ k → f 17 ≤ 16 → I 19 4 = f 17 → I 19 0 = s 13 → I 8 7 = s 2 → cm = wr (wr (f 2 + 1) + f 16) → pgR I 11 f → cuR I 20 s → laOk s → atOk T s → phOk T s → 1 ≤ s 13 ∧ s 13 ≤ 64 → 0 ≤ s 6 → s 6 + 920 * n < 2147470000 → 0 ≤ f 7 ∧ f 7 ≤ 6 → 0 ≤ f 8 ∧ f 8 ≤ 16 → dj ((pm + 7) / 8) (f 7) (f 8) 0 0 f → ∃ I', zX 42 53 [vR 8, vR g, vI cm, vI k] [] (I, zRs b, 103, S) = some (none, (I', zRs b, 103, S)) ∧ pgR I' 11 ((skF T fs n s).foldl akF f) ∧ ∀ q, q < 11 ∨ (14 < q ∧ q < 20) ∨ 21 < q → I' q = I q := by
  have gg : isProg g := hg
  have p1 := po.1
  have p2 := po.2.1
  intro n
  induction n with
  | zero =>
    intro I k f s hp hk k0 h17 r4 r0 r7 hcm hpg hu hla ha ph h13 h6 h6' h7 h8 hd
    rw [e42_53 gg, r4, if_pos (by omega)]
    exact ⟨I, rfl, hpg, fun _ _ => rfl⟩
  | succ n ih =>
    intro I k f s hp hk k0 h17 r4 r0 r7 hcm hpg hu hla ha ph h13 h6 h6' h7 h8 hd
    rw [e42_53 gg, r4, if_neg (by omega), c_isOver (Or.inr rfl), Option.bind_some, hu.1]
    simp only [zpush_s]
    rw [e42_70 gg]
    unfold skF
    by_cases h0 : s 0 = -4
    · rw [if_pos h0, h0, if_neg (show ¬ (0 : Int) ≤ -4 by decide), if_neg (by decide)]
      exact ⟨I, rfl, hpg, fun _ _ => rfl⟩
    · have hs : 0 ≤ s 0 := by rcases ha with z | z; exact absurd z h0; exact z.1
      rw [if_neg h0, if_pos hs, if_pos rfl, c_pageOf (Or.inr rfl) gg ok po hp hu ha h0 ph, Option.bind_some]
      simp only [zpush_s]
      have gp := pg_P ok po ha h0 ph
      have php' := dj_php (by omega) h7 h8.1 hd
      obtain ⟨J, j1, j2, j3⟩ := c_askFor (b := b) (S := S) (pg := pgF T fs s) (cm := cm) hpg h8 h7 (fun c1 c2 => by
        by_cases h16 : f 8 < 16
        · exact h16
        · have w := php'.2 (by omega) (pgF T fs s) gp.1 gp.2
          have d1 := ((ca_r (pg := pgF T fs s) h7.1).resolve_right (fun z => by omega)).2
          have d2 := ((as_r (pg := pgF T fs s) h8.1).resolve_right (fun z => by omega)).2
          rcases w with ⟨j, y0, y1, y2⟩ | ⟨j, y0, y1, y2⟩
          · exact absurd y2 (d1 j y0 y1)
          · exact absurd y2 (d2 j y0 y1)) hcm
      rw [e42_85 gg, j1, Option.bind_some]
      simp only [zpush_n]
      rw [e42_89 gg, j3 19 (by omega), j3 8 (by omega), r0, r7]
      obtain ⟨K, k1, k2, k3, k4, k5⟩ := c_advance (b := b) (S := S) (I := J) (c := 20) (lg := 0) (lgv := 0) (f := s) (clk := s 2) (Or.inr rfl) hg ok (Or.inl ⟨rfl, rfl⟩) (pgm_fr (fun q q1 q2 => j3 q (by omega)) hp) (cuR_c (j3 20 (by omega)) (j3 21 (by omega)) (fun _ _ => rfl) hu) hla (fun z => by omega) rfl ha h0 ph h13 h6 (by omega)
      have dv := advF_eq (lg := 0) (f := s) ok ha h0 ph h13 h6
      rw [k1, Option.bind_some]
      simp only [zpush_n]
      rw [e42_108 gg, wr_id (by omega) (by omega)]
      have fr : ∀ q, q < 11 ∨ (14 < q ∧ q < 20) ∨ 21 < q → K q = I q := fun q hq => (k5 q (by omega) (by omega) (Or.inl rfl)).trans (j3 q (by omega))
      have ak := ak_c (f := f) (pg := pgF T fs s) h8.1
      have dj' := ak_dj h8.1 h7 gp hd
      have php2 := dj_php (by omega) (by rw [ak.2 7 (by omega)]; exact h7) (by omega) dj'
      obtain ⟨I', r1, r2, r3⟩ := ih K (k + 1) (akF f (pgF T fs s)) (advF T 0 s) (pgm_fr (fun q q1 q2 => fr q (by omega)) hp) (by rw [ak.2 17 (by omega)]; omega) (by omega) (by rw [ak.2 17 (by omega)]; omega) (by rw [fr 19 (by omega), ak.2 17 (by omega)]; exact r4) (by rw [fr 19 (by omega), dv.2.2.2.2 13 (by omega)]; exact r0) (by rw [fr 8 (by omega), dv.2.2.2.2 2 (by omega)]; exact r7) (by rw [ak.2 2 (by omega), ak.2 16 (by omega)]; exact hcm) (pgR_c (fun q q1 q2 => k5 q (by omega) (by omega) (Or.inl rfl)) (by rw [ak.2 7 (by omega)] at php2; omega) (by rw [ak.2 7 (by omega)]; exact h7.2) (fun _ _ => rfl) j2) k2 k3 dv.2.1 dv.2.2.1 (by rw [dv.2.2.2.2 13 (by omega)]; exact h13) (by omega) (by omega) (by rw [ak.2 7 (by omega)]; exact h7) (by rw [ak.2 7 (by omega)] at php2; omega) dj'
      rw [List.foldl_cons]
      exact ⟨I', r1, r2, fun q hq => (r3 q hq).trans (fr q hq)⟩
theorem c_askAhead {I : Nat → Int → Int} {b : Bool} {S : Nat} {T fs pl f : Int → Int} {pm N : Int} {g : Nat} (hg : g = 25 ∨ g = 38) (ok : tOk T) (po : poolOk T fs pl pm) (hp : pgm I g T fs pl pm) (hR : PR I 8 f) (hla : laOk f) (hv : pvB T f N) (hN : N < 2147400000) (hd : dj ((pm + 7) / 8) (f 7) (f 8) 0 0 f) : ∃ I', zrun 42 [vR 8, vR g] (I, zRs b, 103, S) = some (none, (I', zRs b, 103, S)) ∧ PR I' 8 (asksF T fs f) ∧ laOk (asksF T fs f) ∧ ∀ q, q < 8 ∨ 21 < q → I' q = I q := by
  obtain ⟨ha, ph, h13, h14, h15, h16, h17, h7, h8, h4, h6⟩ := hv
  obtain ⟨hu, hpg, hmk, hpl⟩ := hR
  have gg : isProg g := hg
  have p1 := po.1
  have skp := sk_P ok po (f 17 + 1).toNat f ha ph h13 h6.1
  rw [run42, e42_0 gg, c_poolPages gg po hp, Option.bind_some]
  have w1 : I 11 1 = f 7 := hpg.1
  have w4 : I 11 4 = f 8 := hpg.2.1
  rw [w1, w4, wr_id (by omega) (by omega)]
  simp only [zpush_s]
  rw [e42_22 gg]
  by_cases hc : f 7 + f 8 < (pm + 7) / 8
  · rw [if_pos hc]
    obtain ⟨J, j1, j2, j3⟩ := c_scout (b := b) (S := S) hu
    have s3 : I 19 3 = f 16 := hpl.2.2.2.2.2 3 (by omega) (by omega)
    rw [j1, Option.bind_some, hpl.2.2.1, s3]
    simp only [zpush_n]
    rw [e42_51 gg]
    have fl := akL_c (skF T fs (f 17 + 1).toNat f) f h8.1
    obtain ⟨I', r1, r2, r3⟩ := c_askL (b := b) (S := S) (cm := wr (wr (f 2 + 1) + f 16)) hg ok po (f 17 + 1).toNat J 0 f f (pgm_fr (fun q q1 q2 => j3 q (by omega) (by omega)) hp) (by omega) (by omega) (by omega) (by rw [j3 19 (by decide) (by decide)]; exact hpl.2.2.2.2.2 4 (by omega) (by omega)) (by rw [j3 19 (by decide) (by decide)]; exact hpl.2.2.2.2.2 0 (by omega) (by omega)) (by rw [j3 8 (by decide) (by decide)]; exact hpl.2.2.1) rfl (pgR_c (fun q q1 q2 => j3 q (by omega) (by omega)) h8.2 (by omega) (fun _ _ => rfl) hpg) j2 hla ha ph h13 h6.1 (by omega) (by omega) h8 hd
    have fr : ∀ q, q < 11 ∨ (14 < q ∧ q < 20) ∨ 21 < q → I' q = I q := fun q hq => (r3 q hq).trans (j3 q (by omega) (by omega))
    have sl := skF_len (T := T) (fs := fs) (f 17 + 1).toNat f
    have ac : ∀ c, c < 48 ∧ c ≠ 8 ∨ 113 ≤ c → asksF T fs f c = f c := fun c hc => fl.2 c (by omega)
    refine ⟨I', r1, ⟨cuR_c (fr 9 (by decide)) (fr 10 (by decide)) (fun x hx => ac x (by omega)) hu, r2, mkR_c (fr 15 (by decide)) (fr 16 (by decide)) (fr 17 (by decide)) (ac 6 (by omega)) (fun x x1 x2 => ac x (by omega)) hmk, ?_⟩, laOk_c (fun x x1 x2 => ac x (by omega)) hla, fun q hq => fr q (by omega)⟩
    have d8 := akL_dj (P := (pm + 7) / 8) (skF T fs (f 17 + 1).toNat f) f h8.1 (by omega) skp hd
    have pp := dj_php (by omega) (by rw [fl.2 7 (by omega)]; omega) (by omega) d8
    rw [fl.2 7 (by omega)] at pp
    refine plR_c (fr 8 (by decide)) (fr 18 (by decide)) (fr 19 (by decide)) (fun x hx => ?_) hpl
    by_cases x1 : x = 112
    · subst x1
      have p2 := po.2.1
      exact akL_112 (skF T fs (f 17 + 1).toNat f) f h8.1 (by show List.foldl akF f _ 8 ≤ 32; omega)
    · exact ac x (by omega)
  · rw [if_neg hc]
    have e : asksF T fs f = f := by
      unfold asksF
      exact akL_id (P := (pm + 7) / 8) _ f (by omega) h8.1 (by omega) skp hd (by omega)
    rw [e]
    exact ⟨I, rfl, ⟨hu, hpg, hmk, hpl⟩, hla, fun _ _ => rfl⟩
