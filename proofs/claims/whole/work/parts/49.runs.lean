/-! ===== settings, runs ===== -/
def laF (v : Int) (f : Int → Int) : Int → Int := if 0 ≤ v ∧ v < 4 then up f (9 + v) 1 else f
def rnC (flt : Int → Int) : Nat → Int → Int × Int
  | 0, d => (d, 0)
  | n + 1, d => if flt d = 0 then rnC flt n (d + 1) else (d, flt d)
def rnF (T fs : Int → Int) (flt cl : Int → Int) : Nat → Int → (Int → Int) → Int → Int
  | 0, _, f => f
  | n + 1, d, f => if flt d = 0 then rnF T fs flt cl n (d + 1) (tiF T fs (laF (cl d) f)) else f
def rnP (T fs : Int → Int) (flt cl : Int → Int) (P : (Int → Int) → Prop) : Nat → Int → (Int → Int) → Prop
  | 0, _, _ => True
  | n + 1, d, f => flt d = 0 → P (laF (cl d) f) ∧ P (tiF T fs (laF (cl d) f)) ∧ rnP T fs flt cl P n (d + 1) (tiF T fs (laF (cl d) f))
theorem rnP_m {T fs flt cl : Int → Int} {P Q : (Int → Int) → Prop} (h : ∀ f, P f → Q f) : ∀ (n : Nat) (d : Int) (f : Int → Int), rnP T fs flt cl P n d f → rnP T fs flt cl Q n d f := by
  intro n
  induction n with
  | zero => intro d f _; trivial
  | succ n ih => intro d f hp z; exact ⟨h _ (hp z).1, h _ (hp z).2.1, ih _ _ (hp z).2.2⟩
section A49
variable {I : Nat → Int → Int} {b : Bool} {S : Nat} {N M : Int} {J0 : Nat → Int → Int} {T fs pl f f' : Int → Int} {pm : Int} {g : Nat}
theorem r_seL {a1 a2 a3 : Int} : ∀ (n : Nat) (f : Int → Int), n = (f 7 - f 15).toNat → 0 ≤ f 7 → f 7 ≤ 6 → 0 ≤ f 15 → zX 194 65 [vR 87, vI a1, vI a2, vI a3] [] (sP I 99 f, zRs b, 103, S) = some (some (vI a3), (sP (sP I 99 (lvN n f)) 93 (mix 392 (lvN n f) (I 93)), zRs b, 103, S)) := by
  intro n
  induction n with
  | zero =>
    intro f hn h0 h1 h2
    rw [e194_65, sP_s, if_pos (by omega), r_stays, Option.bind_some, sP_s, sP_n (by decide)]
    simp only [zpush_n]
    rw [e194_94]
    rfl
  | succ n ih =>
    intro f hn h0 h1 h2
    have e7 : lvs 0 f 7 = f 7 - 1 := by unfold lvs; rw [up_s]
    have e15 : lvs 0 f 15 = f 15 := lvs_c (by omega) (by omega)
    rw [e194_65, sP_s, if_neg (by omega), r_leaves (by omega), Option.bind_some]
    simp only [zpush_n]
    rw [e194_87, ih (lvs 0 f) (by omega) (by omega) (by omega) (by omega)]
    rfl
theorem lo_J (hJ : stJ J0) {x : Int} (hx : 6 ≤ x ∧ x ≤ 10) : J0 901 (x - 6) = (if x = 6 then 1 else if x = 8 then 1 else 0) ∧ J0 902 (x - 6) = (if x = 6 then 64 else if x = 7 then 2 else if x = 8 then 6 else if x = 9 then 9 else 16) := by
  have h : x = 6 ∨ x = 7 ∨ x = 8 ∨ x = 9 ∨ x = 10 := by omega
  rw [hJ 901 _ (by decide), hJ 902 _ (by decide)]
  rcases h with rfl | rfl | rfl | rfl | rfl <;> decide
theorem op_set {x v : Int} (hI : Inv I b N J0) (hJ : stJ J0) : opOk 109 194 [vI x, vI v] I b S N J0 := by
  obtain ⟨_, _, ⟨hR, hv, hz⟩, _, _, hm, hro⟩ := id hI
  have z := pOk_78 hv
  have c0 : zrun 109 [vR 1, vI x, vI v] (I, zRs b, 103, S) = zX 109 4 [vR 1, vI x, vI v, none, none] [vI (if 6 ≤ x ∧ x ≤ 10 then 1 else 0)] (I, zRs b, 103, S) := by
    rw [run109, e109_0, run121, e121_0]
    by_cases h1 : x < 6
    · rw [if_pos h1, if_neg (by omega), Option.bind_some]
      simp only [zpush_s]
    · rw [if_neg h1]
      by_cases h2 : 11 ≤ x
      · rw [if_pos h2, if_neg (by omega), Option.bind_some]
        simp only [zpush_s]
      · rw [if_neg h2, if_pos (by omega), Option.bind_some]
        simp only [zpush_s]
  have r0 : ∀ J, zrun 194 [vR 87, vI x, vI v] (J, zRs b, 103, S) = zX 194 11 [vR 87, vI x, vI v, none] [vI (if 6 ≤ x ∧ x ≤ 10 then 1 else 0)] (J, zRs b, 103, S) := fun J => by
    rw [run194, e194_0, r_in, Option.bind_some]
    simp only [zpush_s]
  by_cases hx : 6 ≤ x ∧ x ≤ 10
  · have lo := lo_J hJ hx
    generalize hlo : (if x = 6 then (1 : Int) else if x = 8 then 1 else 0) = lw at lo
    generalize hhi : (if x = 6 then (64 : Int) else if x = 7 then 2 else if x = 8 then 6 else if x = 9 then 9 else 16) = hw at lo
    have r1 : ∀ J, zrun 194 [vR 87, vI x, vI v] (J, zRs b, 103, S) = zX 194 29 [vR 87, vI x, vI v, none] [vI (if lw ≤ v ∧ v ≤ hw then 1 else 0)] (J, zRs b, 103, S) := fun J => by
      have q1 : zrun 192 [vI x] (J, zRs b, 103, S) = some (some (vI lw), (J, zRs b, 103, S)) := by
        rw [run192, e192_0, ← hlo]
        by_cases h1 : x = 6
        · rw [if_pos h1, if_pos h1]
        · rw [if_neg h1, if_neg h1]
          by_cases h2 : x = 8
          · rw [if_pos h2, if_pos h2]
          · rw [if_neg h2, if_neg h2]
      have q2 : zrun 193 [vI x] (J, zRs b, 103, S) = some (some (vI hw), (J, zRs b, 103, S)) := by
        rw [run193, e193_0, ← hhi]
        by_cases h1 : x = 6
        · rw [if_pos h1, if_pos h1]
        · rw [if_neg h1, if_neg h1]
          by_cases h2 : x = 7
          · rw [if_pos h2, if_pos h2]
          · rw [if_neg h2, if_neg h2]
            by_cases h3 : x = 8
            · rw [if_pos h3, if_pos h3]
            · rw [if_neg h3, if_neg h3]
              by_cases h4 : x = 9
              · rw [if_pos h4, if_pos h4]
              · rw [if_neg h4, if_neg h4]
      rw [r0 J, if_pos hx, e194_11, if_neg (by decide), q1, Option.bind_some]
      simp only [zpush_s]
      rw [e194_20, q2, Option.bind_some]
      simp only [zpush_s]
      rw [e194_25, r_in, Option.bind_some]
      simp only [zpush_s]
    rw [if_pos hx, e109_4, if_neg (by decide), wr_id (a := x - 6) (by omega) (by omega), if_pos (show 0 ≤ x - 6 ∧ x - 6 < 5 by omega), if_pos (show 0 ≤ x - 6 ∧ x - 6 < 5 by omega), if_pos (show 0 ≤ x - 6 ∧ x - 6 < 5 by omega), if_pos (show 0 ≤ x - 6 ∧ x - 6 < 5 by omega), hro 901 (by decide), hro 902 (by decide), lo.1, lo.2] at c0
    by_cases hb : lw ≤ v ∧ v ≤ hw
    · rw [if_neg (by omega), if_pos hb.2] at c0
      have hv1 := hv.1
      obtain ⟨ha, hph, h13, h14, h15, h16, h17, h7, h8, h4, h6⟩ := hv1
      generalize hf : up (I 93) (13 + (x - 6)) v = f1 at *
      have fn : ∀ c, c ≠ 13 + (x - 6) → f1 c = I 93 c := fun c hc => by rw [← hf, up_n hc]
      have fs : f1 (13 + (x - 6)) = v := by rw [← hf, up_s]
      have f7 : f1 7 = I 93 7 := fn 7 (by omega)
      have f15 : 1 ≤ f1 15 ∧ f1 15 ≤ 6 := by
        by_cases h : x = 8
        · have e : f1 15 = v := by rw [← fs, h]; rfl
          rw [e]
          rw [← hlo, ← hhi, if_neg (by omega), if_pos h, if_neg (by omega), if_neg (by omega), if_pos h] at hb
          exact hb
        · rw [fn 15 (by omega)]; exact h15
      have sl : ∀ j, 0 ≤ j → j < 5 → sI I 19 (x - 6) v 19 j = f1 (13 + j) := fun j j0 j1 => by
        by_cases h : j = x - 6
        · rw [h, sI_s, fs]
        · rw [sI_k h, fn _ (by omega)]; exact hR.2.2.2.2.2.2.2.2 j j0 j1
      have lc := lvN_c (f1 7 - f1 15).toNat f1 (by omega) (by omega)
      generalize hn : (f1 7 - f1 15).toNat = n at lc
      have e11 : sI I 19 (x - 6) v 11 1 = f1 7 := by rw [sI_p (by decide), f7]; exact hR.2.1.1
      have e12 : sI I 19 (x - 6) v 12 = I 12 := by funext j; rw [sI_p (by decide)]
      have cd := c_dropTo (I := sI I 19 (x - 6) v) (b := b) (S := S) (m := f1 15) (by rw [e11]; omega) (by omega)
      rw [e11, e12] at cd
      have e19 : sI I 19 (x - 6) v 19 2 = f1 15 := sl 2 (by decide) (by decide)
      rw [e19, cd, Option.bind_some] at c0
      simp only [zpush_n] at c0
      rw [e109_74] at c0
      generalize hA : (if f1 7 ≤ f1 15 then sI I 19 (x - 6) v else sI (sP (sI I 19 (x - 6) v) 12 (fun c => if 0 ≤ c ∧ c < f1 15 then I 12 (c + (f1 7 - f1 15)) else I 12 c)) 11 1 (f1 15)) = A at c0
      have aq : ∀ q, q ≠ 11 → q ≠ 12 → A q = sI I 19 (x - 6) v q := fun q q1 q2 => by
        rw [← hA]
        split
        · rfl
        · funext j; rw [sI_p q1, sP_n q2]
      have aI : ∀ q, q ≠ 11 → q ≠ 12 → q ≠ 19 → A q = I q := fun q q1 q2 q3 => by rw [aq q q1 q2]; funext j; rw [sI_p q3]
      have a11 : A 11 1 = lvN n f1 7 ∧ A 11 4 = f1 8 := by
        rw [lc.1, ← hA]
        have e4 : I 11 4 = f1 8 := by rw [fn 8 (by omega)]; exact hR.2.1.2.1
        split
        · rw [e11, sI_p (by decide), e4]; omega
        · rw [sI_s, sI_k (by decide), sP_n (by decide), sI_p (by decide), e4]; omega
      have a12 : ∀ j, 0 ≤ j → j < lvN n f1 7 → A 12 j = lvN n f1 (42 + j) := fun j j0 j1 => by
        rw [lc.2.1 j j0 (by omega), fn _ (by omega), ← hA]
        have o := hR.2.1.2.2.1
        rw [lc.1] at j1
        split
        · rename_i h
          rw [e12, show 42 + j + (n : Int) = 42 + j by omega]
          exact o j j0 (by omega)
        · rename_i h
          rw [sI_p (by decide), sP_s, if_pos (by omega), show 42 + j + (n : Int) = 42 + (j + (f1 7 - f1 15)) by omega]
          exact o _ (by omega) (by omega)
      have l7 : lvN n f1 7 ≤ f1 15 ∧ 0 ≤ lvN n f1 7 := by rw [lc.1]; omega
      have lo2 : ∀ c, c ≠ 7 → (c < 42 ∨ 48 ≤ c) → c ≠ 13 + (x - 6) → lvN n f1 c = I 93 c := fun c c1 c2 c3 => by rw [lc.2.2 c c1 c2, fn c c3]
      have P : PR A 8 (lvN n f1) := by
        refine ⟨cuR_c (aI 9 (by decide) (by decide) (by decide)) (aI 10 (by decide) (by decide) (by decide)) (fun c hc => lo2 c (by omega) (by omega) (by omega)) hR.1, ⟨a11.1, by rw [show A (8 + 3) 4 = f1 8 from a11.2, lc.2.2 8 (by omega) (by omega)], a12, fun j j0 j1 => ?_⟩, mkR_c (aI 15 (by decide) (by decide) (by decide)) (aI 16 (by decide) (by decide) (by decide)) (aI 17 (by decide) (by decide) (by decide)) (lo2 6 (by omega) (by omega) (by omega)) (fun c c1 c2 => lo2 c (by omega) (by omega) (by omega)) hR.2.2.1, ?_⟩
        · rw [lo2 8 (by omega) (by omega) (by omega)] at j1
          rw [lo2 (48 + j) (by omega) (by omega) (by omega), lo2 (80 + j) (by omega) (by omega) (by omega), show 8 + 3 + 2 = 13 by decide, show 8 + 3 + 3 = 14 by decide, aI 13 (by decide) (by decide) (by decide), aI 14 (by decide) (by decide) (by decide)]
          exact hR.2.1.2.2.2 j j0 j1
        · have o := hR.2.2.2
          unfold plR
          rw [aI 8 (by decide) (by decide) (by decide), aI (8 + 10) (by decide) (by decide) (by decide), lo2 4 (by omega) (by omega) (by omega), lo2 5 (by omega) (by omega) (by omega), lo2 2 (by omega) (by omega) (by omega), lo2 3 (by omega) (by omega) (by omega)]
          refine ⟨o.1, o.2.1, o.2.2.1, o.2.2.2.1, fun j j0 j1 j2 => ?_, fun j j0 j1 => ?_⟩
          · rw [lo2 (112 + j) (by omega) (by omega) (by omega)]; exact o.2.2.2.2.1 j j0 j1 j2
          · rw [show (8 + 11 : Nat) = 19 by decide, aq 19 (by decide) (by decide), sl j j0 j1, lc.2.2 _ (by omega) (by omega)]
      have V : pOk (I 88) (I 87 3) N (lvN n f1) := by
        refine ⟨⟨at_c (lo2 0 (by omega) (by omega) (by omega)) ha, ph_c (lo2 0 (by omega) (by omega) (by omega)) (lo2 1 (by omega) (by omega) (by omega)) hph, ?_, ?_, ?_, ?_, ?_, ?_, ?_, ?_, ?_⟩, laOk_c (fun c c1 c2 => lo2 c (by omega) (by omega) (by omega)) hv.2.1, ?_, fun c hc => by rw [lo2 c (by omega) (by omega) (by omega)]; exact hv.2.2.2 c hc⟩
        · rw [lc.2.2 13 (by omega) (by omega)]
          by_cases h : x = 6
          · have e : f1 13 = v := by rw [← fs, h]; rfl
            rw [e]
            rw [← hlo, ← hhi, if_pos h, if_pos h] at hb
            exact hb
          · rw [fn 13 (by omega)]; exact h13
        · rw [lc.2.2 14 (by omega) (by omega)]
          by_cases h : x = 7
          · have e : f1 14 = v := by rw [← fs, h]; rfl
            rw [e]
            rw [← hlo, ← hhi, if_neg (by omega), if_neg (by omega), if_neg (by omega), if_pos h] at hb
            exact hb
          · rw [fn 14 (by omega)]; exact h14
        · rw [lc.2.2 15 (by omega) (by omega)]; exact f15
        · rw [lc.2.2 16 (by omega) (by omega)]
          by_cases h : x = 9
          · have e : f1 16 = v := by rw [← fs, h]; rfl
            rw [e]
            rw [← hlo, ← hhi, if_neg (by omega), if_neg (by omega), if_neg (by omega), if_neg (by omega), if_neg (by omega), if_pos h] at hb
            exact hb
          · rw [fn 16 (by omega)]; exact h16
        · rw [lc.2.2 17 (by omega) (by omega)]
          by_cases h : x = 10
          · have e : f1 17 = v := by rw [← fs, h]; rfl
            rw [e]
            rw [← hlo, ← hhi, if_neg (by omega), if_neg (by omega), if_neg (by omega), if_neg (by omega), if_neg (by omega), if_neg (by omega)] at hb
            exact hb
          · rw [fn 17 (by omega)]; exact h17
        · rw [lc.2.2 15 (by omega) (by omega)]; omega
        · rw [lo2 8 (by omega) (by omega) (by omega)]; exact h8
        · rw [lo2 4 (by omega) (by omega) (by omega)]; exact h4
        · rw [lo2 6 (by omega) (by omega) (by omega)]; exact h6
        · rw [lo2 8 (by omega) (by omega) (by omega)]
          refine dj_map (fun y => if y < 48 then y + n else y) (fun y hy => ?_) (fun y y' hy hy' e => ?_) hv.2.2.1
          · unfold slt at hy ⊢
            rw [lc.1] at hy
            by_cases h : y < 48
            · rw [if_pos h]
              refine ⟨by omega, ?_⟩
              have := lc.2.1 (y - 42) (by omega) (by omega)
              rw [show 42 + (y - 42) = y by omega] at this
              rw [this, fn _ (by omega)]
            · rw [if_neg h]
              exact ⟨by omega, lo2 y (by omega) (by omega) (by omega)⟩
          · unfold slt at hy hy'
            rw [lc.1] at hy hy'
            split at e <;> split at e <;> omega
      have a93 : A 93 = I 93 := aI 93 (by decide) (by decide) (by decide)
      have a99 : A 99 = I 99 := aI 99 (by decide) (by decide) (by decide)
      refine ⟨I 93 (13 + (x - 6)), A, b, sP (sP (sI A 87 21 1) 99 (lvN n f1)) 93 (lvN n f1), ?_, ?_, ?_⟩
      · rw [c0, hR.2.2.2.2.2.2.2.2 _ (by omega) (by omega)]
      · have rs := r_seL (I := sI A 87 21 1) (b := b) (S := S) (a1 := x) (a2 := v) (a3 := I 93 (13 + (x - 6))) n f1 hn.symm (by omega) (by omega) (by omega)
        have ee : sI A 87 21 1 93 = I 93 := by funext j; rw [sI_p (by decide), a93]
        rw [ee, mix_Z hv.2.2.2 V.2.2.2] at rs
        have hw1 : wr (wr (13 + x) - 6) = 13 + (x - 6) := by rw [wr_id (a := 13 + x) (by omega) (by omega), wr_id (by omega) (by omega)]; omega
        rw [r1 A, if_pos hb, e194_29, if_neg (by decide), hw1, if_pos (by omega), a93, r_goesOn (Or.inr rfl), Option.bind_some, a93, a99, mix_Z hz hv.2.2.2]
        simp only [zpush_n]
        rw [e194_52, hw1, if_pos (by omega), sIP, hf, rs]
      · generalize hB : sP (sP (sI A 87 21 1) 99 (lvN n f1)) 93 (lvN n f1) = B
        have bA : ∀ q, q ≠ 87 → q ≠ 93 → q ≠ 99 → B q = A q := fun q q1 q2 q3 => by rw [← hB, sP_n q2, sP_n q3]; funext j; rw [sI_p q1]
        have b7 : ∀ j, j ≠ 21 → B 87 j = I 87 j := fun j hj => by rw [← hB, sP_n (by decide), sP_n (by decide), sI_k hj, aI 87 (by decide) (by decide) (by decide)]
        have b93 : B 93 = lvN n f1 := by rw [← hB, sP_s]
        have b99 : B 99 = lvN n f1 := by rw [← hB, sP_n (by decide), sP_s]
        have bI : ∀ q, q ≠ 87 → q ≠ 93 → q ≠ 99 → q ≠ 11 → q ≠ 12 → q ≠ 19 → B q = I q := fun q q1 q2 q3 q4 q5 q6 => (bA q q1 q2 q3).trans (aI q q4 q5 q6)
        refine Inv_play hI (by omega) (fun q hq => bI q (by omega) (by omega) (by omega) (by omega) (by omega) (by omega)) (fun j h1 h2 _ => b7 j h1) (by rw [bI 1 (by decide) (by decide) (by decide) (by decide) (by decide) (by decide), b7 28 (by decide)]; exact hm.2.1) ⟨?_, ?_, by rw [b99]; exact V.2.2.2⟩
        · rw [b93]
          have y := pOk_78 V
          exact PR_c (fun q q1 q2 => bA q (by omega) (by omega) (by omega)) (fun _ _ _ => rfl) y.1 y.2 P
        · rw [b93, bI 88 (by decide) (by decide) (by decide) (by decide) (by decide) (by decide), b7 3 (by decide)]
          exact pOk_m V (by omega)
    · refine op_ro (-1) hI ?_ ?_
      · rw [c0]
        by_cases h1 : v < lw
        · rw [if_pos h1]
        · rw [if_neg h1, if_neg (by omega)]
      · rw [r1 I, if_neg hb, e194_29, if_pos rfl]
  · rw [if_neg hx, e109_4, if_pos rfl] at c0
    exact op_ro (-1) hI c0 (by rw [r0 I, if_neg hx, e194_11, if_pos rfl])
theorem c_latchCell {v : Int} (hu : cuR' I 9 f) (hla : laOk f) : zrun 120 [vR 1, vL v] (I, zRs b, 103, S) = some (none, ((if 0 ≤ v ∧ v < 4 then sI I 9 3 (lav (up f (9 + v) 1)) else I), zRs b, 103, S)) := by
  rw [run120, e120_0]
  by_cases h1 : v < 0
  · rw [if_pos (by rw [if_pos h1]; decide), if_neg (by omega)]
  · rw [if_neg (by rw [if_neg h1]; split <;> decide)]
    by_cases h2 : v < 4
    · rw [if_neg (by rw [if_pos h2]; decide), if_pos (by omega), wr_id (by omega) (by omega), c_latchOn hu hla (by omega), Option.bind_some]
      simp only [zpush_s]
      rw [e120_26]
    · rw [if_pos (by rw [if_neg h2]; split <;> decide), if_neg (by omega)]
theorem laF_ok {v : Int} (h : pOk T pm N f) : pOk T pm N (laF v f) := by
  unfold laF
  split
  · rename_i z; exact pOk_la h z
  · exact h
theorem c_runL {k ln x cnt : Int} {s : Nat} {flt cl : Int → Int} {sz l0 : Int} {row : Int → Int} (hs : isSh s) (es : zRs b 24 k = s) (hk : 0 ≤ k ∧ k < 4) (hgb : zg b = g) (hg : g = 25 ∨ g = 38) (ok : tOk T) (po : poolOk T fs pl pm) (hsz : sz ≤ 30) (hx : -2147483648 ≤ x ∧ x ≤ 2147483647) (hflt : ∀ d, 0 ≤ d → d ≤ 20 → flt d = if 0 ≤ sz then (if ln = l0 then (if 0 ≤ x + d ∧ x + d < sz then 0 else 3) else 2) else 1) (hcl : ∀ d, cl d = row (x + d)) : ∀ (n : Nat) (I : Nat → Int → Int) (d M : Int) (f : Int → Int), d + n = cnt → 0 ≤ d → cnt ≤ 20 → I s 2 = sz → I s 1 = l0 → I (s + 1) = row → I 1 9 = 0 → pgm I g T fs pl pm → PR I 8 f → pOk T pm M f → M + 1000 * n < 2147300000 → ∃ I', zX 116 36 [vR 1, vI k, vI ln, vI x, vI cnt, vI d] [] (I, zRs b, 103, S) = some (some (vI (rnC flt n d).1), (I', zRs b, 103, S)) ∧ I' 1 9 = (rnC flt n d).2 ∧ PR I' 8 (rnF T fs flt cl n d f) ∧ pOk T pm (M + 1000 * n) (rnF T fs flt cl n d f) ∧ rnP T fs flt cl (pOk T pm (M + 1000 * n)) n d f ∧ (∀ q, (1 < q ∧ q < 8) ∨ 21 < q → I' q = I q) ∧ ∀ j, j ≠ 9 → I' 1 j = I 1 j := by
  intro n
  induction n with
  | zero =>
    intro I d M f h0 h1 h2 i1 i2 i3 i4 hp hR hv hM
    refine ⟨I, ?_, i4, hR, pOk_m hv (by omega), trivial, fun _ _ => rfl, fun _ _ => rfl⟩
    rw [e116_36 hs es, if_pos (by omega)]
    have e : cnt = d := by omega
    rw [e]
    rfl
  | succ n ih =>
    intro I d M f h0 h1 h2 i1 i2 i3 i4 hp hR hv hM
    have z := pOk_78 hv
    have fd := hflt d h1 (by omega)
    have zz := zg_or b
    have wd : (0 ≤ wr (x + d) ∧ wr (x + d) < sz) ↔ (0 ≤ x + d ∧ x + d < sz) := by
      by_cases h : x + d ≤ 2147483647
      · rw [wr_id (by omega) h]
      · have := wr_hi (y := x + d) (by omega) (by omega)
        omega
    have cf : zrun 82 [vR s, vI ln, vI (wr (x + d))] (I, zRs b, 103, S) = some (some (vI (flt d)), (I, zRs b, 103, S)) := by
      rw [run82, e82_0 hs, i1, i2, fd]
      by_cases q1 : 0 ≤ sz
      · rw [if_pos q1, if_pos q1]
        by_cases q2 : ln = l0
        · rw [if_pos q2, if_pos q2]
          by_cases q3 : wr (x + d) < 0
          · rw [if_pos q3, if_neg (fun y => by have := wd.mpr y; omega)]
          · rw [if_neg q3]
            by_cases q4 : wr (x + d) < sz
            · rw [if_pos q4, if_pos (wd.mp ⟨by omega, q4⟩)]
            · rw [if_neg q4, if_neg (fun y => by have := wd.mpr y; omega)]
        · rw [if_neg q2, if_neg q2]
      · rw [if_neg q1, if_neg q1]
    have st : zX 116 36 [vR 1, vI k, vI ln, vI x, vI cnt, vI d] [] (I, zRs b, 103, S) = zX 116 58 [vR 1, vI k, vI ln, vI x, vI cnt, vI d] [vI (flt d), vR 1] (I, zRs b, 103, S) := by
      rw [e116_36 hs es, if_neg (by omega), if_pos hk, cf, Option.bind_some]
      simp only [zpush_s]
    rw [e116_58 hs es, if_pos hk] at st
    by_cases hf0 : flt d = 0
    · rw [if_pos hf0, hf0] at st
      have rg : 0 ≤ x + d ∧ x + d < sz := by
        rw [hf0] at fd
        by_cases q1 : 0 ≤ sz
        · rw [if_pos q1] at fd
          by_cases q2 : ln = l0
          · rw [if_pos q2] at fd
            by_cases q3 : 0 ≤ x + d ∧ x + d < sz
            · exact q3
            · rw [if_neg q3] at fd; omega
          · rw [if_neg q2] at fd; omega
        · rw [if_neg q1] at fd; omega
      have i0 : sI I 1 9 0 = I := by
        funext q j
        unfold sI
        split
        · rename_i y; rw [y.1, y.2, i4]
        · rfl
      rw [wr_id (a := x + d) (by omega) (by omega), if_pos (by omega), i0, i3, ← hcl d, c_latchCell hR.1.2 hv.2.1, Option.bind_some] at st
      simp only [zpush_n] at st
      generalize hA : (if 0 ≤ cl d ∧ cl d < 4 then sI I 9 3 (lav (up f (9 + cl d) 1)) else I) = A at st
      have aI : ∀ q, q ≠ 9 → A q = I q := fun q hq => by
        rw [← hA]
        split
        · funext j; rw [sI_p hq]
        · rfl
      have aR : PR A 8 (laF (cl d) f) := by
        rw [← hA]
        unfold laF
        split
        · rename_i y; exact PR_la hR y z.1 z.2
        · exact hR
      obtain ⟨J, j1, j2, j3, j4⟩ := c_step (b := b) (S := S) hg ok po (pgm_fr (fun q q1 q2 => aI q (by omega)) hp) aR (laF_ok (v := cl d) hv) (by omega)
      have jI : ∀ q, q < 8 ∨ 21 < q → J q = I q := fun q hq => (j4 q hq).trans (aI q (by omega))
      obtain ⟨K, k1, k2, k3, k4, k5, k6, k7⟩ := ih J (d + 1) (M + 1000) (tiF T fs (laF (cl d) f)) (by omega) (by omega) h2 (by rw [jI s (by omega)]; exact i1) (by rw [jI s (by omega)]; exact i2) (by rw [jI (s + 1) (by omega)]; exact i3) (by rw [jI 1 (by omega)]; exact i4) (pgm_fr (fun q q1 q2 => jI q (by omega)) hp) j2 j3 (by omega)
      have eM : M + 1000 + 1000 * (n : Int) = M + 1000 * ((n + 1 : Nat) : Int) := by omega
      rw [eM] at k4 k5
      have rc : rnC flt (n + 1) d = rnC flt n (d + 1) := by show (if flt d = 0 then _ else _) = _; rw [if_pos hf0]
      have rf : rnF T fs flt cl (n + 1) d f = rnF T fs flt cl n (d + 1) (tiF T fs (laF (cl d) f)) := by show (if flt d = 0 then _ else _) = _; rw [if_pos hf0]
      rw [rc, rf]
      refine ⟨K, ?_, k2, k3, k4, fun _ => ⟨pOk_m (laF_ok hv) (by omega), pOk_m j3 (by omega), k5⟩, fun q hq => (k6 q hq).trans (jI q (by omega)), fun j hj => (k7 j hj).trans (by rw [jI 1 (by omega)])⟩
      rw [st, e116_89, hgb, j1, Option.bind_some]
      simp only [zpush_n]
      rw [e116_100, wr_id (by omega) (by omega), k1]
    · rw [if_neg hf0] at st
      have rc : rnC flt (n + 1) d = (d, flt d) := by show (if flt d = 0 then _ else _) = _; rw [if_neg hf0]
      have rf : rnF T fs flt cl (n + 1) d f = f := by show (if flt d = 0 then _ else _) = _; rw [if_neg hf0]
      rw [rc, rf]
      have fr : ∀ q, q ≠ 1 → sI I 1 9 (flt d) q = I q := fun q hq => by funext j; rw [sI_p hq]
      exact ⟨_, st, sI_s, PR_c (fun q q1 q2 => fr q (by omega)) (fun _ _ _ => rfl) z.1 z.2 hR, pOk_m hv (by omega), fun y => absurd y hf0, fun q hq => fr q (by omega), fun j hj => sI_k hj⟩
theorem r_runL {k ln x cnt : Int} {flt cl : Int → Int} {B : Int} (hk : 0 ≤ k ∧ k < 4) (hB : B < 2147300000) (hx : -2147483648 ≤ x ∧ x ≤ 2147483647) : ∀ (n : Nat) (I : Nat → Int → Int) (d : Int) (w6 w8 : zV), d + n = cnt → 0 ≤ d → cnt ≤ 20 → 0 ≤ I 102 k → I 102 k ≤ 30 → (∀ d, 0 ≤ d → d ≤ 20 → flt d = if I 101 k = -4 then 1 else if I 101 k = ln then (if 0 ≤ x + d ∧ x + d < I 102 k then 0 else 3) else 2) → (∀ d, 0 ≤ d → d ≤ 20 → 0 ≤ x + d → x + d < 30 → cl d = I 103 (30 * k + (x + d))) → I 87 28 = 0 → tOk (I 88) → fsOk (I 88) (I 91) → pOk (I 88) pm B (I 93) → rnP (I 88) (I 91) flt cl (pOk (I 88) pm B) n d (I 93) → Z0 (I 99) → ∃ I', zX 204 31 [vR 87, vI k, vI ln, vI x, vI cnt, vI d, w6, none, w8] [] (I, zRs b, 103, S) = some (some (vI (rnC flt n d).1), (I', zRs b, 103, S)) ∧ I' 87 28 = (rnC flt n d).2 ∧ I' 93 = rnF (I 88) (I 91) flt cl n d (I 93) ∧ Z0 (I' 99) ∧ (∀ q, q ≠ 87 → q ≠ 93 → q ≠ 99 → q ≠ 100 → I' q = I q) ∧ ∀ j, j ≠ 21 → j ≠ 23 → j ≠ 28 → I' 87 j = I 87 j := by
  intro n
  induction n with
  | zero =>
    intro I d w6 w8 h0 h1 h2 s1 s2 hf hc i4 ok hfs hv hP hz
    refine ⟨I, ?_, i4, rfl, hz, fun _ _ _ _ _ => rfl, fun _ _ _ _ => rfl⟩
    rw [e204_31, if_pos (by omega)]
    rfl
  | succ n ih =>
    intro I d w6 w8 h0 h1 h2 s1 s2 hf hc i4 ok hfs hv hP hz
    have fd := hf d h1 (by omega)
    have fin : ∀ (t : Int) (w : zV), t ≠ 0 → flt d = t → zX 204 31 [vR 87, vI k, vI ln, vI x, vI cnt, vI d, w, none, w8] [] (sI I 87 28 t, zRs b, 103, S) = some (some (vI d), (sI I 87 28 t, zRs b, 103, S)) := fun t w ht _ => by
      rw [e204_31, if_neg (by omega), sI_s, if_neg ht]
    have don : ∀ t : Int, t ≠ 0 → flt d = t → zX 204 31 [vR 87, vI k, vI ln, vI x, vI cnt, vI d, w6, none, w8] [] (I, zRs b, 103, S) = some (some (vI d), (sI I 87 28 t, zRs b, 103, S)) → ∃ I', zX 204 31 [vR 87, vI k, vI ln, vI x, vI cnt, vI d, w6, none, w8] [] (I, zRs b, 103, S) = some (some (vI (rnC flt (n + 1) d).1), (I', zRs b, 103, S)) ∧ I' 87 28 = (rnC flt (n + 1) d).2 ∧ I' 93 = rnF (I 88) (I 91) flt cl (n + 1) d (I 93) ∧ Z0 (I' 99) ∧ (∀ q, q ≠ 87 → q ≠ 93 → q ≠ 99 → q ≠ 100 → I' q = I q) ∧ ∀ j, j ≠ 21 → j ≠ 23 → j ≠ 28 → I' 87 j = I 87 j := fun t ht ft e => by
      have rc : rnC flt (n + 1) d = (d, t) := by show (if flt d = 0 then _ else _) = _; rw [if_neg (by omega), ft]
      have rf : rnF (I 88) (I 91) flt cl (n + 1) d (I 93) = I 93 := by show (if flt d = 0 then _ else _) = _; rw [if_neg (by omega)]
      rw [rc, rf]
      have e99 : sI I 87 28 t 99 = I 99 := by funext j; rw [sI_p (by decide)]
      exact ⟨_, e, sI_s, by funext j; rw [sI_p (by decide)], by rw [e99]; exact hz, fun q q1 _ _ _ => by funext j; rw [sI_p q1], fun j _ _ j3 => sI_k j3⟩
    have st := e204_31 (I := I) (b := b) (S := S) (a1 := k) (a2 := ln) (a3 := x) (a4 := cnt) (a5 := d) (w6 := w6) (w8 := w8)
    rw [if_neg (by omega), i4, if_pos rfl, if_pos hk, if_pos hk, if_pos hk, wl_id (by omega) (by omega)] at st
    by_cases q1 : I 101 k = -4
    · rw [if_pos q1] at fd st
      exact don 1 (by decide) fd (st.trans (fin 1 _ (by decide) fd))
    · rw [if_neg q1] at fd st
      by_cases q2 : I 101 k = ln
      · rw [if_pos q2] at fd st
        rw [r_in, Option.bind_some, wr_id (a := I 102 k - 1) (by omega) (by omega)] at st
        simp only [zpush_s] at st
        rw [e204_98, z01] at st
        by_cases q3 : 0 ≤ x + d ∧ x + d < I 102 k
        · rw [if_pos q3] at fd
          rw [if_pos (show 0 ≤ x + d ∧ x + d ≤ I 102 k - 1 by omega), wr_id (a := x + d) (by omega) (by omega), wr_id (a := 30 * k) (by omega) (by omega), wr_id (a := 30 * k + (x + d)) (by omega) (by omega), if_pos (by omega), r_in, Option.bind_some] at st
          simp only [zpush_s] at st
          rw [← hc d h1 (by omega) q3.1 (by omega), e204_141, z01] at st
          have i0 : sI I 87 28 0 = I := by
            funext q j
            unfold sI
            split
            · rename_i y; rw [y.1, y.2, i4]
            · rfl
          rw [i0] at st
          have P1 := hP fd
          have body : ∃ A, zX 204 31 [vR 87, vI k, vI ln, vI x, vI cnt, vI d, w6, none, w8] [] (I, zRs b, 103, S) = (zrun 179 [vR 87] (A, zRs b, 103, S)).bind (fun q => zX 204 159 [vR 87, vI k, vI ln, vI x, vI cnt, vI d, vL (x + d), none, vI (cl d)] (zpush q.1 []) q.2) ∧ A 93 = laF (cl d) (I 93) ∧ ∀ q, q ≠ 93 → A q = I q := by
            unfold laF
            by_cases q4 : 0 ≤ cl d ∧ cl d < 4
            · rw [if_pos (show 0 ≤ cl d ∧ cl d ≤ 3 by omega), wr_id (a := 9 + cl d) (by omega) (by omega), if_pos (by omega)] at st
              refine ⟨_, st, ?_, fun q hq => by funext j; rw [sI_p hq]⟩
              rw [if_pos q4, sI_sP, sP_s]
            · rw [if_neg (show ¬ (0 ≤ cl d ∧ cl d ≤ 3) by omega)] at st
              exact ⟨_, st, by rw [if_neg q4], fun _ _ => rfl⟩
          obtain ⟨A, st, a93, aI⟩ := body
          have a88 := aI 88 (by decide)
          have a91 := aI 91 (by decide)
          have a87 := aI 87 (by decide)
          have a99 := aI 99 (by decide)
          obtain ⟨X, Y, e⟩ := r_ticks (I := A) (b := b) (S := S) (N := B) (by rw [a88]; exact ok) (by rw [a88, a91]; exact hfs) (by rw [a88, a93]; exact P1.1.1) (by omega) (by rw [a93]; exact P1.1.2.2.2) (by rw [a99]; exact hz)
          rw [a88, a91, a93, a87] at e
          generalize hJ : sP (sP (sP (sP A 100 X) 87 (up (up (I 87) 21 1) 23 Y)) 99 (tiF (I 88) (I 91) (laF (cl d) (I 93)))) 93 (tiF (I 88) (I 91) (laF (cl d) (I 93))) = J at e
          have j93 : J 93 = tiF (I 88) (I 91) (laF (cl d) (I 93)) := by rw [← hJ, sP_s]
          have j99 : J 99 = tiF (I 88) (I 91) (laF (cl d) (I 93)) := by rw [← hJ, sP_n (by decide), sP_s]
          have jf : ∀ q, q ≠ 87 → q ≠ 93 → q ≠ 99 → q ≠ 100 → J q = I q := fun q q1 q2 q3 q4 => by rw [← hJ, sP_n q2, sP_n q3, sP_n q1, sP_n q4, aI q q2]
          have j7 : ∀ j, j ≠ 21 → j ≠ 23 → J 87 j = I 87 j := fun j h1 h2 => by rw [← hJ, sP_n (by decide), sP_n (by decide), sP_s, up_n h2, up_n h1]
          have j88 := jf 88 (by decide) (by decide) (by decide) (by decide)
          have j91 := jf 91 (by decide) (by decide) (by decide) (by decide)
          have j101 := jf 101 (by decide) (by decide) (by decide) (by decide)
          have j102 := jf 102 (by decide) (by decide) (by decide) (by decide)
          have j103 := jf 103 (by decide) (by decide) (by decide) (by decide)
          obtain ⟨K, k1, k2, k3, k4, k5, k6⟩ := ih J (d + 1) (vL (x + d)) (vI (cl d)) (by omega) (by omega) h2 (by rw [j102]; exact s1) (by rw [j102]; exact s2) (by rw [j101, j102]; exact hf) (by rw [j103]; exact hc) (by rw [j7 28 (by decide) (by decide)]; exact i4) (by rw [j88]; exact ok) (by rw [j88, j91]; exact hfs) (by rw [j88, j93]; exact P1.2.1) (by rw [j88, j91, j93]; exact P1.2.2) (by rw [j99]; exact P1.2.1.2.2.2)
          rw [j88, j91, j93] at k3
          have rc : rnC flt (n + 1) d = rnC flt n (d + 1) := by show (if flt d = 0 then _ else _) = _; rw [if_pos fd]
          have rf : rnF (I 88) (I 91) flt cl (n + 1) d (I 93) = rnF (I 88) (I 91) flt cl n (d + 1) (tiF (I 88) (I 91) (laF (cl d) (I 93))) := by show (if flt d = 0 then _ else _) = _; rw [if_pos fd]
          rw [rc, rf]
          refine ⟨K, ?_, k2, k3, k4, fun q q1 q2 q3 q4 => (k5 q q1 q2 q3 q4).trans (jf q q1 q2 q3 q4), fun j h1 h2 h3 => (k6 j h1 h2 h3).trans (j7 j h1 h2)⟩
          rw [st, e, Option.bind_some]
          simp only [zpush_n]
          rw [e204_159, wr_id (by omega) (by omega), k1]
        · rw [if_neg q3] at fd
          rw [if_neg (show ¬ (0 ≤ x + d ∧ x + d ≤ I 102 k - 1) by omega)] at st
          exact don 3 (by decide) fd (st.trans (fin 3 _ (by decide) fd))
      · rw [if_neg q2] at fd st
        exact don 2 (by decide) fd (st.trans (fin 2 _ (by decide) fd))
theorem op_run {k ln x cnt : Int} (hI : Inv I b N J0) (hN : N < 2147000000) (hx : -2147483648 ≤ x ∧ x ≤ 2147483647) : opOk 116 204 [vI k, vI ln, vI x, vI cnt] I b S N J0 := by
  obtain ⟨_, ⟨ok, po, hp, hc, _⟩, ⟨hR, hv, hz⟩, _, hs, hm, _⟩ := id hI
  have zz := zg_or b
  have c0 : zrun 116 [vR 1, vI k, vI ln, vI x, vI cnt] (I, zRs b, 103, S) = zX 116 4 [vR 1, vI k, vI ln, vI x, vI cnt, none] [vI (if 0 ≤ k ∧ k < 4 then 1 else 0)] (I, zRs b, 103, S) := by
    rw [run116, e116_0, c_isSheet, Option.bind_some]
    simp only [zpush_s]
  have r0 : ∀ J, zrun 204 [vR 87, vI k, vI ln, vI x, vI cnt] (J, zRs b, 103, S) = zX 204 5 [vR 87, vI k, vI ln, vI x, vI cnt, none, none, none, none] [vI (if (0 ≤ k ∧ k < 4) ∧ 0 ≤ ln ∧ ln ≤ 1 then 1 else 0)] (J, zRs b, 103, S) := fun J => by
    rw [run204, e204_0, r_isSheet, Option.bind_some]
    simp only [zpush_s]
  by_cases hk : 0 ≤ k ∧ k < 4
  · rw [if_pos hk, e116_4, if_neg (by decide), c_isLane, Option.bind_some] at c0
    simp only [zpush_s] at c0
    rw [e116_11, z01] at c0
    by_cases hl : 0 ≤ ln ∧ ln ≤ 1
    · rw [if_pos hl] at c0
      have r1 : ∀ J, zrun 204 [vR 87, vI k, vI ln, vI x, vI cnt] (J, zRs b, 103, S) = zX 204 18 [vR 87, vI k, vI ln, vI x, vI cnt, none, none, none, none] [vI (if 0 ≤ cnt ∧ cnt ≤ 20 then 1 else 0)] (J, zRs b, 103, S) := fun J => by
        rw [r0 J, if_pos ⟨hk, hl⟩, e204_5, if_neg (by decide), r_in, Option.bind_some]
        simp only [zpush_s]
      by_cases hn : 0 ≤ cnt ∧ cnt ≤ 20
      · rw [if_neg (by omega), if_pos hn.2] at c0
        obtain ⟨s, s1, s2, s3⟩ := sh_p (b := b) hk
        have o := iSh_of hs hk s3
        have z := pOk_78 hv
        have fr0 : ∀ q, q ≠ 1 → sI I 1 9 0 q = I q := fun q hq => by funext j; rw [sI_p hq]
        have R0 : PR (sI I 1 9 0) 8 (I 93) := PR_c (fun q q1 q2 => fr0 q (by omega)) (fun _ _ _ => rfl) z.1 z.2 hR
        obtain ⟨J, j1, j2, j3, j4, j5, j6, j7⟩ := c_runL (b := b) (S := S) (k := k) (ln := ln) (x := x) (cnt := cnt) (s := s) (flt := fun d => if 0 ≤ I s 2 then (if ln = I s 1 then (if 0 ≤ x + d ∧ x + d < I s 2 then 0 else 3) else 2) else 1) (cl := fun d => I (s + 1) (x + d)) (sz := I s 2) (l0 := I s 1) (row := I (s + 1)) s1 s2 hk rfl (zg_or b) ok po (by rcases o with o | o <;> omega) hx (fun d _ _ => rfl) (fun d => rfl) cnt.toNat (sI I 1 9 0) 0 N (I 93) (by omega) (by omega) hn.2 (by rw [fr0 s (by omega)]) (by rw [fr0 s (by omega)]) (by rw [fr0 (s + 1) (by omega)]) sI_s (pgm_fr (fun q q1 q2 => fr0 q (by omega)) hp) R0 hv (by omega)
        generalize hflt : (fun d : Int => if 0 ≤ I s 2 then (if ln = I s 1 then (if 0 ≤ x + d ∧ x + d < I s 2 then (0 : Int) else 3) else 2) else 1) = flt at j1 j2 j3 j4 j5
        have hflt' : ∀ d, flt d = if 0 ≤ I s 2 then (if ln = I s 1 then (if 0 ≤ x + d ∧ x + d < I s 2 then (0 : Int) else 3) else 2) else 1 := fun d => by rw [← hflt]
        have jI : ∀ q, (1 < q ∧ q < 8) ∨ 21 < q → J q = I q := fun q hq => (j6 q hq).trans (fr0 q (by omega))
        generalize hA : sI J 87 28 0 = A
        have aJ : ∀ q, q ≠ 87 → A q = J q := fun q hq => by rw [← hA]; funext j; rw [sI_p hq]
        have aI : ∀ q, 21 < q → q ≠ 87 → A q = I q := fun q h1 h2 => (aJ q h2).trans (jI q (by omega))
        have a28 : A 87 28 = 0 := by rw [← hA, sI_s]
        have a7 : ∀ j, j ≠ 28 → A 87 j = I 87 j := fun j hj => by rw [← hA, sI_k hj, jI 87 (by omega)]
        have a88 := aI 88 (by omega) (by omega)
        have a91 := aI 91 (by omega) (by omega)
        have a93 := aI 93 (by omega) (by omega)
        have a99 := aI 99 (by omega) (by omega)
        have a101 := aI 101 (by omega) (by omega)
        have a102 := aI 102 (by omega) (by omega)
        have a103 := aI 103 (by omega) (by omega)
        have eB : N + 1000 * (cnt.toNat : Int) ≤ N + 30000 := by omega
        have szz : 0 ≤ I s 2 → I 101 k ≠ -4 ∧ I s 1 = I 101 k ∧ I s 2 = I 102 k ∧ (0 ≤ I 102 k ∧ I 102 k ≤ 30) ∧ ∀ j, 0 ≤ j → j < 30 → I (s + 1) j = I 103 (30 * k + j) := fun h => by
          rcases o with o | ⟨o1, o2, o3, o4, o5⟩
          · omega
          · exact ⟨by omega, o2, o3, o4, o5⟩
        by_cases hsz : 0 ≤ I s 2
        · obtain ⟨o1, o2, o3, o4, o5⟩ := szz hsz
          obtain ⟨K, k1, k2, k3, k4, k5, k6⟩ := r_runL (b := b) (S := S) (pm := I 87 3) (k := k) (ln := ln) (x := x) (cnt := cnt) (flt := flt) (cl := fun d => I (s + 1) (x + d)) (B := N + 1000 * (cnt.toNat : Int)) hk (by omega) hx cnt.toNat A 0 none none (by omega) (by omega) hn.2 (by rw [a102]; exact o4.1) (by rw [a102]; exact o4.2) (fun d _ _ => by
              rw [hflt', a101, a102, if_pos hsz, if_neg o1, o2, o3]
              by_cases y : ln = I 101 k
              · rw [if_pos y, if_pos y.symm]
              · rw [if_neg y, if_neg (fun w => y w.symm)]) (fun d _ _ x0 x1 => by rw [a103]; exact o5 _ x0 x1) a28 (by rw [a88]; exact ok) (by rw [a88, a91]; exact pool_fs ok po) (by rw [a88, a93]; exact pOk_m hv (by omega)) (by rw [a88, a91, a93]; exact j5) (by rw [a99]; exact hz)
          rw [a88, a91, a93] at k3
          refine ⟨_, J, b, K, c0.trans j1, ?_, ?_⟩
          · rw [r1 J, if_pos hn, e204_18, if_neg (by decide), hA, k1]
          · have kI : ∀ q, (1 < q ∧ q < 8) ∨ 21 < q → q ≠ 87 → q ≠ 93 → q ≠ 99 → q ≠ 100 → K q = I q := fun q q0 q1 q2 q3 q4 => (k5 q q1 q2 q3 q4).trans ((aJ q q1).trans (jI q q0))
            have k7 : ∀ j, j ≠ 21 → j ≠ 23 → j ≠ 28 → K 87 j = I 87 j := fun j h1 h2 h3 => (k6 j h1 h2 h3).trans (a7 j h3)
            have y := pOk_78 j4
            refine Inv_play hI (by omega) (fun q hq => kI q (by omega) (by omega) (by omega) (by omega) (by omega)) k7 (by rw [k5 1 (by decide) (by decide) (by decide) (by decide), aJ 1 (by decide), j2, k2]) ⟨?_, ?_, k4⟩
            · rw [k3]
              exact PR_c (fun q q1 q2 => (k5 q (by omega) (by omega) (by omega) (by omega)).trans (aJ q (by omega))) (fun _ _ _ => rfl) y.1 y.2 j3
            · rw [k3, kI 88 (by omega) (by omega) (by omega) (by omega) (by omega), k7 3 (by omega) (by omega) (by omega)]
              exact pOk_m j4 eB
        · have o1 : I 101 k = -4 := by
            rcases o with o | ⟨_, _, o3, o4, _⟩
            · exact o.1
            · omega
          have f1 : ∀ d, flt d = 1 := fun d => by rw [hflt', if_neg hsz]
          have rn : ∀ m : Nat, (m = 0 ∨ 0 < m) → rnF (I 88) (I 91) flt (fun d => I (s + 1) (x + d)) m 0 (I 93) = I 93 ∧ ∃ t, rnC flt m 0 = (0, t) ∧ (t = if m = 0 then 0 else 1) := fun m _ => by
            cases m with
            | zero => exact ⟨rfl, 0, rfl, rfl⟩
            | succ m =>
              refine ⟨?_, 1, ?_, by rw [if_neg (by omega)]⟩
              · show (if flt 0 = 0 then _ else _) = _; rw [f1, if_neg (by decide)]
              · show (if flt 0 = 0 then _ else _) = _; rw [f1, if_neg (by decide)]
          obtain ⟨n1, t, n2, n3⟩ := rn cnt.toNat (by omega)
          rw [n2] at j1 j2
          rw [n1] at j3
          have rr : zX 204 31 [vR 87, vI k, vI ln, vI x, vI cnt, vI 0, none, none, none] [] (A, zRs b, 103, S) = some (some (vI 0), (sI A 87 28 t, zRs b, 103, S)) := by
            rw [e204_31]
            by_cases h : cnt ≤ 0
            · rw [if_pos h]
              have e : sI A 87 28 t = A := by
                rw [n3, if_pos (by omega)]
                funext q j
                unfold sI
                split
                · rename_i y; rw [y.1, y.2, a28]
                · rfl
              rw [e]
            · rw [if_neg h, a28, if_pos rfl, if_pos hk, a101, if_pos o1, e204_31, if_neg h, sI_s, if_neg (by decide), n3, if_neg (by omega)]
          refine ⟨_, J, b, sI A 87 28 t, c0.trans j1, ?_, ?_⟩
          · rw [r1 J, if_pos hn, e204_18, if_neg (by decide), hA, rr]
          · have kA : ∀ q, q ≠ 87 → sI A 87 28 t q = A q := fun q hq => by funext j; rw [sI_p hq]
            have kI : ∀ q, (1 < q ∧ q < 8) ∨ 21 < q → q ≠ 87 → sI A 87 28 t q = I q := fun q q0 q1 => (kA q q1).trans ((aJ q q1).trans (jI q q0))
            refine Inv_play hI (by omega) (fun q hq => kI q (by omega) (by omega)) (fun j _ _ h3 => by rw [sI_k h3, a7 j h3]) (by rw [kA 1 (by decide), aJ 1 (by decide), j2, sI_s]) ⟨?_, ?_, ?_⟩
            · rw [kI 93 (by omega) (by omega)]
              exact PR_c (fun q q1 q2 => (kA q (by omega)).trans (aJ q (by omega))) (fun _ _ _ => rfl) z.1 z.2 j3
            · rw [kI 93 (by omega) (by omega), kI 88 (by omega) (by omega), sI_k (by decide), a7 3 (by decide)]
              exact pOk_m hv (by omega)
            · rw [kI 99 (by omega) (by omega)]; exact hz
      · have c1 : zrun 116 [vR 1, vI k, vI ln, vI x, vI cnt] (I, zRs b, 103, S) = some (some (vI (-1)), (I, zRs b, 103, S)) := by
          rw [c0]
          by_cases h : cnt < 0
          · rw [if_pos h]
          · rw [if_neg h, if_neg (by omega)]
        exact op_ro (-1) hI c1 (by rw [r1 I, if_neg hn, e204_18, if_pos rfl])
    · rw [if_neg hl] at c0
      exact op_ro (-1) hI c0 (by rw [r0 I, if_neg (fun z => hl z.2), e204_5, if_pos rfl])
  · rw [if_neg hk, e116_4, if_pos rfl] at c0
    exact op_ro (-1) hI c0 (by rw [r0 I, if_neg (fun z => hk z.1), e204_5, if_pos rfl])
end A49
