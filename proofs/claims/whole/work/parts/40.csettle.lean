/-! ===== the class settles and goes on ===== -/
theorem frC_t {c lg lg' : Nat} {I I' I'' : Nat → Int → Int} (h : frC c lg' I I') (h2 : frC c lg I' I'') (hl : lg' = 0 ∨ lg' = lg) : frC c lg I I'' := fun q q1 q2 q3 => (h2 q q1 q2 q3).trans (h q q1 q2 (by rcases hl with z | z; exact Or.inl z; exact z ▸ q3))
theorem mkR_fi {I : Nat → Int → Int} {k : Nat} {T : Int → Int} {r : Int × (Int → Int)} (h : mkR I k r.2) : mkR I k (fi T r) := by
  refine mkR_c rfl rfl rfl ?_ (fun c c1 c2 => ?_) h
  · unfold fi; split
    · rw [up_n (by omega), up_n (by omega)]
    · rw [up_n (by omega)]
  · unfold fi; split
    · rw [up_n (by omega), up_n (by omega)]
    · rw [up_n (by omega)]
theorem la_fi {T : Int → Int} {r : Int × (Int → Int)} (h : laOk r.2) : laOk (fi T r) := by
  refine laOk_c (fun c c1 c2 => ?_) h
  unfold fi; split
  · rw [up_n (by omega), up_n (by omega)]
  · rw [up_n (by omega)]
theorem c_setL {b : Bool} {S : Nat} {T fs pl : Int → Int} {pm : Int} {c g lg : Nat} {lgv clk a2 : Int} (hc : c = 9 ∨ c = 20) (hg : g = 25 ∨ g = 38) (ok : tOk T) (hl : (lg = 0 ∧ lgv = 0) ∨ (lg = 15 ∧ lgv = 1)) : ∀ (n : Nat) (I : Nat → Int → Int) (i k : Int) (f : Int → Int) r, stN T lgv n i f = some r → pgm I g T fs pl pm → cuR' I c f → laOk f → (lg = 15 → mkR I 15 f) → clk = f 2 → 0 ≤ i → 0 ≤ k → k + n + 1 ≤ 48 → 0 ≤ f 6 → f 6 + n < 2147483647 → ∃ I', zX 9 6 [vR c, vR g, vI a2, vR lg, vI clk, vI i, vI k] [] (I, zRs b, 103, S) = some (none, (I', zRs b, 103, S)) ∧ cuR I' c (fi T r) ∧ laOk (fi T r) ∧ (lg = 15 → mkR I' 15 (fi T r)) ∧ frC c lg I I' := by
  have h24 := ok.2.1
  have hl' : lg = 0 ∨ lg = 15 := by omega
  have cc := cc_cur hc
  have gg : isProg g := hg
  have stop : ∀ (I : Nat → Int → Int) (i k : Int) (f : Int → Int), (T 1 ≤ i ∨ kd T i = 0) → pgm I g T fs pl pm → cuR' I c f → laOk f → (lg = 15 → mkR I 15 f) → 0 ≤ i → k + 1 ≤ 48 → ∃ I', zX 9 6 [vR c, vR g, vI a2, vR lg, vI clk, vI i, vI k] [] (I, zRs b, 103, S) = some (none, (I', zRs b, 103, S)) ∧ cuR I' c (fi T (i, f)) ∧ laOk (fi T (i, f)) ∧ (lg = 15 → mkR I' 15 (fi T (i, f))) ∧ frC c lg I I' := by
    intro I i k f hs hp hu hla hm i0 hk
    rw [e9_6 cc gg hl', if_neg (by omega), if_neg (by omega), hp.1]
    by_cases h1 : T 1 ≤ i
    · rw [if_pos h1]
      refine ⟨_, rfl, ?_, la_fi hla, fun z => mkR_fi (mkR_c ?_ ?_ ?_ rfl (fun _ _ _ => rfl) (hm z)), fun q q1 q2 _ => by funext j; rw [sI_p q1, sI_p q1]⟩
      · unfold fi
        rw [if_pos h1]
        have a := cu_phase (v := 0) (cu_at (v := -4) hu).2
        exact ⟨by rw [sI_k (by decide), sI_s, up_n (by omega), up_s], a⟩
      · funext j; rw [sI_p (by omega), sI_p (by omega)]
      · funext j; rw [sI_p (by omega), sI_p (by omega)]
      · funext j; rw [sI_p (by omega), sI_p (by omega)]
    · rw [if_neg h1, (hp.2.1 i i0 (by omega)).1, if_pos (by omega), if_pos (by omega)]
      refine ⟨_, rfl, ?_, la_fi hla, fun z => mkR_fi (mkR_c ?_ ?_ ?_ rfl (fun _ _ _ => rfl) (hm z)), fun q q1 q2 _ => by funext j; rw [sI_p q1]⟩
      · unfold fi
        rw [if_neg h1]
        exact cu_at hu
      · funext j; rw [sI_p (by omega)]
      · funext j; rw [sI_p (by omega)]
      · funext j; rw [sI_p (by omega)]
  intro n
  induction n with
  | zero =>
    intro I i k f r h hp hu hla hm hclk i0 k0 hk h6 h7
    by_cases hs : T 1 ≤ i ∨ kd T i = 0
    · rw [stN_stop hs] at h; cases h
      exact stop I i k f hs hp hu hla hm i0 (by omega)
    · rw [stN_0 hs] at h; cases h
  | succ n ih =>
    intro I i k f r h hp hu hla hm hclk i0 k0 hk h6 h7
    by_cases hs : T 1 ≤ i ∨ kd T i = 0
    · rw [stN_stop hs] at h; cases h
      exact stop I i k f hs hp hu hla hm i0 (by omega)
    · rw [stN_go hs] at h
      have a6 := nx_6 (lg := lgv) (f := f) ok i0 (by omega) h6
      have a0 := nx_1 (lg := lgv) (f := f) ok i0 (by omega)
      have a2' := nx_c (lg := lgv) (f := f) (c := 2) ok i0 (by omega) h6 (by omega)
      have ik := (ok.2.2.2.2 i i0 (by omega)).1
      have q := hp.2.1 i i0 (by omega)
      have ih := fun I' hp' hu' hla' hm' => ih I' _ (k + 1) _ r h hp' hu' hla' hm' (hclk.trans a2'.symm) a0 (by omega) (by omega) (by omega) (by omega)
      have nxe : nx T lgv i f = if kd T i = 4 then bE T f i else (i + 1, if kd T i = 1 then mkF lgv (nb T i) f else if kd T i = 2 then up f (18 + i) 0 else f) := rfl
      have wk : wr (k + 1) = k + 1 := wr_id (by omega) (by omega)
      have wi : wr (i + 1) = i + 1 := wr_id (by omega) (by omega)
      rw [e9_6 cc gg hl', if_neg (by omega), if_neg (by omega), hp.1, if_neg (by omega), if_pos (by omega), q.1, q.2.1, if_neg (by omega), wk, wi]
      by_cases k1 : kd T i = 1
      · rw [if_pos k1]
        rw [if_neg (by omega), if_pos k1] at nxe
        rw [nxe] at ih
        rcases hl with ⟨l0, l1⟩ | ⟨l0, l1⟩
        · rw [if_pos l0, e9_88 cc gg hl', wk, wi]
          have e : mkF lgv (nb T i) f = f := by unfold mkF; rw [if_pos l1]
          rw [e] at ih
          obtain ⟨I', r1, r2, r3, r4, r5⟩ := ih I hp hu hla hm
          exact ⟨I', r1, r2, r3, r4, r5⟩
        · subst l0
          rw [if_neg (by omega), if_pos (by omega)]
          rw [l1] at ih
          obtain ⟨J, j1, j2, j3⟩ := c_markAdd (b := b) (S := S) (m := nb T i) (hm rfl) h6 (by omega)
          rw [hclk, j1, Option.bind_some]
          simp only [zpush_n]
          rw [e9_88 cc gg hl', wk, wi, ← hclk]
          have mc : ∀ x, x ≠ 6 → x < 312 → mkF 1 (nb T i) f x = f x := fun x x1 x2 => mk_c h6 x1 (Or.inl x2)
          obtain ⟨I', r1, r2, r3, r4, r5⟩ := ih J (pgm_fr (fun q q1 q2 => j3 q (by omega)) hp) (cuR'_c (j3 c (by omega)) (j3 (c + 1) (by omega)) (fun x hx => mc x (by omega) (by omega)) hu) (laOk_c (fun x x1 x2 => mc x (by omega) (by omega)) hla) (fun _ => j2)
          exact ⟨I', r1, r2, r3, fun _ => r4 rfl, fun q q1 q2 q3 => (r5 q q1 q2 q3).trans (j3 q (by omega))⟩
      · rw [if_neg k1]
        by_cases k2 : kd T i = 2
        · rw [if_pos k2, if_pos (by omega)]
          rw [if_neg (by omega), if_neg k1, if_pos k2] at nxe
          rw [nxe] at ih
          have fr : ∀ q, q ≠ c + 1 → sI I (c + 1) i 0 q = I q := fun q q1 => by funext j; rw [sI_p q1]
          obtain ⟨I', r1, r2, r3, r4, r5⟩ := ih (sI I (c + 1) i 0) (pgm_fr (fun q q1 q2 => fr q (by omega)) hp) (cu_turn hu (by omega)) (laOk_c (fun x x1 x2 => up_n (by omega)) hla) (fun z => mkR_c (fr 15 (by omega)) (fr 16 (by omega)) (fr 17 (by omega)) (up_n (by omega)) (fun x x1 x2 => up_n (by omega)) (hm z))
          exact ⟨I', r1, r2, r3, r4, fun q q1 q2 q3 => (r5 q q1 q2 q3).trans (fr q q2)⟩
        · rw [if_neg k2]
          by_cases k3 : kd T i = 3
          · rw [if_pos k3]
            rw [if_neg (by omega), if_neg k1, if_neg k2] at nxe
            rw [nxe] at ih
            exact ih I hp hu hla hm
          · rw [if_neg k3]
            have k4 : kd T i = 4 := by omega
            rw [if_pos k4] at nxe
            rw [nxe] at ih h
            have z := (ok.2.2.2.2 i i0 (by omega)).2.2.2.2.2.2 k4
            obtain ⟨J, j1, j2, j3, j4⟩ := c_bE (b := b) (S := S) hc gg ok hp hu hla i0 (by omega) k4
            rw [j1, Option.bind_some]
            simp only [zpush_s]
            rw [e9_121 cc gg hl', wk]
            have bc : ∀ x, x ≠ 9 → x ≠ 10 → x ≠ 11 → x ≠ 12 → (x < 18 ∨ 42 ≤ x) → (bE T f i).2 x = f x := by
              intro x x1 x2 x3 x4 x5
              have z3 := (ok.2.2.2.2 (pt T i) (by omega) (by omega))
              unfold bE
              split
              · exact up_n (by omega)
              · have z4 := z3.2.2.2.2.1 (by omega)
                exact up_n (by omega)
            obtain ⟨I', r1, r2, r3, r4, r5⟩ := ih J (pgm_fr (fun q q1 q2 => j4 q (by omega) (by omega) (Or.inl rfl)) hp) j2 j3 (fun z => mkR_c (j4 15 (by omega) (by omega) (Or.inl rfl)) (j4 16 (by omega) (by omega) (Or.inl rfl)) (j4 17 (by omega) (by omega) (Or.inl rfl)) (bc 6 (by omega) (by omega) (by omega) (by omega) (by omega)) (fun x x1 x2 => bc x (by omega) (by omega) (by omega) (by omega) (by omega)) (hm z))
            exact ⟨I', r1, r2, r3, r4, fun q q1 q2 q3 => (r5 q q1 q2 q3).trans (j4 q q1 q2 (Or.inl rfl))⟩
theorem c_settle {b : Bool} {S : Nat} {T fs pl f : Int → Int} {pm : Int} {c g lg : Nat} {lgv clk i : Int} {I : Nat → Int → Int} (hc : c = 9 ∨ c = 20) (hg : g = 25 ∨ g = 38) (ok : tOk T) (hl : (lg = 0 ∧ lgv = 0) ∨ (lg = 15 ∧ lgv = 1)) (hp : pgm I g T fs pl pm) (hu : cuR' I c f) (hla : laOk f) (hm : lg = 15 → mkR I 15 f) (hclk : clk = f 2) (i0 : 0 ≤ i) (h6 : 0 ≤ f 6) (h7 : f 6 < 2147483000) : ∃ I', zrun 9 [vR c, vR g, vI i, vR lg, vI clk] (I, zRs b, 103, S) = some (none, (I', zRs b, 103, S)) ∧ cuR I' c (setF T lgv i f) ∧ laOk (setF T lgv i f) ∧ (lg = 15 → mkR I' 15 (setF T lgv i f)) ∧ frC c lg I I' := by
  obtain ⟨r, hr, he⟩ := setF_eq (lg := lgv) (f := f) ok i0
  rw [run9, e9_0 (cc_cur hc) hg (by omega), he]
  exact c_setL hc hg ok hl 46 I i 0 f r hr hp hu hla hm hclk i0 (by omega) (by omega) h6 (by omega)
theorem c_advL {b : Bool} {S : Nat} {T fs pl : Int → Int} {pm : Int} {c g lg : Nat} {lgv clk rt : Int} (hc : c = 9 ∨ c = 20) (hg : g = 25 ∨ g = 38) (ok : tOk T) (hl : (lg = 0 ∧ lgv = 0) ∨ (lg = 15 ∧ lgv = 1)) : ∀ (n : Nat) (I : Nat → Int → Int) (k : Int) (f e : Int → Int) (w : zV), advN T lgv n f = some e → pgm I g T fs pl pm → cuR I c f → laOk f → (lg = 15 → mkR I 15 f) → clk = f 2 → atOk T f → 0 ≤ f 1 → (f 0 = -4 → f 1 = 0) → f 1 < 2000 → 0 ≤ k → k + n + 1 ≤ 32 → 0 ≤ f 6 → f 6 + 46 * n < 2147482000 → ∃ I', zX 8 13 [vR c, vR g, vI rt, vR lg, vI clk, vI k, w] [] (I, zRs b, 103, S) = some (none, (I', zRs b, 103, S)) ∧ cuR I' c e ∧ laOk e ∧ (lg = 15 → mkR I' 15 e) ∧ frC c lg I I' := by
  have hl' : lg = 0 ∨ lg = 15 := by omega
  have cc := cc_cur hc
  have gg : isProg g := hg
  have stop : ∀ (I : Nat → Int → Int) (k : Int) (f : Int → Int) (w : zV), pgm I g T fs pl pm → cuR I c f → atOk T f → 0 ≤ f 1 → (f 0 = -4 ∨ f 1 < lenAt T f) → k + 1 ≤ 32 → zX 8 13 [vR c, vR g, vI rt, vR lg, vI clk, vI k, w] [] (I, zRs b, 103, S) = some (none, (I, zRs b, 103, S)) := by
    intro I k f w hp hu ha h1 hs hk
    rw [e8_13 cc gg hl', if_neg (by omega), c_isOver hc, Option.bind_some, hu.1]
    simp only [zpush_s]
    rw [e8_24 cc gg hl']
    by_cases h0 : f 0 = -4
    · rw [h0, if_neg (show ¬ (0 : Int) ≤ -4 by decide), if_neg (by decide)]
    · have a := at_seg ok ha h0
      have h1 : 0 ≤ f 0 ∧ f 0 < T 1 ∧ kd T (f 0) = 0 := by rcases ha with z | z; exact absurd z h0; exact z
      rw [if_pos h1.1, if_pos rfl, hu.1, c_segLen gg ok hp ⟨h1.1, h1.2.1⟩ h1.2.2, Option.bind_some]
      simp only [zpush_s]
      have hs := hs.resolve_left h0
      unfold lenAt segAt at hs
      unfold segAt at a
      rw [e8_35 cc gg hl', hu.2.1, wr_id (by omega) (by omega), if_neg (by omega)]
  intro n
  induction n with
  | zero =>
    intro I k f e w h hp hu hla hm hclk ha h1 h2 h3 k0 hk h6 h7
    by_cases hs : f 0 = -4 ∨ f 1 < lenAt T f
    · rw [advN_stop hs] at h; cases h
      exact ⟨I, stop I k f w hp hu ha h1 hs (by omega), hu, hla, hm, fun _ _ _ _ => rfl⟩
    · unfold advN at h; rw [if_neg hs] at h; cases h
  | succ n ih =>
    intro I k f e w h hp hu hla hm hclk ha h1 h2 h3 k0 hk h6 h7
    by_cases hs : f 0 = -4 ∨ f 1 < lenAt T f
    · rw [advN_stop hs] at h; cases h
      exact ⟨I, stop I k f w hp hu ha h1 hs (by omega), hu, hla, hm, fun _ _ _ _ => rfl⟩
    · rw [advN_go hs] at h
      have h0 : f 0 ≠ -4 := fun z => hs (Or.inl z)
      have a := at_seg ok ha h0
      have t := ok.1
      have f24 := at_24 ok ha h0
      have hf : 0 ≤ f 0 ∧ f 0 < T 1 ∧ kd T (f 0) = 0 := by rcases ha with z | z; exact absurd z h0; exact z
      have hl2 : 16 ≤ lenAt T f := by unfold lenAt; omega
      have hl3 : lenAt T f = 16 * mn T (segAt T f) := rfl
      have hl4 : mn T (nb T (f 0)) * 16 = lenAt T f := by rw [hl3]; unfold segAt; omega
      have u6 : up f 1 (f 1 - lenAt T f) 6 = f 6 := up_n (by omega)
      have u1 : up f 1 (f 1 - lenAt T f) 1 = f 1 - lenAt T f := up_s
      have u2 : up f 1 (f 1 - lenAt T f) 2 = f 2 := up_n (by omega)
      have en := setF_end (lg := lgv) (f := up f 1 (f 1 - lenAt T f)) (i := f 0 + 1) ok (by omega) (by omega)
      rw [u6, u1] at en
      rw [e8_13 cc gg hl', if_neg (by omega), c_isOver hc, Option.bind_some, hu.1, if_pos hf.1]
      simp only [zpush_s]
      rw [e8_24 cc gg hl', if_pos rfl, hu.1, c_segLen gg ok hp ⟨hf.1, hf.2.1⟩ hf.2.2, Option.bind_some]
      simp only [zpush_s]
      rw [e8_35 cc gg hl', hl4, wr_id (a := lenAt T f) (by omega) (by omega), hu.2.1, if_pos (by omega), hu.1, wr_id (a := f 1 - lenAt T f) (by omega) (by omega), wr_id (a := f 0 + 1) (by omega) (by omega)]
      have fr : ∀ q, q ≠ c → sI I c 1 (f 1 - lenAt T f) q = I q := fun q q1 => by funext j; rw [sI_p q1]
      obtain ⟨J, j1, j2, j3, j4, j5⟩ := c_settle (b := b) (S := S) (lgv := lgv) (clk := clk) (i := f 0 + 1) hc hg ok hl (pgm_fr (fun q q1 q2 => fr q (by omega)) hp) (cu_phase (v := f 1 - lenAt T f) hu.2) (laOk_c (fun x x1 x2 => up_n (by omega)) hla) (fun z => mkR_c (fr 15 (by omega)) (fr 16 (by omega)) (fr 17 (by omega)) (up_n (by omega)) (fun x x1 x2 => up_n (by omega)) (hm z)) (hclk.trans u2.symm) (by omega) (by omega) (by omega)
      rw [j1, Option.bind_some]
      simp only [zpush_n]
      rw [e8_75 cc gg hl', wr_id (by omega) (by omega)]
      have fr2 : ∀ q, q ≠ c → q ≠ c + 1 → (lg = 0 ∨ q < 15 ∨ 17 < q) → J q = I q := fun q q1 q2 q3 => (j5 q q1 q2 q3).trans (fr q q1)
      obtain ⟨I', r1, r2, r3, r4, r5⟩ := ih J (k + 1) _ e (vI (lenAt T f)) h (pgm_fr (fun q q1 q2 => fr2 q (by omega) (by omega) (by omega)) hp) j2 j3 j4 (by rw [en.2.2 2 (by omega), u2]; exact hclk) (by
        rcases en.1 with z | z
        · exact Or.inl z.1
        · exact Or.inr ⟨z.1, z.2.1, z.2.2.1⟩) (by rcases en.1 with z | z <;> omega) (by rcases en.1 with z | z <;> omega) (by rcases en.1 with z | z <;> omega) (by omega) (by omega) (by omega) (by omega)
      exact ⟨I', r1, r2, r3, r4, fun q q1 q2 q3 => (r5 q q1 q2 q3).trans (fr2 q q1 q2 q3)⟩
theorem c_advance {b : Bool} {S : Nat} {T fs pl f : Int → Int} {pm : Int} {c g lg : Nat} {lgv clk : Int} {I : Nat → Int → Int} (hc : c = 9 ∨ c = 20) (hg : g = 25 ∨ g = 38) (ok : tOk T) (hl : (lg = 0 ∧ lgv = 0) ∨ (lg = 15 ∧ lgv = 1)) (hp : pgm I g T fs pl pm) (hu : cuR I c f) (hla : laOk f) (hm : lg = 15 → mkR I 15 f) (hclk : clk = f 2) (ha : atOk T f) (h0 : f 0 ≠ -4) (ph : phOk T f) (h13 : 1 ≤ f 13 ∧ f 13 ≤ 64) (h6 : 0 ≤ f 6) (h7 : f 6 < 2147480000) : ∃ I', zrun 8 [vR c, vR g, vI (f 13), vR lg, vI clk] (I, zRs b, 103, S) = some (none, (I', zRs b, 103, S)) ∧ cuR I' c (advF T lgv f) ∧ laOk (advF T lgv f) ∧ (lg = 15 → mkR I' 15 (advF T lgv f)) ∧ frC c lg I I' := by
  have a := at_seg ok ha h0
  have hl2 := ph.2.2 h0
  have u0 : up f 1 (f 1 + f 13) 0 = f 0 := up_n (by omega)
  have u6 : up f 1 (f 1 + f 13) 6 = f 6 := up_n (by omega)
  have u2 : up f 1 (f 1 + f 13) 2 = f 2 := up_n (by omega)
  have u1 : up f 1 (f 1 + f 13) 1 = f 1 + f 13 := up_s
  have hp1 := ph.1
  have hle : lenAt T f ≤ 256 := by unfold lenAt; omega
  have e := advF_eq (lg := lgv) ok ha h0 ph h13 h6
  rw [run8, e8_0 (cc_cur hc) hg (by omega), hu.2.1, wr_id (by omega) (by omega)]
  have fr : ∀ q, q ≠ c → sI I c 1 (f 1 + f 13) q = I q := fun q q1 => by funext j; rw [sI_p q1]
  obtain ⟨I', r1, r2, r3, r4, r5⟩ := c_advL (b := b) (S := S) (rt := f 13) (clk := clk) hc hg ok hl 20 (sI I c 1 (f 1 + f 13)) 0 (up f 1 (f 1 + f 13)) (advF T lgv f) none e.1 (pgm_fr (fun q q1 q2 => fr q (by omega)) hp) ⟨by rw [sI_k (by decide), u0]; exact hu.1, cu_phase hu.2⟩ (laOk_c (fun x x1 x2 => up_n (by omega)) hla) (fun z => mkR_c (fr 15 (by omega)) (fr 16 (by omega)) (fr 17 (by omega)) (up_n (by omega)) (fun x x1 x2 => up_n (by omega)) (hm z)) (hclk.trans u2.symm) (by unfold atOk; rw [u0]; exact ha) (by omega) (fun z => absurd (u0.symm.trans z) h0) (by omega) (by omega) (by omega) (by omega) (by omega)
  exact ⟨I', r1, r2, r3, r4, fun q q1 q2 q3 => (r5 q q1 q2 q3).trans (fr q q1)⟩
