/-! ===== the reference's player: a tick ===== -/
def Z0 (f : Int → Int) : Prop := ∀ c, ¬ (0 ≤ c ∧ c < 392) → f c = 0
theorem mix_Z {f g : Int → Int} (hf : Z0 f) (hg : Z0 g) : mix 392 g f = g := by
  funext c; unfold mix
  by_cases h : 0 ≤ c ∧ c < 392
  · rw [if_pos h]
  · rw [if_neg h, hf c h, hg c h]
section A35
variable {I : Nat → Int → Int} {b : Bool} {S : Nat}
theorem r_segAt {f : Int → Int} (h : 0 ≤ f 0 ∧ f 0 < 24) : zrun 166 [vR 87] (sP I 99 f, zRs b, 103, S) = some (some (vI (segAt (I 88) f)), (sP I 99 f, zRs b, 103, S)) := by
  rw [run166, e166_0, sP_s, r_nb h, Option.bind_some]
  simp only [zpush_s, sP_n (show 88 ≠ 99 by decide)]
  rw [e166_11]; rfl
theorem at_24 {T f : Int → Int} (ok : tOk T) (ha : atOk T f) (h0 : f 0 ≠ -4) : 0 ≤ f 0 ∧ f 0 < 24 := by
  have := ok.2.1
  rcases ha with z | z
  · exact absurd z h0
  · omega
theorem r_placeAt {f : Int → Int} (ok : tOk (I 88)) (ha : atOk (I 88) f) (h0 : f 0 ≠ -4) (hp : phOk (I 88) f) : zrun 167 [vR 87] (sP I 99 f, zRs b, 103, S) = some (some (vI (wr (I 91 (segAt (I 88) f) + (f 1).tdiv 16))), (sP I 99 f, zRs b, 103, S)) := by
  have a := at_seg ok ha h0
  have t := ok.1
  have hl := hp.2.2 h0
  have hp1 := hp.1
  unfold lenAt at hl
  rw [run167, e167_0, r_segAt (at_24 ok ha h0), Option.bind_some]
  simp only [zpush_s]
  rw [e167_8, if_pos (by omega), sP_s, sP_n (by decide), wr_id (a := (f 1).tdiv 16) (by rw [td_ed hp1]; omega) (by rw [td_ed hp1]; omega)]
theorem r_stepL (ok : tOk (I 88)) : ∀ (n : Nat) (f g : Int → Int), advN (I 88) (I 87 21) n f = some g → atOk (I 88) f → 0 ≤ f 1 → (f 0 = -4 → f 1 = 0) → f 1 < 16 * ((n : Int) + 1) → f 1 < 2000 → 0 ≤ f 6 → f 6 + 46 * n < 2147482000 → zX 168 16 [vR 87] [] (sP I 99 f, zRs b, 103, S) = some (none, (sP I 99 g, zRs b, 103, S)) := by
  have stop : ∀ (f : Int → Int), atOk (I 88) f → f 0 = -4 ∨ f 1 < lenAt (I 88) f → zX 168 16 [vR 87] [] (sP I 99 f, zRs b, 103, S) = some (none, (sP I 99 f, zRs b, 103, S)) := by
    intro f ha hs
    rw [e168_16, sP_s]
    by_cases h0 : f 0 = -4
    · rw [if_pos h0]
    · have a := at_seg ok ha h0
      have t := ok.1
      rw [if_neg h0, r_segAt (at_24 ok ha h0), Option.bind_some]
      simp only [zpush_s]
      rw [e168_40, r_mn (by omega), Option.bind_some]
      simp only [zpush_s, sP_n (show 88 ≠ 99 by decide)]
      rw [e168_43, wr_id (by omega) (by omega), if_pos]
      exact hs.resolve_left h0
  intro n
  induction n with
  | zero =>
    intro f g h ha h1 h2 h3 h4 h6 h7
    by_cases hs : f 0 = -4 ∨ f 1 < lenAt (I 88) f
    · rw [advN_stop hs] at h; cases h
      exact stop f ha hs
    · unfold advN at h; rw [if_neg hs] at h; cases h
  | succ n ih =>
    intro f g h ha h1 h2 h3 h4 h6 h7
    by_cases hs : f 0 = -4 ∨ f 1 < lenAt (I 88) f
    · rw [advN_stop hs] at h; cases h
      exact stop f ha hs
    · rw [advN_go hs] at h
      have h0 : f 0 ≠ -4 := fun z => hs (Or.inl z)
      have a := at_seg ok ha h0
      have t := ok.1
      have f24 := at_24 ok ha h0
      have hl : 16 ≤ lenAt (I 88) f := by unfold lenAt; omega
      have hl' : lenAt (I 88) f = 16 * mn (I 88) (segAt (I 88) f) := rfl
      have u6 : up f 1 (f 1 - lenAt (I 88) f) 6 = f 6 := up_n (by omega)
      have u1 : up f 1 (f 1 - lenAt (I 88) f) 1 = f 1 - lenAt (I 88) f := up_s
      have e := setF_end (lg := I 87 21) (f := up f 1 (f 1 - lenAt (I 88) f)) (i := f 0 + 1) ok (by omega) (by omega)
      rw [u6, u1] at e
      rw [e168_16, sP_s, if_neg h0, r_segAt f24, Option.bind_some]
      simp only [zpush_s]
      rw [e168_40, r_mn (by omega), Option.bind_some]
      simp only [zpush_s, sP_n (show 88 ≠ 99 by decide)]
      rw [e168_43, wr_id (by omega) (by omega), if_neg (by omega), r_segAt f24, Option.bind_some]
      simp only [zpush_s]
      rw [e168_61, r_mn (by omega), Option.bind_some]
      simp only [zpush_s, sP_n (show 88 ≠ 99 by decide), sP_s]
      rw [e168_64, if_pos (by decide), sIP, sP_s, wr_id (a := 16 * _) (by omega) (by omega), ← hl', wr_id (a := f 1 - _) (by omega) (by omega), up_n (show (0 : Int) ≠ 1 by decide), wr_id (by omega) (by omega), r_settles ok (by omega) (by omega) (by omega), Option.bind_some]
      simp only [zpush_n]
      rw [e168_79]
      exact ih _ g h (by
        rcases e.1 with z | z
        · exact Or.inl z.1
        · exact Or.inr ⟨z.1, z.2.1, z.2.2.1⟩) (by rcases e.1 with z | z <;> omega) (by rcases e.1 with z | z <;> omega) (by rcases e.1 with z | z <;> omega) (by rcases e.1 with z | z <;> omega) (by omega) (by omega)
theorem r_steps (ok : tOk (I 88)) {f : Int → Int} (ha : atOk (I 88) f) (h0 : f 0 ≠ -4) (hp : phOk (I 88) f) (h13 : 1 ≤ f 13 ∧ f 13 ≤ 64) (h6 : 0 ≤ f 6) (h7 : f 6 < 2147480000) : zrun 168 [vR 87] (sP I 99 f, zRs b, 103, S) = some (none, (sP I 99 (advF (I 88) (I 87 21) f), zRs b, 103, S)) := by
  have a := at_seg ok ha h0
  have hl := hp.2.2 h0
  have u0 : up f 1 (f 1 + f 13) 0 = f 0 := up_n (by omega)
  have u6 : up f 1 (f 1 + f 13) 6 = f 6 := up_n (by omega)
  have u1 : up f 1 (f 1 + f 13) 1 = f 1 + f 13 := up_s
  have hp1 := hp.1
  have hle : lenAt (I 88) f ≤ 256 := by unfold lenAt; omega
  have e := advF_eq (lg := I 87 21) ok ha h0 hp h13 h6
  rw [run168, e168_0, sIP, sP_s, wr_id (by omega) (by omega)]
  exact r_stepL ok 20 _ _ e.1 (by unfold atOk; rw [u0]; exact ha) (by omega) (fun z => absurd (u0.symm.trans z) h0) (by omega) (by omega) (by omega) (by omega)
theorem r_levelNow {f : Int → Int} (ok : tOk (I 88)) (ha : atOk (I 88) f) (h0 : f 0 ≠ -4) (hp : phOk (I 88) f) : zrun 169 [vR 87] (sP I 99 f, zRs b, 103, S) = some (some (vI (lvF (I 88) f)), (sP I 99 f, zRs b, 103, S)) := by
  have a := at_seg ok ha h0
  have t := ok.1
  have hl := hp.2.2 h0
  have hp1 := hp.1
  unfold lenAt at hl
  have hk : wr ((f 1).tdiv 16) = f 1 / 16 := by rw [td_ed hp1]; exact wr_id (by omega) (by omega)
  rw [run169, e169_0, r_segAt (at_24 ok ha h0), Option.bind_some]
  simp only [zpush_s]
  rw [e169_4, sP_s, hk, r_lv (by omega) (by omega), Option.bind_some]
  simp only [zpush_s, sP_n (show 88 ≠ 99 by decide)]
  rw [e169_31, r_mn (by omega), Option.bind_some]
  simp only [zpush_s, sP_n (show 88 ≠ 99 by decide)]
  rw [e169_43, wr_id (a := f 1 / 16 + 1) (by omega) (by omega)]
  unfold lvF
  simp only [hk]
  by_cases hc : mn (I 88) (segAt (I 88) f) ≤ f 1 / 16 + 1
  · rw [if_pos hc, r_lv (by omega) (by omega), Option.bind_some, if_pos hc]
    simp only [zpush_s, sP_n (show 88 ≠ 99 by decide)]
    rw [e169_56, sP_s]
    split
    · rfl
    · split
      · rfl
      · split <;> rfl
  · rw [if_neg hc, r_lv (by omega) (by omega), Option.bind_some, if_neg hc]
    simp only [zpush_s, sP_n (show 88 ≠ 99 by decide)]
    rw [e169_56, sP_s]
    split
    · rfl
    · split
      · rfl
      · split <;> rfl
theorem r_cachedL {f : Int → Int} {pg : Int} : ∀ (n : Nat) (k : Int), k + n = f 7 → 0 ≤ k → f 7 ≤ 6 → zX 170 2 [vR 87, vI pg, vI k] [] (sP I 99 f, zRs b, 103, S) = some (some (vI (fnd (fun k => f (42 + k)) pg n k)), (sP I 99 f, zRs b, 103, S)) := by
  intro n
  induction n with
  | zero =>
    intro k h h0 h7
    rw [e170_2, sP_s, if_pos (by omega)]; rfl
  | succ n ih =>
    intro k h h0 h7
    rw [e170_2, sP_s, if_neg (by omega), wr_id (by omega) (by omega), if_pos (by omega)]
    unfold fnd
    by_cases hk : f (42 + k) = pg
    · rw [if_pos hk, if_pos hk]
    · rw [if_neg hk, if_neg hk, wr_id (by omega) (by omega)]
      exact ih _ (by omega) (by omega) h7
theorem r_cachedAt {f : Int → Int} {pg : Int} (h : 0 ≤ f 7 ∧ f 7 ≤ 6) : zrun 170 [vR 87, vI pg] (sP I 99 f, zRs b, 103, S) = some (some (vI (caF f pg)), (sP I 99 f, zRs b, 103, S)) := by
  rw [run170, e170_0]
  exact r_cachedL _ _ (by omega) (by omega) (by omega)
theorem r_askedL {f : Int → Int} {pg : Int} : ∀ (n : Nat) (k x : Int), k + n = f 8 → 0 ≤ k → f 8 ≤ 100 → (x = 0 ∨ x = 1) → zX 173 4 [vR 87, vI pg, vI x, vI k] [] (sP I 99 f, zRs b, 103, S) = some (some (vI (if x = 1 then 1 else if fnd (fun k => f (48 + k)) pg n k = -4 then 0 else 1)), (sP I 99 f, zRs b, 103, S)) := by
  intro n
  induction n with
  | zero =>
    intro k x h h0 h7 hx
    rw [e173_4, sP_s, if_pos (by omega), if_pos hx]
    rcases hx with rfl | rfl <;> rfl
  | succ n ih =>
    intro k x h h0 h7 hx
    rw [e173_4, sP_s, if_neg (by omega), wr_id (a := 48 + k) (by omega) (by omega), wr_id (a := k + 1) (by omega) (by omega)]
    rcases hx with rfl | rfl
    · rw [if_pos rfl, if_pos (show 0 ≤ 48 + k ∧ 48 + k < 392 by omega), if_neg (show ¬ (0 : Int) = 1 by decide)]
      unfold fnd
      by_cases hk : f (48 + k) = pg
      · rw [if_pos hk, if_pos hk, ih _ 1 (by omega) (by omega) h7 (Or.inr rfl), if_pos rfl, if_neg (by omega)]
      · rw [if_neg hk, if_neg hk, ih _ 0 (by omega) (by omega) h7 (Or.inl rfl), if_neg (by decide)]
    · rw [if_neg (by decide), if_pos rfl, ih _ 1 (by omega) (by omega) h7 (Or.inr rfl), if_pos rfl]
theorem r_isAsked {f : Int → Int} {pg : Int} (h : 0 ≤ f 8 ∧ f 8 ≤ 100) : zrun 173 [vR 87, vI pg] (sP I 99 f, zRs b, 103, S) = some (some (vI (if asF f pg = -4 then 0 else 1)), (sP I 99 f, zRs b, 103, S)) := by
  rw [run173, e173_0, r_askedL (f 8).toNat 0 0 (by omega) (by omega) (by omega) (Or.inl rfl)]
  rfl
theorem sh2_up {f : Int → Int} {a k : Int} (h : 42 + k ≤ a) : up (fun c => if 42 + k ≤ c ∧ c < a then f (c + 1) else f c) a (f (a + 1)) = fun c => if 42 + k ≤ c ∧ c < a + 1 then f (c + 1) else f c := by
  funext c; unfold up
  by_cases h1 : c = a
  · rw [if_pos h1, if_pos (by omega), h1]
  · rw [if_neg h1]
    dsimp only
    by_cases h2 : 42 + k ≤ c ∧ c < a
    · rw [if_pos h2, if_pos (by omega)]
    · rw [if_neg h2, if_neg (by omega)]
theorem r_leavesL {f : Int → Int} {k : Int} (h : 0 ≤ k ∧ k < f 7 ∧ f 7 ≤ 6) : ∀ (n : Nat) (a : Int), a + n = 41 + f 7 → 42 + k ≤ a → zX 171 5 [vR 87, vI k, vI a] [] (sP I 99 (fun c => if 42 + k ≤ c ∧ c < a then f (c + 1) else f c), zRs b, 103, S) = some (none, (sP I 99 (lvs k f), zRs b, 103, S)) := by
  intro n
  induction n with
  | zero =>
    intro a ha h0
    rw [e171_5, sP_s]
    simp (disch := omega) only [if_neg]
    rw [wr_id (a := 42 + f 7) (by omega) (by omega), wr_id (a := 42 + f 7 - 1) (by omega) (by omega), if_pos (by omega), wr_id (by omega) (by omega), sIP, show a = 41 + f 7 by omega]
    rfl
  | succ n ih =>
    intro a ha h0
    rw [e171_5, sP_s]
    simp (disch := omega) only [if_neg]
    rw [wr_id (a := 42 + f 7) (by omega) (by omega), wr_id (a := 42 + f 7 - 1) (by omega) (by omega), wr_id (a := a + 1) (by omega) (by omega)]
    simp (disch := omega) only [if_neg, if_pos]
    rw [sIP, sh2_up h0]
    exact ih _ (by omega) (by omega)
theorem r_leaves {f : Int → Int} {k : Int} (h : 0 ≤ k ∧ k < f 7 ∧ f 7 ≤ 6) : zrun 171 [vR 87, vI k] (sP I 99 f, zRs b, 103, S) = some (none, (sP I 99 (lvs k f), zRs b, 103, S)) := by
  rw [run171, e171_0, wr_id (by omega) (by omega)]
  have z := r_leavesL (I := I) (b := b) (S := S) h (f 7 - 1 - k).toNat (42 + k) (by omega) (by omega)
  rw [show (fun c => if 42 + k ≤ c ∧ c < 42 + k then f (c + 1) else f c) = f by funext c; rw [if_neg (by omega)]] at z
  exact z
theorem r_comes {f : Int → Int} {pg : Int} (h : 0 ≤ f 7 ∧ f 7 ≤ f 15 ∧ 1 ≤ f 15 ∧ f 15 ≤ 6) : zrun 172 [vR 87, vI pg] (sP I 99 f, zRs b, 103, S) = some (none, (sP I 99 (coF pg f), zRs b, 103, S)) := by
  rw [run172, e172_0, sP_s]
  unfold coF inF
  by_cases h1 : f 7 = f 15
  · rw [if_pos h1, if_pos h1, r_leaves (by omega), Option.bind_some]
    simp only [zpush_n]
    have e7 : lvs 0 f 7 = f 7 - 1 := up_s
    rw [e172_22, sP_s, e7, wr_id (by omega) (by omega), if_pos (by omega), sIP, sP_s, up_n (by omega), e7, wr_id (by omega) (by omega), sIP]
  · rw [if_neg h1, if_neg h1, e172_22, sP_s, wr_id (by omega) (by omega), if_pos (by omega), sIP, sP_s, up_n (by omega), wr_id (by omega) (by omega), sIP]
theorem co_7 {f : Int → Int} {pg : Int} (h : 0 ≤ f 7 ∧ f 7 ≤ f 15 ∧ 1 ≤ f 15 ∧ f 15 ≤ 6) : (0 ≤ coF pg f 7 ∧ coF pg f 7 ≤ f 15) ∧ ∀ c, (c < 7 ∨ (8 ≤ c ∧ c < 42) ∨ 48 ≤ c) → coF pg f c = f c := by
  unfold coF inF
  by_cases h1 : f 7 = f 15
  · have e7 : lvs 0 f 7 = f 7 - 1 := up_s
    rw [if_pos h1, e7]
    refine ⟨by rw [up_s]; omega, fun c hc => ?_⟩
    rw [up_n (by omega), up_n (by omega)]
    unfold lvs
    rw [up_n (by omega), if_neg (by omega)]
  · rw [if_neg h1]
    refine ⟨by rw [up_s]; omega, fun c hc => ?_⟩
    rw [up_n (by omega), up_n (by omega)]
theorem r_arriveL {had : Int} (hh : had ≤ 16) : ∀ (n : Nat) (k l : Int) (f : Int → Int), k + n = had → 0 ≤ l → l ≤ k → 0 ≤ f 7 ∧ f 7 ≤ f 15 ∧ 1 ≤ f 15 ∧ f 15 ≤ 6 → zX 174 12 [vR 87, vI l, vI had, vI k] [] (sP I 99 f, zRs b, 103, S) = some (none, (sP I 99 (arN n k l f), zRs b, 103, S)) := by
  intro n
  induction n with
  | zero =>
    intro k l f h h0 h1 h7
    rw [e174_12, if_pos (by omega), sIP]; rfl
  | succ n ih =>
    intro k l f h h0 h1 h7
    rw [e174_12, if_neg (by omega)]
    simp only [sP_s]
    rw [wr_id (a := 80 + k) (by omega) (by omega), wr_id (a := 48 + k) (by omega) (by omega), wr_id (a := 48 + l) (by omega) (by omega), wr_id (a := 80 + l) (by omega) (by omega), wr_id (a := l + 1) (by omega) (by omega), wr_id (a := k + 1) (by omega) (by omega)]
    unfold arN
    by_cases hw : f 2 < f (80 + k)
    · simp (disch := omega) only [if_pos, sIP, sP_s, up_n]
      refine ih _ _ _ (by omega) (by omega) (by omega) ?_
      rw [up_n (by omega), up_n (by omega), up_n (by omega), up_n (by omega)]; exact h7
    · simp (disch := omega) only [if_pos, if_neg, sIP, sP_s, up_n]
      rw [r_comes h7, Option.bind_some]
      simp only [zpush_n]
      rw [e174_48, wr_id (a := k + 1) (by omega) (by omega)]
      have c7 := co_7 (pg := f (48 + k)) h7
      refine ih _ _ _ (by omega) (by omega) (by omega) ?_
      rw [c7.2 15 (by omega)]
      omega
theorem r_arrive {f : Int → Int} (h8 : 0 ≤ f 8 ∧ f 8 ≤ 16) (h7 : 0 ≤ f 7 ∧ f 7 ≤ f 15 ∧ 1 ≤ f 15 ∧ f 15 ≤ 6) : zrun 174 [vR 87] (sP I 99 f, zRs b, 103, S) = some (none, (sP I 99 (arF f), zRs b, 103, S)) := by
  rw [run174, e174_0, sP_s, r_arriveL h8.2 (f 8).toNat 0 0 f (by omega) (by omega) (by omega) h7]
  rfl
theorem r_outs {f : Int → Int} {x : Int} (h : 0 ≤ f 4 ∧ f 4 < 2147483647) : zrun 175 [vR 87, vI x] (sP I 99 f, zRs b, 103, S) = some (none, (sP I 99 (ouF x f), zRs b, 103, S)) := by
  rw [run175, e175_0, sP_s]
  unfold ouF
  by_cases h2 : 200 ≤ f 4
  · rw [if_pos h2, if_neg (by omega), wr_id (by omega) (by omega), sIP, sIP]
  · rw [if_neg h2, wr_id (a := 112 + f 4) (by omega) (by omega), if_pos (by omega), if_pos (show f 4 < 200 by omega), sIP, sP_s, up_n (by omega), wr_id (by omega) (by omega), sIP, sIP]
end A35
