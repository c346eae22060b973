/-! ===== the class's cursor ===== -/
section A39
variable {I I' : Nat → Int → Int} {b : Bool} {S : Nat} {T fs pl f f' : Int → Int} {pm : Int} {c g k p : Nat}
theorem cc_cur (hc : c = 9 ∨ c = 20) : isCur c := by rcases hc with rfl | rfl <;> decide
theorem cu_turn {i v : Int} (h : cuR' I c f) (hi : 0 ≤ i ∧ i < 24) : cuR' (sI I (c + 1) i v) c (up f (18 + i) v) := by
  unfold cuR' lav
  rw [sI_p (by omega), sI_p (by omega), up_n (by omega), up_n (by omega), up_n (by omega), up_n (by omega), up_n (by omega)]
  refine ⟨h.1, h.2.1, fun j j0 j1 => ?_⟩
  by_cases hj : j = i
  · rw [hj, sI_s, up_s]
  · rw [sI_k hj, up_n (by omega)]; exact h.2.2 j j0 j1
theorem cu_latch {x v : Int} (h : cuR' I c f) (hx : 0 ≤ x ∧ x < 4) : cuR' (sI I c 3 (lav (up f (9 + x) v))) c (up f (9 + x) v) := by
  unfold cuR'
  rw [sI_k (by decide), sI_s, up_n (by omega)]
  refine ⟨h.1, rfl, fun j j0 j1 => ?_⟩
  rw [sI_p (by omega), up_n (by omega)]; exact h.2.2 j j0 j1
theorem cu_phase {v : Int} (h : cuR' I c f) : cuR' (sI I c 1 v) c (up f 1 v) := by
  unfold cuR' lav
  rw [sI_s, sI_k (by decide), up_s, up_n (by omega), up_n (by omega), up_n (by omega), up_n (by omega)]
  refine ⟨rfl, h.2.1, fun j j0 j1 => ?_⟩
  rw [sI_p (by omega), up_n (by omega)]; exact h.2.2 j j0 j1
theorem cu_at {v : Int} (h : cuR' I c f) : cuR (sI I c 0 v) c (up f 0 v) := by
  unfold cuR cuR' lav
  rw [sI_s, sI_k (by decide), sI_k (by decide), up_s, up_n (by omega), up_n (by omega), up_n (by omega), up_n (by omega), up_n (by omega)]
  refine ⟨rfl, h.1, h.2.1, fun j j0 j1 => ?_⟩
  rw [sI_p (by omega), up_n (by omega)]; exact h.2.2 j j0 j1
theorem c_isOver (hc : c = 9 ∨ c = 20) : zrun 3 [vR c] (I, zRs b, 103, S) = some (some (vI (if 0 ≤ I c 0 then 0 else 1)), (I, zRs b, 103, S)) := by
  rw [run3, e3_0 (cc_cur hc)]
  split <;> rfl
theorem c_segOf (hc : c = 9 ∨ c = 20) (hg : isProg g) (ok : tOk T) (hp : pgm I g T fs pl pm) (h : I c 0 = f 0) (ha : atOk T f) (h0 : f 0 ≠ -4) : zrun 6 [vR c, vR g] (I, zRs b, 103, S) = some (some (vI (segAt T f)), (I, zRs b, 103, S)) := by
  have f24 := at_24 ok ha h0
  have h1 : f 0 < T 1 := by rcases ha with z | z; exact absurd z h0; exact z.2.1
  rw [run6, e6_0 (cc_cur hc) hg, h, hp.1, if_neg (by omega), if_neg (by omega), if_pos (by omega), (hp.2.1 _ f24.1 h1).2.1]
  rfl
theorem c_pageOf (hc : c = 9 ∨ c = 20) (hg : isProg g) (ok : tOk T) (po : poolOk T fs pl pm) (hp : pgm I g T fs pl pm) (h : cuR I c f) (ha : atOk T f) (h0 : f 0 ≠ -4) (ph : phOk T f) : zrun 5 [vR c, vR g] (I, zRs b, 103, S) = some (some (vI (pgF T fs f)), (I, zRs b, 103, S)) := by
  have a := at_seg ok ha h0
  have t := ok.1
  have pw := pg_wr ok (pool_fs ok po) ha h0 ph
  have hl := ph.2.2 h0
  have hp1 := ph.1
  unfold lenAt at hl
  rw [run5, e5_0 (cc_cur hc) hg, c_segOf hc hg ok hp h.1 ha h0, Option.bind_some]
  simp only [zpush_s]
  rw [e5_5 (cc_cur hc) hg, if_pos a.1.1, if_pos (by omega), (hp.2.2.2.2.1 _ a.1.1 a.1.2).1, h.2.1, wr_id (a := (f 1).tdiv 16) (by rw [td_ed hp1]; omega) (by rw [td_ed hp1]; omega), pw.1]
theorem c_levelOf {s i : Int} (hg : isProg g) (ok : tOk T) (po : poolOk T fs pl pm) (hp : pgm I g T fs pl pm) (hs : 0 ≤ s ∧ s < T 0) (hi : 0 ≤ i ∧ i < mn T s) : zrun 48 [vR (g + 1), vI s, vI i] (I, zRs b, 103, S) = some (some (vI (lv T s i)), (I, zRs b, 103, S)) := by
  have t := ok.1
  have q := po.2.2 s hs.1 hs.2
  have q1 := po.2.1
  rw [run48, e48_0 (isProg_pool hg), hp.2.2.1]
  rw [show g + 1 + 3 = g + 4 by omega, show g + 1 + 2 = g + 3 by omega, show g + 1 + 1 = g + 2 by omega, (hp.2.2.2.2.1 s hs.1 hs.2).1, (hp.2.2.2.2.1 s hs.1 hs.2).2]
  rw [if_neg (by omega), if_neg (by omega), if_neg (by omega), if_pos (by omega), if_pos (by omega), if_pos (by omega), wr_id (by omega) (by omega), if_pos (by omega), hp.2.2.2.2.2 _ (by omega) (by omega), q.2.2 i hi.1 hi.2]
theorem c_segLen {i : Int} (hg : isProg g) (ok : tOk T) (hp : pgm I g T fs pl pm) (hi : 0 ≤ i ∧ i < T 1) (hk : kd T i = 0) : zrun 68 [vR g, vI i] (I, zRs b, 103, S) = some (some (vI (mn T (nb T i))), (I, zRs b, 103, S)) := by
  have t := ok.1
  have t1 := ok.2.1
  have n := (ok.2.2.2.2 i hi.1 hi.2).2.1 hk
  have q := hp.2.1 i hi.1 hi.2
  rw [run68, e68_0 hg, hp.1, q.1, q.2.1, if_neg (by omega), if_neg (by omega), if_pos (by omega), if_pos hk, if_pos (by omega), if_pos (by omega), (hp.2.2.2.2.1 _ n.1 n.2).2]
theorem c_levelBy (hc : c = 9 ∨ c = 20) (hg : isProg g) (ok : tOk T) (po : poolOk T fs pl pm) (hp : pgm I g T fs pl pm) (h : cuR I c f) (ha : atOk T f) (h0 : f 0 ≠ -4) (ph : phOk T f) : zrun 7 [vR c, vI (f 14), vR g] (I, zRs b, 103, S) = some (some (vI (lvF T f)), (I, zRs b, 103, S)) := by
  have a := at_seg ok ha h0
  have t := ok.1
  have hl := ph.2.2 h0
  have hp1 := ph.1
  unfold lenAt at hl
  have hk : wr ((f 1).tdiv 16) = f 1 / 16 := by rw [td_ed hp1]; exact wr_id (by omega) (by omega)
  have h1 : 0 ≤ f 0 ∧ f 0 < T 1 ∧ kd T (f 0) = 0 := by rcases ha with z | z; exact absurd z h0; exact z
  rw [run7, e7_0 (cc_cur hc) hg, c_segOf hc hg ok hp h.1 ha h0, Option.bind_some]
  simp only [zpush_s]
  rw [e7_5 (cc_cur hc) hg, h.2.1, hk, c_levelOf hg ok po hp a.1 (by omega), Option.bind_some]
  simp only [zpush_s]
  rw [e7_34 (cc_cur hc) hg, h.1, c_segLen hg ok hp ⟨h1.1, h1.2.1⟩ h1.2.2, Option.bind_some, wr_id (a := f 1 / 16 + 1) (by omega) (by omega)]
  simp only [zpush_s]
  rw [e7_48 (cc_cur hc) hg]
  unfold lvF
  simp only [hk]
  rw [show nb T (f 0) = segAt T f from rfl]
  by_cases hcc : mn T (segAt T f) ≤ f 1 / 16 + 1
  · rw [if_pos hcc, if_pos hcc]
    split
    · rfl
    · split
      · rfl
      · split <;> rfl
  · rw [if_neg hcc, if_neg hcc, wr_id (a := f 1 / 16 + 1) (by omega) (by omega), c_levelOf hg ok po hp a.1 (by omega), Option.bind_some]
    simp only [zpush_s]
    rw [e7_63 (cc_cur hc) hg]
    split
    · rfl
    · split
      · rfl
      · split <;> rfl
theorem c_markAdd {m : Int} (h : mkR I 15 f) (h6 : 0 ≤ f 6) (h7 : f 6 < 2147483647) : ∃ I', zrun 23 [vR 15, vI m, vI (f 2)] (I, zRs b, 103, S) = some (none, (I', zRs b, 103, S)) ∧ mkR I' 15 (mkF 1 m f) ∧ ∀ q, q < 15 ∨ 17 < q → I' q = I q := by
  rw [run23, e23_0, h.1, j_fm (by omega), Option.bind_some]
  simp only [zpush_s]
  rw [e23_9, if_pos (by omega), if_pos (by omega), h.1, wr_id (by omega) (by omega)]
  refine ⟨_, rfl, ?_, fun q hq => by funext j; rw [sI_p (by omega), sI_p (by omega), sI_p (by omega)]⟩
  have p15 : ∀ x y z, (sI (sI (sI I 16 x m) 17 x y) 15 2 z) 15 2 = z := fun _ _ _ => sI_s
  have p16 : ∀ x y z j, (sI (sI (sI I 16 x m) 17 x y) 15 2 z) 16 j = if j = x then m else I 16 j := by
    intro x y z j
    rw [sI_p (by decide), sI_p (by decide)]
    split
    · rename_i hj; rw [hj, sI_s]
    · rename_i hj; rw [sI_k hj]
  have p17 : ∀ x y z j, (sI (sI (sI I 16 x m) 17 x y) 15 2 z) 17 j = if j = x then y else I 17 j := by
    intro x y z j
    rw [sI_p (by decide)]
    split
    · rename_i hj; rw [hj, sI_s]
    · rename_i hj; rw [sI_k hj, sI_p (by decide)]
  unfold mkR
  rw [show 15 + 1 = 16 from rfl, show 15 + 2 = 17 from rfl, p15]
  simp only [p16, p17]
  have h2 := h.2
  rw [show 15 + 1 = 16 from rfl, show 15 + 2 = 17 from rfl] at h2
  unfold mkF
  rw [if_neg (by decide)]
  by_cases h40 : f 6 < 40
  · rw [if_pos h40, up_s]
    refine ⟨rfl, fun j j0 j1 => ?_⟩
    have jb : j ≤ f 6 ∧ hd40 (f 6 + 1) = f 6 + 1 := by
      unfold hd40 at j1 ⊢
      split at j1
      · rename_i z; rw [if_pos z]; omega
      · rename_i z; rw [if_neg z]; omega
    rw [jb.2]
    have hh : hd40 (f 6) = f 6 := if_pos h40
    by_cases je : j = f 6
    · rw [if_pos (by omega), if_pos (by omega), je, up_n (by omega), up_n (by omega), up_s, up_n (by omega), up_s]
      exact ⟨rfl, rfl⟩
    · rw [if_neg (by omega), if_neg (by omega), up_n (by omega), up_n (by omega), up_n (by omega), up_n (by omega), up_n (by omega), up_n (by omega)]
      have z := h2 j j0 (by omega)
      rw [hh] at z
      rw [show (f 6 + 1 - (f 6 + 1) + j) % 40 = (f 6 - f 6 + j) % 40 by omega]
      exact z
  · rw [if_neg h40, up_s]
    refine ⟨rfl, fun j j0 j1 => ?_⟩
    have hh : hd40 (f 6) = 40 := if_neg h40
    have hh' : hd40 (f 6 + 1) = 40 := if_neg (by omega)
    rw [hh'] at j1 ⊢
    by_cases je : j = 39
    · rw [if_pos (by omega), if_pos (by omega), je, up_n (by omega), up_n (by omega), up_e (by omega), up_n (by omega), up_e (by omega)]
      exact ⟨rfl, rfl⟩
    · rw [if_neg (by omega), if_neg (by omega), up_n (by omega), up_n (by omega), up_n (by omega), up_n (by omega), up_n (by omega), up_n (by omega)]
      have z := h2 (j + 1) (by omega) (by omega)
      rw [hh] at z
      unfold shF
      rw [if_pos (by omega), if_pos (by omega), show (f 6 + 1 - 40 + j) % 40 = (f 6 - 40 + (j + 1)) % 40 by omega, show 312 + 2 * j + 2 = 312 + 2 * (j + 1) by omega, show 313 + 2 * j + 2 = 313 + 2 * (j + 1) by omega]
      exact z
theorem c_bE {i : Int} (hc : c = 9 ∨ c = 20) (hg : isProg g) (ok : tOk T) (hp : pgm I g T fs pl pm) (hu : cuR' I c f) (hla : laOk f) (h0 : 0 ≤ i) (h1 : i < T 1) (h4 : kd T i = 4) : ∃ I', zrun 10 [vR c, vR g, vI i] (I, zRs b, 103, S) = some (some (vI (bE T f i).1), (I', zRs b, 103, S)) ∧ cuR' I' c (bE T f i).2 ∧ laOk (bE T f i).2 ∧ frC c 0 I I' := by
  have h24 := ok.2.1
  have z := (ok.2.2.2.2 i h0 h1).2.2.2.2.2.2 h4
  have z3 := (ok.2.2.2.2 (pt T i) (by omega) (by omega))
  have q := hp.2.1 i h0 h1
  have q2 := hp.2.1 (pt T i) (by omega) (by omega)
  rw [run10, e10_0 (cc_cur hc) hg, q.2.2.1, q2.1, q2.2.1, if_pos (by omega), if_pos (by omega), if_pos (by omega)]
  unfold bE
  by_cases h2 : kd T (pt T i) = 2
  · rw [if_pos h2, if_pos h2, if_pos (by omega), run11, e11_0 (cc_cur hc), sI_s, hu.2.2 _ (by omega) (by omega), if_pos (by omega), if_pos (by omega), if_pos (by omega)]
    by_cases h5 : wr (f (18 + pt T i) + 1) < nb T (pt T i)
    · rw [if_pos h5, if_pos h5, Option.bind_some]
      simp only [zpush_s]
      rw [e10_36 (cc_cur hc) hg, e10_49 (cc_cur hc) hg, if_pos rfl, wr_id (by omega) (by omega)]
      exact ⟨_, rfl, cu_turn hu (by omega), laOk_c (fun x _ _ => up_n (by omega)) hla, fun q q1 q2 _ => by funext j; rw [sI_p q2]⟩
    · rw [if_neg h5, if_neg h5, Option.bind_some]
      simp only [zpush_s]
      rw [e10_36 (cc_cur hc) hg, e10_49 (cc_cur hc) hg, if_neg (by decide), wr_id (by omega) (by omega)]
      exact ⟨_, rfl, cu_turn hu (by omega), laOk_c (fun x _ _ => up_n (by omega)) hla, fun q q1 q2 _ => by funext j; rw [sI_p q2]⟩
  · rw [if_neg h2, if_neg h2, if_pos (by omega)]
    have z4 := z3.2.2.2.2.1 (by omega)
    have lb := la_bits hla (x := nb T (pt T i)) (by omega)
    have lo := la_of hla (x := nb T (pt T i)) (by omega)
    rw [run12, e12_0 (cc_cur hc), hu.2.1, lb.2.1]
    by_cases h5 : f (9 + nb T (pt T i)) = 0
    · rw [if_pos (lb.1.mpr h5), Option.bind_some, if_neg (by omega)]
      simp only [zpush_s]
      rw [e10_49 (cc_cur hc) hg, if_pos rfl, wr_id (by omega) (by omega)]
      exact ⟨_, rfl, cu_latch hu (by omega), la_up hla (by omega) (Or.inl rfl), fun q q1 q2 _ => by funext j; rw [sI_p q1]⟩
    · rw [if_neg (fun y => h5 (lb.1.mp y)), Option.bind_some, if_pos (by omega)]
      simp only [zpush_s]
      rw [e10_49 (cc_cur hc) hg, if_neg (by decide), wr_id (by omega) (by omega)]
      exact ⟨_, rfl, cu_latch hu (by omega), la_up hla (by omega) (Or.inl rfl), fun q q1 q2 _ => by funext j; rw [sI_p q1]⟩
end A39
