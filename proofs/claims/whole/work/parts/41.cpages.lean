/-! ===== the class's pages ===== -/
theorem c_spotL {b : Bool} {S N r : Nat} {I : Nat → Int → Int} {v m : Int} (hr : zkd r = (1, N) ∧ r ≤ 103) (hm : m ≤ N) (hN : (N : Int) ≤ 1000) : ∀ (n : Nat) (k : Int), k + n = m → 0 ≤ k → zX 34 2 [vI v, vR r, vI m, vI k] [] (I, zRs b, 103, S) = some (some (vI (fnd (I r) v n k)), (I, zRs b, 103, S)) := by
  intro n
  induction n with
  | zero => intro k h h0; rw [e34_2 hr, if_pos (by omega)]; rfl
  | succ n ih =>
    intro k h h0
    rw [e34_2 hr, if_neg (by omega), if_pos (by omega)]
    unfold fnd
    by_cases hk : I r k = v
    · rw [if_pos hk, if_pos hk]
    · rw [if_neg hk, if_neg hk, wr_id (by omega) (by omega)]
      exact ih _ (by omega) (by omega)
theorem c_spot {b : Bool} {S N r : Nat} {I : Nat → Int → Int} {v m : Int} (hr : zkd r = (1, N) ∧ r ≤ 103) (h0 : 0 ≤ m) (hm : m ≤ N) (hN : (N : Int) ≤ 1000) : zrun 34 [vI v, vR r, vI m] (I, zRs b, 103, S) = some (some (vI (fnd (I r) v m.toNat 0)), (I, zRs b, 103, S)) := by
  rw [run34, e34_0 hr]
  exact c_spotL hr hm hN m.toNat 0 (by omega) (by omega)
section A41
variable {I : Nat → Int → Int} {b : Bool} {S : Nat} {f : Int → Int}
theorem pg_ca {v : Int} (hp : pgR I 11 f) (h : 0 ≤ f 7) : fnd (I 12) v (f 7).toNat 0 = caF f v := by
  unfold caF
  exact fnd_c _ _ (fun j j0 j1 => hp.2.2.1 j (by omega) (by omega))
theorem pg_as {v : Int} (hp : pgR I 11 f) (h : 0 ≤ f 8) : fnd (I 13) v (f 8).toNat 0 = asF f v := by
  unfold asF
  exact fnd_c _ _ (fun j j0 j1 => (hp.2.2.2 j (by omega) (by omega)).1)
theorem sh3_up {h : Int → Int} {a k : Int} (ha : k ≤ a) : up (fun c => if k ≤ c ∧ c < a then h (c + 1) else h c) a (h (a + 1)) = fun c => if k ≤ c ∧ c < a + 1 then h (c + 1) else h c := by
  funext c; unfold up
  by_cases h1 : c = a
  · rw [if_pos h1, if_pos (by omega), h1]
  · rw [if_neg h1]
    dsimp only
    by_cases h2 : k ≤ c ∧ c < a
    · rw [if_pos h2, if_pos (by omega)]
    · rw [if_neg h2, if_neg (by omega)]
theorem c_useL {h : Int → Int} {pg k m : Int} (hm : I 11 1 = m) (hb : 0 ≤ k ∧ k < m ∧ m ≤ 6) : ∀ (n : Nat) (a : Int), a + n = m - 1 → k ≤ a → zX 29 21 [vR 11, vI pg, vI k, vI a] [] (sP I 12 (fun c => if k ≤ c ∧ c < a then h (c + 1) else h c), zRs b, 103, S) = some (some (vI 1), (sP I 12 (up (fun c => if k ≤ c ∧ c < m - 1 then h (c + 1) else h c) (m - 1) pg), zRs b, 103, S)) := by
  intro n
  induction n with
  | zero =>
    intro a ha ka
    rw [e29_21, sP_n (by decide), hm, wr_id (a := a + 1) (by omega) (by omega), if_pos (by omega), wr_id (by omega) (by omega), if_pos (by omega), sIP, show a = m - 1 by omega]
  | succ n ih =>
    intro a ha ka
    rw [e29_21, sP_n (by decide), hm, sP_s, wr_id (a := a + 1) (by omega) (by omega), if_neg (by omega), if_pos (by omega), if_pos (by omega), if_neg (by omega), sIP, sh3_up ka]
    exact ih _ (by omega) (by omega)
theorem c_use {pg : Int} (hp : pgR I 11 f) (h7 : 0 ≤ f 7 ∧ f 7 ≤ 6) (h8 : 0 ≤ f 8 ∧ f 8 ≤ 16) : ∃ I', zrun 29 [vR 11, vI pg] (I, zRs b, 103, S) = some (some (vI (if caF f pg = -4 then 0 else 1)), (I', zRs b, 103, S)) ∧ pgR I' 11 (if caF f pg = -4 then f else inF pg (lvs (caF f pg) f)) ∧ ∀ q, q ≠ 12 → I' q = I q := by
  rw [run29, e29_0, hp.1, c_spot (N := 6) ⟨rfl, by decide⟩ h7.1 h7.2 (by decide), Option.bind_some, pg_ca hp h7.1]
  simp only [zpush_s]
  rw [e29_12]
  rcases ca_r (pg := pg) h7.1 with z | z
  · rw [if_neg (by omega), if_pos z.1, if_pos z.1]
    exact ⟨I, rfl, hp, fun _ _ => rfl⟩
  · rw [if_pos z.1, if_neg (by omega), if_neg (by omega)]
    have u := c_useL (b := b) (S := S) (h := I 12) (pg := pg) (k := caF f pg) hp.1 (by omega) (f 7 - 1 - caF f pg).toNat (caF f pg) (by omega) (by omega)
    rw [show (fun c => if caF f pg ≤ c ∧ c < caF f pg then I 12 (c + 1) else I 12 c) = I 12 by funext c; rw [if_neg (by omega)], sP_I] at u
    refine ⟨_, u, ?_, fun q q1 => sP_n q1⟩
    have e7 : lvs (caF f pg) f 7 = f 7 - 1 := up_s
    have us := us_c (pg := pg) (k := caF f pg) (f := f) (by omega)
    unfold pgR
    rw [us 7 (by omega), us 8 (by omega), sP_n (by decide), show 11 + 1 = 12 from rfl, sP_s, sP_n (by decide), sP_n (by decide)]
    refine ⟨hp.1, hp.2.1, fun j j0 j1 => ?_, fun j j0 j1 => by rw [us _ (by omega), us _ (by omega)]; exact hp.2.2.2 j j0 j1⟩
    unfold inF
    rw [e7, up_n (show 42 + j ≠ 7 by omega)]
    by_cases jl : j = f 7 - 1
    · rw [up_e jl, up_e (by omega)]
    · rw [up_n jl, up_n (by omega)]
      unfold lvs
      rw [up_n (by omega)]
      by_cases jk : caF f pg ≤ j
      · rw [if_pos (by omega), if_pos (by omega), show 42 + j + 1 = 42 + (j + 1) by omega]
        exact hp.2.2.1 (j + 1) (by omega) (by omega)
      · rw [if_neg (by omega), if_neg (by omega)]
        exact hp.2.2.1 j (by omega) (by omega)
theorem sh4_up {h : Int → Int} {a gn : Int} (ha : 0 ≤ a) : up (fun c => if 0 ≤ c ∧ c < a then h (c + gn) else h c) a (h (a + gn)) = fun c => if 0 ≤ c ∧ c < a + 1 then h (c + gn) else h c := by
  funext c; unfold up
  by_cases h1 : c = a
  · rw [if_pos h1, if_pos (by omega), h1]
  · rw [if_neg h1]
    dsimp only
    by_cases h2 : 0 ≤ c ∧ c < a
    · rw [if_pos h2, if_pos (by omega)]
    · rw [if_neg h2, if_neg (by omega)]
theorem c_dropL {h : Int → Int} {m gn : Int} (hb : 0 ≤ m ∧ 1 ≤ gn ∧ m + gn ≤ 6) : ∀ (n : Nat) (a : Int), a + n = m → 0 ≤ a → zX 30 18 [vR 11, vI m, vI gn, vI a] [] (sP I 12 (fun c => if 0 ≤ c ∧ c < a then h (c + gn) else h c), zRs b, 103, S) = some (none, (sI (sP I 12 (fun c => if 0 ≤ c ∧ c < m then h (c + gn) else h c)) 11 1 m, zRs b, 103, S)) := by
  intro n
  induction n with
  | zero =>
    intro a ha ka
    rw [e30_18, if_pos (by omega), show a = m by omega]
  | succ n ih =>
    intro a ha ka
    rw [e30_18, if_neg (by omega), sP_s, wr_id (a := a + gn) (by omega) (by omega), wr_id (a := a + 1) (by omega) (by omega), if_pos (by omega), if_pos (by omega), if_neg (by omega), sIP, sh4_up ka]
    exact ih _ (by omega) (by omega)
theorem c_dropTo {m : Int} (hn : 0 ≤ I 11 1 ∧ I 11 1 ≤ 6) (hm : 0 ≤ m ∧ m ≤ 6) : zrun 30 [vR 11, vI m] (I, zRs b, 103, S) = some (none, ((if I 11 1 ≤ m then I else sI (sP I 12 (fun c => if 0 ≤ c ∧ c < m then I 12 (c + (I 11 1 - m)) else I 12 c)) 11 1 m), zRs b, 103, S)) := by
  rw [run30, e30_0, wr_id (by omega) (by omega)]
  by_cases h : I 11 1 ≤ m
  · rw [if_pos (by omega), if_pos h]
  · rw [if_neg (by omega), if_pos hm.1, if_neg h]
    have u := c_dropL (I := I) (b := b) (S := S) (h := I 12) (m := m) (gn := I 11 1 - m) (by omega) m.toNat 0 (by omega) (by omega)
    rw [show (fun c => if 0 ≤ c ∧ c < 0 then I 12 (c + (I 11 1 - m)) else I 12 c) = I 12 by funext c; rw [if_neg (by omega)], sP_I] at u
    exact u
theorem c_addToCache {pg : Int} (hp : pgR I 11 f) (h7 : 0 ≤ f 7 ∧ f 7 ≤ f 15 ∧ 1 ≤ f 15 ∧ f 15 ≤ 6) : ∃ I', zrun 32 [vR 11, vI pg, vI (f 15)] (I, zRs b, 103, S) = some (none, (I', zRs b, 103, S)) ∧ pgR I' 11 (coF pg f) ∧ ∀ q, q ≠ 11 → q ≠ 12 → I' q = I q := by
  have co := co_7 (pg := pg) h7
  rw [run32, e32_0, wr_id (by omega) (by omega), c_dropTo (by rw [hp.1]; omega) (by omega), Option.bind_some, hp.1]
  simp only [zpush_n]
  by_cases h : f 7 = f 15
  · rw [if_neg (by omega), e32_7, sI_s, if_neg (by omega), if_pos (by omega), wr_id (by omega) (by omega)]
    refine ⟨_, rfl, ?_, fun q q1 q2 => by funext j; rw [sI_p q1, sI_p q2, sI_p q1, sP_n q2]⟩
    have e7 : coF pg f 7 = f 7 := by
      unfold coF inF; rw [if_pos h, up_s, show lvs 0 f 7 = f 7 - 1 from up_s]; omega
    unfold pgR
    rw [e7, co.2 8 (by omega), show 11 + 1 = 12 from rfl, show 11 + 2 = 13 from rfl, show 11 + 3 = 14 from rfl]
    refine ⟨by rw [sI_s]; omega, ?_, fun j j0 j1 => ?_, fun j j0 j1 => ?_⟩
    · rw [sI_k (by decide), sI_p (by decide), sI_k (by decide), sP_n (by decide)]; exact hp.2.1
    · unfold coF inF
      rw [if_pos h, show lvs 0 f 7 = f 7 - 1 from up_s, up_n (show 42 + j ≠ 7 by omega), sI_p (by decide)]
      by_cases jl : j = f 7 - 1
      · rw [show j = f 15 - 1 by omega, sI_s, up_e (by omega)]
      · rw [sI_k (by omega), sI_p (by decide), sP_s, if_pos (by omega), up_n (by omega)]
        unfold lvs
        rw [up_n (by omega), if_pos (by omega), show 42 + j + 1 = 42 + (j + 1) by omega, show j + (f 7 - (f 15 - 1)) = j + 1 by omega]
        exact hp.2.2.1 (j + 1) (by omega) (by omega)
    · rw [co.2 _ (by omega), co.2 _ (by omega), sI_p (by decide), sI_p (by decide), sI_p (by decide), sP_n (by decide), sI_p (by decide), sI_p (by decide), sI_p (by decide), sP_n (by decide)]
      exact hp.2.2.2 j j0 j1
  · rw [if_pos (by omega), e32_7, hp.1, if_neg (by omega), if_pos (by omega), wr_id (by omega) (by omega)]
    refine ⟨_, rfl, ?_, fun q q1 q2 => by funext j; rw [sI_p q1, sI_p q2]⟩
    have e7 : coF pg f 7 = f 7 + 1 := by
      unfold coF inF; rw [if_neg h, up_s]
    unfold pgR
    rw [e7, co.2 8 (by omega), show 11 + 1 = 12 from rfl, show 11 + 2 = 13 from rfl, show 11 + 3 = 14 from rfl]
    refine ⟨by rw [sI_s], ?_, fun j j0 j1 => ?_, fun j j0 j1 => ?_⟩
    · rw [sI_k (by decide), sI_p (by decide)]; exact hp.2.1
    · unfold coF inF
      rw [if_neg h, up_n (show 42 + j ≠ 7 by omega), sI_p (by decide)]
      by_cases jl : j = f 7
      · rw [jl, sI_s, up_s]
      · rw [sI_k jl, up_n (by omega)]
        exact hp.2.2.1 j (by omega) (by omega)
    · rw [co.2 _ (by omega), co.2 _ (by omega), sI_p (by decide), sI_p (by decide), sI_p (by decide), sI_p (by decide)]
      exact hp.2.2.2 j j0 j1
end A41
theorem c_bringL {b : Bool} {S : Nat} {clk rm : Int} : ∀ (n : Nat) (k l : Int) (I : Nat → Int → Int) (f : Int → Int), pgR I 11 f → clk = f 2 → rm = f 15 → k + n = f 8 → f 8 ≤ 16 → 0 ≤ l → l ≤ k → 0 ≤ f 7 ∧ f 7 ≤ f 15 ∧ 1 ≤ f 15 ∧ f 15 ≤ 6 → ∃ I', zX 31 5 [vR 11, vI clk, vI rm, vI l, vI k] [] (I, zRs b, 103, S) = some (none, (I', zRs b, 103, S)) ∧ pgR I' 11 (arN n k l f) ∧ ∀ q, q < 11 ∨ 14 < q → I' q = I q := by
  intro n
  induction n with
  | zero =>
    intro k l I f hp hc hr hn h8 l0 lk h7
    rw [e31_5, hp.2.1, if_pos (by omega)]
    refine ⟨_, rfl, ?_, fun q hq => by funext j; rw [sI_p (by omega)]⟩
    unfold arN pgR
    rw [up_n (by omega), up_s, show 11 + 1 = 12 from rfl, show 11 + 2 = 13 from rfl, show 11 + 3 = 14 from rfl]
    refine ⟨by rw [sI_k (by decide)]; exact hp.1, sI_s, fun j j0 j1 => ?_, fun j j0 j1 => ?_⟩
    · rw [sI_p (by decide), up_n (by omega)]; exact hp.2.2.1 j j0 j1
    · rw [sI_p (by decide), sI_p (by decide), up_n (by omega), up_n (by omega)]; exact hp.2.2.2 j j0 (by omega)
  | succ n ih =>
    intro k l I f hp hc hr hn h8 l0 lk h7
    have q := hp.2.2.2 k (by omega) (by omega)
    rw [show 11 + 2 = 13 from rfl, show 11 + 3 = 14 from rfl] at q
    rw [e31_5, hp.2.1, if_neg (by omega), q.1, q.2, wr_id (a := k + 1) (by omega) (by omega), wr_id (a := l + 1) (by omega) (by omega), if_pos (by omega)]
    unfold arN
    rw [hc]
    by_cases hw : f 2 < f (80 + k)
    · rw [if_pos hw, if_pos hw, if_pos (by omega), if_pos (by omega), if_pos (by omega), if_pos (by omega)]
      have e : ∀ x, x ≠ 48 + l → x ≠ 80 + l → up (up f (48 + l) (f (48 + k))) (80 + l) (f (80 + k)) x = f x := fun x x1 x2 => by rw [up_n x2, up_n x1]
      have hp' : pgR (sI (sI I 13 l (f (48 + k))) 14 l (f (80 + k))) 11 (up (up f (48 + l) (f (48 + k))) (80 + l) (f (80 + k))) := by
        unfold pgR
        rw [e 7 (by omega) (by omega), e 8 (by omega) (by omega), show 11 + 1 = 12 from rfl, show 11 + 2 = 13 from rfl, show 11 + 3 = 14 from rfl]
        refine ⟨by rw [sI_p (by decide), sI_p (by decide)]; exact hp.1, by rw [sI_p (by decide), sI_p (by decide)]; exact hp.2.1, fun j j0 j1 => ?_, fun j j0 j1 => ?_⟩
        · rw [sI_p (by decide), sI_p (by decide), e _ (by omega) (by omega)]; exact hp.2.2.1 j j0 j1
        · have z := hp.2.2.2 j j0 j1
          rw [show 11 + 2 = 13 from rfl, show 11 + 3 = 14 from rfl] at z
          by_cases jl : j = l
          · rw [jl, sI_p (by decide), sI_s, sI_s, up_n (by omega), up_s, up_s]
            exact ⟨rfl, rfl⟩
          · rw [sI_p (by decide), sI_k jl, sI_k jl, sI_p (by decide), e _ (by omega) (by omega), e _ (by omega) (by omega)]
            exact z
      obtain ⟨I', r1, r2, r3⟩ := ih (k + 1) (l + 1) _ _ hp' (by rw [e 2 (by omega) (by omega)]; exact hc) (by rw [e 15 (by omega) (by omega)]; exact hr) (by rw [e 8 (by omega) (by omega)]; omega) (by rw [e 8 (by omega) (by omega)]; omega) (by omega) (by omega) (by rw [e 7 (by omega) (by omega), e 15 (by omega) (by omega)]; exact h7)
      rw [hc] at r1
      exact ⟨I', r1, r2, fun q hq => (r3 q hq).trans (by funext j; rw [sI_p (by omega), sI_p (by omega)])⟩
    · rw [if_neg hw, if_neg hw, if_pos (by omega), hr]
      obtain ⟨J, j1, j2, j3⟩ := c_addToCache (b := b) (S := S) (pg := f (48 + k)) hp h7
      rw [j1, Option.bind_some]
      simp only [zpush_n]
      have co := co_7 (pg := f (48 + k)) h7
      obtain ⟨I', r1, r2, r3⟩ := ih (k + 1) l J _ j2 (by rw [co.2 2 (by omega)]; exact hc) (by rw [co.2 15 (by omega)]; exact hr) (by rw [co.2 8 (by omega)]; omega) (by rw [co.2 8 (by omega)]; omega) (by omega) (by omega) (by rw [co.2 15 (by omega)]; omega)
      rw [e31_37, wr_id (by omega) (by omega)]
      rw [hc, hr] at r1
      exact ⟨I', r1, r2, fun q hq => (r3 q hq).trans (j3 q (by omega) (by omega))⟩
theorem c_bringIn {I : Nat → Int → Int} {b : Bool} {S : Nat} {f : Int → Int} (hp : pgR I 11 f) (h8 : 0 ≤ f 8 ∧ f 8 ≤ 16) (h7 : 0 ≤ f 7 ∧ f 7 ≤ f 15 ∧ 1 ≤ f 15 ∧ f 15 ≤ 6) : ∃ I', zrun 31 [vR 11, vI (f 2), vI (f 15)] (I, zRs b, 103, S) = some (none, (I', zRs b, 103, S)) ∧ pgR I' 11 (arF f) ∧ ∀ q, q < 11 ∨ 14 < q → I' q = I q := by
  rw [run31, e31_0]
  exact c_bringL (f 8).toNat 0 0 I f hp rfl rfl (by omega) h8.2 (by omega) (by omega) h7
theorem c_askFor {I : Nat → Int → Int} {b : Bool} {S : Nat} {f : Int → Int} {pg cm : Int} (hp : pgR I 11 f) (h8 : 0 ≤ f 8 ∧ f 8 ≤ 16) (h7 : 0 ≤ f 7 ∧ f 7 ≤ 6) (hk : caF f pg = -4 → asF f pg = -4 → f 8 < 16) (hcm : cm = wr (wr (f 2 + 1) + f 16)) : ∃ I', zrun 33 [vR 11, vI pg, vI cm] (I, zRs b, 103, S) = some (none, (I', zRs b, 103, S)) ∧ pgR I' 11 (akF f pg) ∧ ∀ q, q < 11 ∨ 14 < q → I' q = I q := by
  rw [run33, e33_0, hp.1, c_spot (N := 6) ⟨rfl, by decide⟩ h7.1 h7.2 (by decide), Option.bind_some, pg_ca hp h7.1]
  simp only [zpush_s]
  rw [e33_12]
  unfold akF
  rcases ca_r (pg := pg) h7.1 with z | z
  · rw [if_neg (by omega), hp.2.1, c_spot (N := 16) ⟨rfl, by decide⟩ h8.1 h8.2 (by decide), Option.bind_some, pg_as hp h8.1]
    simp only [zpush_s]
    rw [e33_27, hp.2.1]
    rcases as_r (pg := pg) h8.1 with y | y
    · have := hk z.1 y.1
      rw [if_pos (by omega), if_neg (by omega), if_pos (by omega), if_pos (by omega), if_pos ⟨z.1, y.1⟩, wr_id (by omega) (by omega)]
      refine ⟨_, rfl, ?_, fun q hq => by funext j; rw [sI_p (by omega), sI_p (by omega), sI_p (by omega)]⟩
      unfold pgR
      rw [up_n (by omega), up_n (by omega), up_n (by omega), up_s, show 11 + 1 = 12 from rfl, show 11 + 2 = 13 from rfl, show 11 + 3 = 14 from rfl]
      refine ⟨by rw [sI_k (by decide), sI_p (by decide), sI_p (by decide)]; exact hp.1, sI_s, fun j j0 j1 => ?_, fun j j0 j1 => ?_⟩
      · rw [sI_p (by decide), sI_p (by decide), sI_p (by decide), up_n (by omega), up_n (by omega), up_n (by omega)]; exact hp.2.2.1 j j0 j1
      · by_cases jl : j = f 8
        · rw [jl, sI_p (by decide), sI_p (by decide), sI_s, sI_p (by decide), sI_s, up_n (by omega), up_n (by omega), up_s, up_n (by omega), up_s]
          exact ⟨rfl, hcm⟩
        · rw [sI_p (by decide), sI_p (by decide), sI_k jl, sI_p (by decide), sI_k jl, sI_p (by decide), up_n (by omega), up_n (by omega), up_n (by omega), up_n (by omega), up_n (by omega), up_n (by omega)]
          exact hp.2.2.2 j j0 (by omega)
    · rw [if_neg (by omega), if_neg (fun w => by omega)]
      exact ⟨I, rfl, hp, fun _ _ => rfl⟩
  · rw [if_pos z.1, if_neg (fun w => by omega)]
    exact ⟨I, rfl, hp, fun _ _ => rfl⟩
