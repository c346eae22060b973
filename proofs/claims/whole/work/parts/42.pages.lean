/-! ===== no page twice ===== -/
theorem php : ∀ (P m : Nat) (s : Nat → Int), (∀ i, i < m → 0 ≤ s i ∧ s i < P) → (∀ i j, i < m → j < m → s i = s j → i = j) → m ≤ P ∧ (m = P → ∀ v, 0 ≤ v → v < (P : Int) → ∃ i, i < m ∧ s i = v) := by
  intro P
  induction P with
  | zero =>
    intro m s h1 h2
    have : m = 0 := by
      cases m with
      | zero => rfl
      | succ m => have := h1 0 (by omega); omega
    exact ⟨by omega, fun _ v v0 v1 => by omega⟩
  | succ P ih =>
    intro m s h1 h2
    by_cases hx : ∃ i, i < m ∧ s i = (P : Int)
    · obtain ⟨i0, hi, hs⟩ := hx
      have z := ih (m - 1) (fun i => if i = i0 then s (m - 1) else s i) (fun i hi2 => by
        try dsimp only
        by_cases e : i = i0
        · rw [if_pos e]
          have a := h1 (m - 1) (by omega)
          have c : s (m - 1) ≠ (P : Int) := fun y => by
            have := h2 (m - 1) i0 (by omega) hi (y.trans hs.symm)
            omega
          omega
        · rw [if_neg e]
          have a := h1 i (by omega)
          have c : s i ≠ (P : Int) := fun y => e (h2 i i0 (by omega) hi (y.trans hs.symm))
          omega) (fun i j hi2 hj2 => by
        try dsimp only
        intro he
        by_cases e : i = i0
        · rw [if_pos e] at he
          by_cases e2 : j = i0
          · omega
          · rw [if_neg e2] at he
            have := h2 _ _ (by omega) (by omega) he
            omega
        · rw [if_neg e] at he
          by_cases e2 : j = i0
          · rw [if_pos e2] at he
            have := h2 _ _ (by omega) (by omega) he
            omega
          · rw [if_neg e2] at he
            exact h2 _ _ (by omega) (by omega) he)
      refine ⟨by omega, fun hm v v0 v1 => ?_⟩
      by_cases hv : v = (P : Int)
      · exact ⟨i0, hi, hs.trans hv.symm⟩
      · obtain ⟨i, j1, j2⟩ := z.2 (by omega) v v0 (by omega)
        try dsimp only at j2
        by_cases e : i = i0
        · rw [if_pos e] at j2; exact ⟨m - 1, by omega, j2⟩
        · rw [if_neg e] at j2; exact ⟨i, by omega, j2⟩
    · have z := ih m s (fun i hi => by
        have a := h1 i hi
        have c : s i ≠ (P : Int) := fun y => hx ⟨i, hi, y⟩
        omega) h2
      exact ⟨by omega, fun hm => by omega⟩
def slt (n l k h x : Int) : Prop := (42 ≤ x ∧ x < 42 + n) ∨ (48 ≤ x ∧ x < 48 + l) ∨ (48 + k ≤ x ∧ x < 48 + h)
def dj (P n l k h : Int) (f : Int → Int) : Prop := (∀ x, slt n l k h x → 0 ≤ f x ∧ f x < P) ∧ ∀ x y, slt n l k h x → slt n l k h y → f x = f y → x = y
theorem dj_map {P n l k h n' l' k' h' : Int} {f f' : Int → Int} (σ : Int → Int) (h1 : ∀ x, slt n' l' k' h' x → slt n l k h (σ x) ∧ f' x = f (σ x)) (h2 : ∀ x y, slt n' l' k' h' x → slt n' l' k' h' y → σ x = σ y → x = y) (hd : dj P n l k h f) : dj P n' l' k' h' f' :=
  ⟨fun x hx => by rw [(h1 x hx).2]; exact hd.1 _ (h1 x hx).1, fun x y hx hy he => by
    rw [(h1 x hx).2, (h1 y hy).2] at he
    exact h2 x y hx hy (hd.2 _ _ (h1 x hx).1 (h1 y hy).1 he)⟩
theorem dj_c {P n a : Int} {f f' : Int → Int} (h : ∀ x, slt n a 0 0 x → f' x = f x) (hd : dj P n a 0 0 f) : dj P n a 0 0 f' := dj_map id (fun x hx => ⟨hx, h x hx⟩) (fun _ _ _ _ e => e) hd
theorem dj_php {P : Int} {f : Int → Int} {n a : Int} (hP : 0 ≤ P) (hn : 0 ≤ n ∧ n ≤ 6) (ha : 0 ≤ a) (hd : dj P n a 0 0 f) : n + a ≤ P ∧ (n + a = P → ∀ v, 0 ≤ v → v < P → (∃ j, 0 ≤ j ∧ j < n ∧ f (42 + j) = v) ∨ ∃ j, 0 ≤ j ∧ j < a ∧ f (48 + j) = v) := by
  have z := php P.toNat (n + a).toNat (fun i => if (i : Int) < n then f (42 + i) else f (48 + (i - n))) (fun i hi => by
    try dsimp only
    split
    · have := hd.1 (42 + i) (Or.inl (by omega)); omega
    · have := hd.1 (48 + (i - n)) (Or.inr (Or.inl (by omega))); omega) (fun i j hi hj => by
    try dsimp only
    intro he
    split at he
    · split at he
      · have := hd.2 _ _ (Or.inl (by omega)) (Or.inl (by omega)) he; omega
      · have := hd.2 _ _ (Or.inl (by omega)) (Or.inr (Or.inl (by omega))) he; omega
    · split at he
      · have := hd.2 _ _ (Or.inr (Or.inl (by omega))) (Or.inl (by omega)) he; omega
      · have := hd.2 _ _ (Or.inr (Or.inl (by omega))) (Or.inr (Or.inl (by omega))) he; omega)
  refine ⟨by omega, fun hm v v0 v1 => ?_⟩
  obtain ⟨i, i1, i2⟩ := z.2 (by omega) v v0 (by omega)
  try dsimp only at i2
  split at i2
  · exact Or.inl ⟨i, by omega, by omega, i2⟩
  · exact Or.inr ⟨i - n, by omega, by omega, i2⟩
theorem co_dj {P l k h : Int} {f : Int → Int} (hl : 0 ≤ l ∧ l ≤ k ∧ k < h ∧ h ≤ 16) (h7 : 0 ≤ f 7 ∧ f 7 ≤ f 15 ∧ 1 ≤ f 15 ∧ f 15 ≤ 6) (hd : dj P (f 7) l k h f) : dj P (coF (f (48 + k)) f 7) l (k + 1) h (coF (f (48 + k)) f) := by
  by_cases h1 : f 7 = f 15
  · have e7 : coF (f (48 + k)) f 7 = f 7 := by
      unfold coF inF; rw [if_pos h1, up_s, show lvs 0 f 7 = f 7 - 1 from up_s]; omega
    rw [e7]
    refine dj_map (fun x => if 42 ≤ x ∧ x < 41 + f 7 then x + 1 else if x = 41 + f 7 then 48 + k else x) (fun x hx => ?_) (fun x y hx hy => ?_) hd
    · unfold coF inF
      rw [if_pos h1, show lvs 0 f 7 = f 7 - 1 from up_s]
      try dsimp only
      unfold slt at hx ⊢
      rw [up_n (show x ≠ 7 by omega)]
      by_cases x1 : 42 ≤ x ∧ x < 41 + f 7
      · rw [if_pos x1, up_n (by omega)]
        unfold lvs
        rw [up_n (by omega), if_pos (by omega)]
        exact ⟨by omega, rfl⟩
      · rw [if_neg x1]
        by_cases x2 : x = 41 + f 7
        · rw [if_pos x2, up_e (by omega)]
          exact ⟨by omega, rfl⟩
        · rw [if_neg x2, up_n (by omega)]
          unfold lvs
          rw [up_n (by omega), if_neg (by omega)]
          exact ⟨by omega, rfl⟩
    · try dsimp only
      unfold slt at hx hy
      split
      · split
        · omega
        · split <;> omega
      · split
        · split
          · omega
          · split <;> omega
        · split
          · omega
          · split <;> omega
  · have e7 : coF (f (48 + k)) f 7 = f 7 + 1 := by
      unfold coF inF; rw [if_neg h1, up_s]
    rw [e7]
    refine dj_map (fun x => if x = 42 + f 7 then 48 + k else x) (fun x hx => ?_) (fun x y hx hy => ?_) hd
    · unfold coF inF
      rw [if_neg h1]
      try dsimp only
      unfold slt at hx ⊢
      rw [up_n (show x ≠ 7 by omega)]
      by_cases x2 : x = 42 + f 7
      · rw [if_pos x2, up_e (by omega)]
        exact ⟨by omega, rfl⟩
      · rw [if_neg x2, up_n (by omega)]
        exact ⟨by omega, rfl⟩
    · try dsimp only
      unfold slt at hx hy
      split
      · split <;> omega
      · split <;> omega
theorem arN_dj {P : Int} : ∀ (n : Nat) (k l : Int) (f : Int → Int), k + n ≤ 16 → 0 ≤ l → l ≤ k → 0 ≤ f 7 ∧ f 7 ≤ f 15 ∧ 1 ≤ f 15 ∧ f 15 ≤ 6 → dj P (f 7) l k (k + n) f → dj P (arN n k l f 7) (arN n k l f 8) 0 0 (arN n k l f) := by
  intro n
  induction n with
  | zero =>
    intro k l f h l0 lk h7 hd
    unfold arN
    rw [up_n (by omega), up_s]
    refine dj_map id (fun x hx => ?_) (fun _ _ _ _ e => e) hd
    unfold slt at hx ⊢
    exact ⟨by dsimp only [id]; omega, up_n (by omega)⟩
  | succ n ih =>
    intro k l f h l0 lk h7 hd
    rw [show k + ((n + 1 : Nat) : Int) = k + 1 + n by omega] at hd
    unfold arN
    by_cases hw : f 2 < f (80 + k)
    · rw [if_pos hw]
      have e : ∀ x, x ≠ 48 + l → x ≠ 80 + l → up (up f (48 + l) (f (48 + k))) (80 + l) (f (80 + k)) x = f x := fun x x1 x2 => by rw [up_n x2, up_n x1]
      refine ih _ _ _ (by omega) (by omega) (by omega) (by rw [e 7 (by omega) (by omega), e 15 (by omega) (by omega)]; exact h7) ?_
      rw [e 7 (by omega) (by omega)]
      refine dj_map (fun x => if x = 48 + l then 48 + k else x) (fun x hx => ?_) (fun x y hx hy => ?_) hd
      · try dsimp only
        unfold slt at hx ⊢
        by_cases x2 : x = 48 + l
        · rw [if_pos x2, up_n (by omega), up_e x2]
          exact ⟨by omega, rfl⟩
        · rw [if_neg x2, e x x2 (by omega)]
          exact ⟨by omega, rfl⟩
      · try dsimp only
        unfold slt at hx hy
        split
        · split <;> omega
        · split <;> omega
    · rw [if_neg hw]
      have co := co_7 (pg := f (48 + k)) h7
      refine ih _ _ _ (by omega) (by omega) (by omega) (by rw [co.2 15 (by omega)]; omega) ?_
      exact co_dj (by omega) h7 hd
theorem arF_dj {P : Int} {f : Int → Int} (h8 : 0 ≤ f 8 ∧ f 8 ≤ 16) (h7 : 0 ≤ f 7 ∧ f 7 ≤ f 15 ∧ 1 ≤ f 15 ∧ f 15 ≤ 6) (hd : dj P (f 7) (f 8) 0 0 f) : dj P (arF f 7) (arF f 8) 0 0 (arF f) := by
  unfold arF
  refine arN_dj (f 8).toNat 0 0 f (by omega) (by omega) (by omega) h7 (dj_map id (fun x hx => ⟨?_, rfl⟩) (fun _ _ _ _ e => e) hd)
  unfold slt at hx ⊢
  dsimp only [id]
  omega
theorem us_dj {P : Int} {f : Int → Int} {k : Int} (hk : 0 ≤ k ∧ k < f 7 ∧ f 7 ≤ 6) (hd : dj P (f 7) (f 8) 0 0 f) : dj P (f 7) (f 8) 0 0 (inF (f (42 + k)) (lvs k f)) := by
  refine dj_map (fun x => if 42 + k ≤ x ∧ x < 41 + f 7 then x + 1 else if x = 41 + f 7 then 42 + k else x) (fun x hx => ?_) (fun x y hx hy => ?_) hd
  · unfold inF
    rw [show lvs k f 7 = f 7 - 1 from up_s]
    try dsimp only
    unfold slt at hx ⊢
    rw [up_n (show x ≠ 7 by omega)]
    by_cases x1 : 42 + k ≤ x ∧ x < 41 + f 7
    · rw [if_pos x1, up_n (by omega)]
      unfold lvs
      rw [up_n (by omega), if_pos (by omega)]
      exact ⟨by omega, rfl⟩
    · rw [if_neg x1]
      by_cases x2 : x = 41 + f 7
      · rw [if_pos x2, up_e (by omega)]
        exact ⟨by omega, rfl⟩
      · rw [if_neg x2, up_n (by omega)]
        unfold lvs
        rw [up_n (by omega), if_neg (by omega)]
        exact ⟨by omega, rfl⟩
  · try dsimp only
    unfold slt at hx hy
    split
    · split
      · omega
      · split <;> omega
    · split
      · split
        · omega
        · split <;> omega
      · split
        · omega
        · split <;> omega
theorem ak_dj {P pg : Int} {f : Int → Int} (h8 : 0 ≤ f 8) (h7 : 0 ≤ f 7 ∧ f 7 ≤ 6) (hp : 0 ≤ pg ∧ pg < P) (hd : dj P (f 7) (f 8) 0 0 f) : dj P (akF f pg 7) (akF f pg 8) 0 0 (akF f pg) := by
  unfold akF
  by_cases hc : caF f pg = -4 ∧ asF f pg = -4
  · rw [if_pos hc]
    have c1 := ((ca_r (pg := pg) h7.1).resolve_right (fun z => by omega)).2
    have c2 := ((as_r (pg := pg) h8).resolve_right (fun z => by omega)).2
    have P16 := (dj_php (by omega) h7 h8 hd).1
    have e : ∀ x, x ≠ 48 + f 8 → x ≠ 80 + f 8 → x ≠ 8 → up (up (up f (48 + f 8) pg) (80 + f 8) (wr (wr (f 2 + 1) + f 16))) 8 (f 8 + 1) x = f x := fun x x1 x2 x3 => by rw [up_n x3, up_n x2, up_n x1]
    have e8 : up (up (up f (48 + f 8) pg) (80 + f 8) (wr (wr (f 2 + 1) + f 16))) 8 (f 8 + 1) 8 = f 8 + 1 := up_s
    have ep : up (up (up f (48 + f 8) pg) (80 + f 8) (wr (wr (f 2 + 1) + f 16))) 8 (f 8 + 1) (48 + f 8) = pg := by rw [up_n (by omega), up_n (by omega), up_s]
    rw [e 7 (by omega) (by omega) (by omega), e8]
    have nw : ∀ x, slt (f 7) (f 8 + 1) 0 0 x → x ≠ 48 + f 8 → slt (f 7) (f 8) 0 0 x := fun x hx x1 => by unfold slt at hx ⊢; omega
    have nf : ∀ x, slt (f 7) (f 8) 0 0 x → f x ≠ pg := fun x hx => by
      unfold slt at hx
      rcases hx with y | y | y
      · have := c1 (x - 42) (by omega) (by omega); rw [show 42 + (x - 42) = x by omega] at this; exact this
      · have := c2 (x - 48) (by omega) (by omega); rw [show 48 + (x - 48) = x by omega] at this; exact this
      · omega
    have sb : ∀ x, slt (f 7) (f 8) 0 0 x → x ≠ 80 + f 8 ∧ x ≠ 8 := fun x hx => by unfold slt at hx; omega
    constructor
    · intro x hx
      by_cases x1 : x = 48 + f 8
      · rw [x1, ep]; exact hp
      · have s1 := nw x hx x1
        rw [e x x1 (sb x s1).1 (sb x s1).2]; exact hd.1 x s1
    · intro x y hx hy he
      by_cases x1 : x = 48 + f 8
      · by_cases y1 : y = 48 + f 8
        · omega
        · have s1 := nw y hy y1
          rw [x1, ep, e y y1 (sb y s1).1 (sb y s1).2] at he
          exact absurd he.symm (nf y s1)
      · have s1 := nw x hx x1
        by_cases y1 : y = 48 + f 8
        · rw [y1, ep, e x x1 (sb x s1).1 (sb x s1).2] at he
          exact absurd he (nf x s1)
        · have s2 := nw y hy y1
          rw [e x x1 (sb x s1).1 (sb x s1).2, e y y1 (sb y s2).1 (sb y s2).2] at he
          exact hd.2 x y s1 s2 he
  · rw [if_neg hc]; exact hd
theorem akL_dj {P : Int} : ∀ (L : List Int) (f : Int → Int), 0 ≤ f 8 → 0 ≤ f 7 ∧ f 7 ≤ 6 → (∀ x, x ∈ L → 0 ≤ x ∧ x < P) → dj P (f 7) (f 8) 0 0 f → dj P (L.foldl akF f 7) (L.foldl akF f 8) 0 0 (L.foldl akF f) := by
  intro L
  induction L with
  | nil => intro f _ _ _ hd; exact hd
  | cons x L ih =>
    intro f h8 h7 hx hd
    rw [List.foldl_cons]
    have a := ak_c (f := f) (pg := x) h8
    refine ih _ (by omega) (by rw [a.2 7 (by omega)]; exact h7) (fun y hy => hx y (List.mem_cons_of_mem _ hy)) (ak_dj h8 h7 (hx x (List.mem_cons_self)) hd)
theorem akL_id {P : Int} : ∀ (L : List Int) (f : Int → Int), 0 ≤ P → 0 ≤ f 8 → 0 ≤ f 7 ∧ f 7 ≤ 6 → (∀ x, x ∈ L → 0 ≤ x ∧ x < P) → dj P (f 7) (f 8) 0 0 f → P ≤ f 7 + f 8 → L.foldl akF f = f := by
  intro L
  induction L with
  | nil => intro f _ _ _ _ _ _; rfl
  | cons x L ih =>
    intro f hP h8 h7 hx hd hf
    rw [List.foldl_cons]
    have pp := dj_php hP h7 h8 hd
    have hk := pp.2 (by omega) x (hx x (List.mem_cons_self)).1 (hx x (List.mem_cons_self)).2
    have e : akF f x = f := by
      unfold akF
      rw [if_neg]
      intro z
      have c1 := ((ca_r (pg := x) h7.1).resolve_right (fun z => by omega)).2
      have c2 := ((as_r (pg := x) h8).resolve_right (fun z => by omega)).2
      rcases hk with ⟨j, j0, j1, j2⟩ | ⟨j, j0, j1, j2⟩
      · exact c1 j j0 j1 j2
      · exact c2 j j0 j1 j2
    rw [e]
    exact ih f hP h8 h7 (fun y hy => hx y (List.mem_cons_of_mem _ hy)) hd hf
theorem so_dj {T fs f : Int → Int} {P N : Int} (ok : tOk T) (h : pvB T f N) (h0 : f 0 ≠ -4) (hd : dj P (f 7) (f 8) 0 0 f) : dj P (soF T fs f 7) (soF T fs f 8) 0 0 (soF T fs f) := by
  obtain ⟨ha, hp, h13, h14, h15, h16, h17, h7, h8, h4, h6⟩ := h
  unfold soF
  by_cases hc : caF f (pgF T fs f) = -4
  · rw [if_pos hc]
    have o := ou_c (f := up f 5 (wr (f 5 + 1))) (x := f 3) (by rw [up_n (by omega)]; omega)
    rw [o.2.2 7 (by omega) (by omega) (by omega), o.2.2 8 (by omega) (by omega) (by omega), up_n (by omega), up_n (by omega)]
    refine dj_c (fun x hx => ?_) hd
    unfold slt at hx
    rw [o.2.2 x (by omega) (by omega) (by omega), up_n (by omega)]
  · rw [if_neg hc]
    have cr := (ca_r (pg := pgF T fs f) h7.1).resolve_left (fun z => hc z.1)
    have us := us_c (pg := pgF T fs f) (k := caF f (pgF T fs f)) (f := f) (by omega)
    have ud := us_dj (k := caF f (pgF T fs f)) (by omega) hd
    rw [cr.2.2] at ud
    try dsimp only
    generalize inF (pgF T fs f) (lvs (caF f (pgF T fs f)) f) = g at us ud ⊢
    have o := ou_c (f := g) (x := lvF T g) (by rw [us 4 (by omega)]; omega)
    generalize ouF (lvF T g) g = e at o ⊢
    have oe : ∀ c, c ≠ 3 → c ≠ 4 → (c < 42 ∨ (48 ≤ c ∧ c < 112) ∨ 312 ≤ c) → e c = f c := fun c a1 a2 a3 => (o.2.2 c a1 a2 (by omega)).trans (us c (by omega))
    have e0 := oe 0 (by omega) (by omega) (by omega)
    have e1 := oe 1 (by omega) (by omega) (by omega)
    have e6 := oe 6 (by omega) (by omega) (by omega)
    have e13 := oe 13 (by omega) (by omega) (by omega)
    have d := advF_eq (lg := 1) (f := e) ok (at_c e0 ha) (by rw [e0]; exact h0) (ph_c e0 e1 hp) (by omega) (by omega)
    obtain ⟨-, d2, d3, d4, d5⟩ := d
    rw [d5 7 (by omega), d5 8 (by omega), oe 7 (by omega) (by omega) (by omega), oe 8 (by omega) (by omega) (by omega)]
    refine dj_c (fun x hx => ?_) ud
    unfold slt at hx
    rw [d5 x (by omega), o.2.2 x (by omega) (by omega) (by omega)]
theorem pg_P {T fs pl f : Int → Int} {pm : Int} (ok : tOk T) (po : poolOk T fs pl pm) (ha : atOk T f) (h0 : f 0 ≠ -4) (hp : phOk T f) : 0 ≤ pgF T fs f ∧ pgF T fs f < (pm + 7) / 8 := by
  have a := at_seg ok ha h0
  have hl := hp.2.2 h0
  have hp1 := hp.1
  unfold lenAt at hl
  have z := po.2.2 _ a.1.1 a.1.2
  unfold pgF
  rw [td_ed hp1, td_ed (by omega)]
  omega
theorem sk_P {T fs pl : Int → Int} {pm : Int} (ok : tOk T) (po : poolOk T fs pl pm) : ∀ (n : Nat) (f : Int → Int), atOk T f → phOk T f → 1 ≤ f 13 ∧ f 13 ≤ 64 → 0 ≤ f 6 → ∀ x, x ∈ skF T fs n f → 0 ≤ x ∧ x < (pm + 7) / 8 := by
  intro n
  induction n with
  | zero => intro f _ _ _ _ x hx; cases hx
  | succ n ih =>
    intro f ha hp h13 h6 x hx
    unfold skF at hx
    by_cases h0 : f 0 = -4
    · rw [if_pos h0] at hx; cases hx
    · rw [if_neg h0] at hx
      have d := advF_eq (lg := 0) (f := f) ok ha h0 hp h13 h6
      rcases List.mem_cons.mp hx with e | e
      · rw [e]; exact pg_P ok po ha h0 hp
      · exact ih _ d.2.1 d.2.2.1 (by rw [d.2.2.2.2 13 (by omega)]; exact h13) (by omega) x e
