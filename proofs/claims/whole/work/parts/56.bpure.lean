/-! ===== a program built item by item ===== -/
def agr (D D' : Int → Int) (n : Int) : Prop := ∀ i, i < n → kd D' i = kd D i ∧ nb D' i = nb D i ∧ pt D' i = pt D i
def pw (m : Nat) : Int := if m = 0 then 6561 else if m = 1 then 729 else if m = 2 then 81 else if m = 3 then 9 else 1
def plf (D su : Int → Int) (o x : Int) : Prop := (∃ p, o < p ∧ p < x ∧ kd D p = 0 ∧ ∀ q, o < q → q < p → kd D q = 1 ∨ kd D q = 2 ∨ kd D q = 3) ∨ (su x = 0 ∧ ∀ q, o < q → q < x → kd D q = 1)
def lvl (D su : Int → Int) : List Int → Int → Prop
  | [], x => 0 ≤ x ∧ RC D 0 x ∧ (su x = 2147483647 ∨ (0 ≤ su x ∧ su x ≤ 16 * x * 6561))
  | o :: st, x => 0 ≤ o ∧ o < x ∧ (kd D o = 2 ∨ kd D o = 3) ∧ pt D o = -4 ∧ RC D (o + 1) x ∧ (su x = 2147483647 ∨ (0 ≤ su x ∧ su x ≤ 16 * (x - o - 1) * pw (st.length + 1))) ∧ plf D su o x ∧ lvl D su st o
def clO (D su : Int → Int) (i : Int) : Prop := i < pt D i ∧ pt D i < D 1 ∧ kd D (pt D i) = 4 ∧ pt D (pt D i) = i ∧ RC D (i + 1) (pt D i) ∧ 0 < su (pt D i)
def enO (D : Int → Int) (i : Int) : Prop := 0 ≤ pt D i ∧ pt D i < i ∧ (kd D (pt D i) = 2 ∨ kd D (pt D i) = 3) ∧ pt D (pt D i) = i ∧ ∃ p, pt D i < p ∧ p < i ∧ kd D p = 0 ∧ ∀ q, pt D i < q → q < p → kd D q = 1 ∨ kd D q = 2 ∨ kd D q = 3
def knO (D : Int → Int) (i : Int) : Prop := (0 ≤ kd D i ∧ kd D i ≤ 4) ∧ (kd D i = 0 → 0 ≤ nb D i ∧ nb D i < D 0) ∧ (kd D i = 1 → 0 ≤ nb D i ∧ nb D i ≤ 9) ∧ (kd D i = 2 → 1 ≤ nb D i ∧ nb D i ≤ 9) ∧ (kd D i = 3 → 0 ≤ nb D i ∧ nb D i ≤ 3)
def itO (D su : Int → Int) (st : List Int) : Prop := ∀ i, 0 ≤ i → i < D 1 → knO D i ∧ (kd D i = 2 ∨ kd D i = 3 → i ∈ st ∨ clO D su i) ∧ (kd D i = 4 → enO D i)
def nsO (D : Int → Int) (st : List Int) : Prop := ∀ l o, 0 ≤ l → l < o → o < D 1 → (kd D l = 2 ∨ kd D l = 3) → (kd D o = 2 ∨ kd D o = 3) → l ∉ st → pt D l < o ∨ (o ∉ st ∧ pt D o < pt D l)
def sgO (D : Int → Int) : Prop := (0 ≤ D 0 ∧ D 0 ≤ 8) ∧ (∀ s, 0 ≤ s → s < D 0 → 1 ≤ mn D s ∧ mn D s ≤ 16) ∧ (∀ s i, 0 ≤ s → s < D 0 → 0 ≤ i → i < mn D s → 0 ≤ lv D s i ∧ lv D s i ≤ 99)
def bdO (D su : Int → Int) : Prop := ∀ x, 0 ≤ x → x ≤ D 1 → su x = 2147483647 ∨ (0 ≤ su x ∧ su x ≤ 2519424)
def bOk (D su : Int → Int) (st : List Int) : Prop := sgO D ∧ (0 ≤ D 1 ∧ D 1 ≤ 24) ∧ st.length ≤ 4 ∧ itO D su st ∧ nsO D st ∧ suOk D su ∧ bdO D su ∧ lvl D su st (D 1)
def adI (D : Int → Int) (k v p d : Int) : Int → Int := up (up (up (up (up D (138 + 4 * D 1) k) (139 + 4 * D 1) v) (140 + 4 * D 1) p) (141 + 4 * D 1) d) 1 (D 1 + 1)
section A56
variable {D D' su su' : Int → Int} {st : List Int} {k v p q d n o x : Int}
theorem rc_c (h : agr D D' q) : ∀ (n : Nat) (p : Int), rc D n p q → rc D' n p q := by
  intro n
  induction n with
  | zero => exact fun p h => h
  | succ n ih =>
    intro p hp
    have a := h p hp.1
    have e : nxt D' p = nxt D p := by unfold nxt; rw [a.1, a.2.2]
    exact ⟨hp.1, by rw [a.1]; exact hp.2.1, by rw [e]; exact ih _ hp.2.2⟩
theorem RC_c (h : agr D D' q) (hr : RC D p q) : RC D' p q := by obtain ⟨n, hn⟩ := hr; exact ⟨n, rc_c h n p hn⟩
theorem rc_cx {a : Int} (h : ∀ j, a ≤ j → j < q → kd D' j = kd D j ∧ ((kd D j = 2 ∨ kd D j = 3) → pt D' j = pt D j ∧ j < pt D j)) : ∀ (n : Nat) (p : Int), a ≤ p → rc D n p q → rc D' n p q := by
  intro n
  induction n with
  | zero => exact fun p _ h => h
  | succ n ih =>
    intro p ha hp
    have z := h p ha hp.1
    have e : nxt D' p = nxt D p ∧ a ≤ nxt D p := by
      unfold nxt
      rw [z.1]
      by_cases c : kd D p = 2 ∨ kd D p = 3
      · rw [if_pos c, if_pos c]; have y := z.2 c; exact ⟨by rw [y.1], by omega⟩
      · rw [if_neg c, if_neg c]; exact ⟨rfl, by omega⟩
    exact ⟨hp.1, by rw [z.1]; exact hp.2.1, by rw [e.1]; exact ih _ e.2 hp.2.2⟩
theorem rc_add {r : Int} (hk : kd D q ≠ 4) (hr : nxt D q = r) (hq : q < r) : ∀ (n : Nat) (p : Int), rc D n p q → rc D (n + 1) p r := by
  intro n
  induction n with
  | zero => intro p h; rw [show p = q from h]; exact ⟨hq, hk, hr⟩
  | succ n ih => intro p h; exact ⟨by have := h.1; omega, h.2.1, ih _ h.2.2⟩
theorem RC_add {r : Int} (hk : kd D q ≠ 4) (hr : nxt D q = r) (hq : q < r) (h : RC D p q) : RC D p r := by obtain ⟨n, hn⟩ := h; exact ⟨n + 1, rc_add hk hr hq n p hn⟩
theorem agr_m (h : agr D D' n) (hm : q ≤ n) : agr D D' q := fun i hi => h i (by omega)
theorem plf_c (h : agr D D' x) (hs : su' x = su x) (hp : plf D su o x) : plf D' su' o x := by
  rcases hp with ⟨p, p1, p2, p3, p4⟩ | ⟨h1, h2⟩
  · exact Or.inl ⟨p, p1, p2, by rw [(h p p2).1]; exact p3, fun q q1 q2 => by rw [(h q (by omega)).1]; exact p4 q q1 q2⟩
  · exact Or.inr ⟨by rw [hs]; exact h1, fun q q1 q2 => by rw [(h q q2).1]; exact h2 q q1 q2⟩
theorem lvl_c : ∀ (st : List Int) (x : Int), agr D D' x → (∀ i, i ≤ x → su' i = su i) → lvl D su st x → lvl D' su' st x := by
  intro st
  induction st with
  | nil => intro x h hs hl; exact ⟨hl.1, RC_c h hl.2.1, by rw [hs x (by omega)]; exact hl.2.2⟩
  | cons o st ih =>
    intro x h hs hl
    obtain ⟨h1, h2, h3, h4, h5, h6, h7, h8⟩ := hl
    have a := h o h2
    exact ⟨h1, h2, by rw [a.1]; exact h3, by rw [a.2.2]; exact h4, RC_c h h5, by rw [hs x (by omega)]; exact h6, plf_c h (hs x (by omega)) h7, ih o (agr_m h (by omega)) (fun i hi => hs i (by omega)) h8⟩
theorem lvl_mem : ∀ (st : List Int) (x : Int), lvl D su st x → ∀ o, o ∈ st → 0 ≤ o ∧ o < x ∧ (kd D o = 2 ∨ kd D o = 3) ∧ pt D o = -4 := by
  intro st
  induction st with
  | nil => intro x h o ho; exact absurd ho (List.not_mem_nil)
  | cons p st ih =>
    intro x hl o ho
    obtain ⟨h1, h2, h3, h4, h5, h6, h7, h8⟩ := hl
    rcases List.mem_cons.mp ho with e | e
    · subst e; exact ⟨h1, h2, h3, h4⟩
    · have a := ih p h8 o e; exact ⟨a.1, by omega, a.2.2⟩
theorem lvl_b (h : lvl D su st x) (hx : x ≤ 24) : su x = 2147483647 ∨ (0 ≤ su x ∧ su x ≤ 2519424) := by
  cases st with
  | nil => rcases h.2.2 with z | z
           · exact Or.inl z
           · exact Or.inr ⟨z.1, by omega⟩
  | cons o st =>
    obtain ⟨h1, h2, _, _, _, h6, _⟩ := h
    rcases h6 with z | z
    · exact Or.inl z
    · refine Or.inr ⟨z.1, ?_⟩
      have e := z.2
      unfold pw at e
      split at e
      · omega
      · split at e
        · omega
        · split at e
          · omega
          · split at e <;> omega
theorem ad_c (hn : 0 ≤ D 1) : agr D (adI D k v p d) (D 1) ∧ adI D k v p d 1 = D 1 + 1 ∧ kd (adI D k v p d) (D 1) = k ∧ nb (adI D k v p d) (D 1) = v ∧ pt (adI D k v p d) (D 1) = p ∧ dp (adI D k v p d) (D 1) = d ∧ (∀ i, 0 ≤ i → i < D 1 → dp (adI D k v p d) i = dp D i) ∧ ∀ c, c < 138 → c ≠ 1 → adI D k v p d c = D c := by
  refine ⟨fun i hi => ⟨?_, ?_, ?_⟩, up_s, ?_, ?_, ?_, ?_, fun i i0 hi => ?_, fun c hc h1 => ?_⟩
  · unfold kd adI; rw [up_n (by omega), up_n (by omega), up_n (by omega), up_n (by omega), up_n (by omega)]
  · unfold nb adI; rw [up_n (by omega), up_n (by omega), up_n (by omega), up_n (by omega), up_n (by omega)]
  · unfold pt adI; rw [up_n (by omega), up_n (by omega), up_n (by omega), up_n (by omega), up_n (by omega)]
  · unfold kd adI; rw [up_n (by omega), up_n (by omega), up_n (by omega), up_n (by omega), up_s]
  · unfold nb adI; rw [up_n (by omega), up_n (by omega), up_n (by omega), up_s]
  · unfold pt adI; rw [up_n (by omega), up_n (by omega), up_s]
  · unfold dp adI; rw [up_n (by omega), up_s]
  · unfold dp adI; rw [up_n (by omega), up_n (by omega), up_n (by omega), up_n (by omega), up_n (by omega)]
  · unfold adI; rw [up_n h1, up_n (by omega), up_n (by omega), up_n (by omega), up_n (by omega)]
theorem sg_c (h : ∀ c, c < 138 → c ≠ 1 → 0 ≤ c → D' c = D c) (hs : sgO D) : sgO D' := by
  obtain ⟨h1, h2, h3⟩ := hs
  have e0 := h 0 (by omega) (by omega) (by omega)
  unfold sgO mn lv at *
  rw [e0]
  refine ⟨h1, fun s s0 s1 => by rw [h _ (by omega) (by omega) (by omega)]; exact h2 s s0 s1, fun s i s0 s1 i0 i1 => ?_⟩
  rw [h _ (by omega) (by omega) (by omega)] at i1
  have := h2 s s0 s1
  rw [h _ (by omega) (by omega) (by omega)]
  exact h3 s i s0 s1 i0 i1
theorem cl_c (h : agr D D' (D 1)) (hn : D 1 ≤ D' 1) (hs : ∀ i, i ≤ D 1 → su' i = su i) {i : Int} (hi : i < D 1) (hc : clO D su i) : clO D' su' i := by
  obtain ⟨h1, h2, h3, h4, h5, h6⟩ := hc
  unfold clO
  rw [(h i hi).2.2]
  exact ⟨h1, by omega, by rw [(h _ h2).1]; exact h3, by rw [(h _ h2).2.2]; exact h4, RC_c (agr_m h (by omega)) h5, by rw [hs _ (by omega)]; exact h6⟩
theorem en_c (h : agr D D' n) {i : Int} (hi : i < n) (hc : enO D i) : enO D' i := by
  obtain ⟨h1, h2, h3, h4, p, p1, p2, p3, p4⟩ := hc
  unfold enO
  rw [(h i hi).2.2]
  exact ⟨h1, h2, by rw [(h _ (by omega)).1]; exact h3, by rw [(h _ (by omega)).2.2]; exact h4, p, p1, p2, by rw [(h p (by omega)).1]; exact p3, fun q q1 q2 => by rw [(h q (by omega)).1]; exact p4 q q1 q2⟩
theorem kn_c (h : agr D D' n) (h0 : D' 0 = D 0) {i : Int} (hi : i < n) (hc : knO D i) : knO D' i := by
  unfold knO
  rw [(h i hi).1, (h i hi).2.1, h0]
  exact hc
theorem su_c (ok : itO D su st) (h : agr D D' (D 1)) (hn : D' 1 = D 1 + 1) (hm : ∀ s, 0 ≤ s → s < D 0 → mn D' s = mn D s) (hs : ∀ i, i ≤ D 1 → su' i = su i) (hu : suOk D su) (h0 : 0 ≤ D 1) (hz : (kd D' (D 1) = 0 → su' (D 1 + 1) = aE (su (D 1)) (mn D' (nb D' (D 1)))) ∧ (kd D' (D 1) = 1 → su' (D 1 + 1) = su (D 1)) ∧ (kd D' (D 1) = 2 ∨ kd D' (D 1) = 3 → su' (D 1 + 1) = 0) ∧ (kd D' (D 1) ≠ 4)) : suOk D' su' := by
  refine ⟨by rw [hs 0 (by omega)]; exact hu.1, fun i i0 i1 => ?_⟩
  by_cases e : i = D 1
  · subst e
    rw [hs (D 1) (by omega)]
    exact ⟨hz.1, hz.2.1, hz.2.2.1, fun z => absurd z hz.2.2.2⟩
  · have a := h i (by omega)
    have w := hu.2 i i0 (by omega)
    have y := ok i i0 (by omega)
    rw [a.1, a.2.1, a.2.2, hs i (by omega), hs (i + 1) (by omega)]
    refine ⟨fun z => by rw [hm _ (y.1.2.1 z).1 (y.1.2.1 z).2]; exact w.1 z, w.2.1, w.2.2.1, fun z => ?_⟩
    have en := y.2.2 z
    have p1 := en.2.1
    have b := h (pt D i) (by omega)
    rw [hs _ (by omega)]
    unfold mE
    rw [b.1, b.2.1]
    exact w.2.2.2 z
theorem ns_c (h : agr D D' (D 1)) (hn : D' 1 = D 1 + 1) (hk : kd D' (D 1) ≠ 4) (hns : nsO D st) (hit : itO D su st) : (∀ l, 0 ≤ l → l < D 1 → (kd D l = 2 ∨ kd D l = 3) → l ∉ st → pt D l < D 1) := fun l l0 l1 lk ls => by
  rcases (hit l l0 l1).2.1 lk with z | z
  · exact absurd z ls
  · exact z.2.1
theorem b_simple (hb : bOk D su st) (hn : D 1 < 24) (hk : (k = 0 ∧ 0 ≤ v ∧ v < D 0) ∨ (k = 1 ∧ 0 ≤ v ∧ v ≤ 9)) : bOk (adI D k v (-4) d) (up su (D 1 + 1) (if k = 0 then aE (su (D 1)) (mn D v) else su (D 1))) st := by
  obtain ⟨hsg, hD, hst, hit, hns, hsu, hbd, hlv⟩ := hb
  obtain ⟨c1, c2, c3, c4, c5, c6, c7, c8⟩ := ad_c (D := D) (k := k) (v := v) (p := -4) (d := d) hD.1
  generalize hE : adI D k v (-4) d = E at *
  have hs : ∀ i, i ≤ D 1 → up su (D 1 + 1) (if k = 0 then aE (su (D 1)) (mn D v) else su (D 1)) i = su i := fun i hi => up_n (by omega)
  have hs1 : up su (D 1 + 1) (if k = 0 then aE (su (D 1)) (mn D v) else su (D 1)) (D 1 + 1) = (if k = 0 then aE (su (D 1)) (mn D v) else su (D 1)) := up_s
  generalize up su (D 1 + 1) (if k = 0 then aE (su (D 1)) (mn D v) else su (D 1)) = tu at *
  have hm : ∀ s, 0 ≤ s → s < D 0 → mn E s = mn D s := fun s s0 s1 => by have := hsg.1; unfold mn; rw [c8 _ (by omega) (by omega)]
  have e0 : E 0 = D 0 := c8 0 (by omega) (by omega)
  have mnv : k = 0 → 1 ≤ mn D v ∧ mn D v ≤ 16 := fun z => by rcases hk with w | w; exact hsg.2.1 v w.2.1 w.2.2; omega
  have hlv' : lvl E tu st (D 1 + 1) := by
    have nx1 : nxt E (D 1) = D 1 + 1 := by unfold nxt; rw [c3, if_neg (by omega)]
    have bnd : ∀ B : Int, (su (D 1) = 2147483647 ∨ (0 ≤ su (D 1) ∧ su (D 1) ≤ B)) → tu (D 1 + 1) = 2147483647 ∨ (0 ≤ tu (D 1 + 1) ∧ tu (D 1 + 1) ≤ B + 16) := fun B hB => by
      rw [hs1]
      by_cases e : k = 0
      · rw [if_pos e]
        have := mnv e
        unfold aE
        split
        · exact Or.inl rfl
        · rcases hB with z | z
          · omega
          · exact Or.inr ⟨by omega, by omega⟩
      · rw [if_neg e]; rcases hB with z | z
        · exact Or.inl z
        · exact Or.inr ⟨by omega, by omega⟩
    cases st with
    | nil =>
      refine ⟨by omega, RC_add (by rw [c3]; omega) nx1 (by omega) (RC_c c1 hlv.2.1), ?_⟩
      rcases bnd _ hlv.2.2 with z | z
      · exact Or.inl z
      · exact Or.inr ⟨z.1, by omega⟩
    | cons o st =>
      obtain ⟨h1, h2, h3, h4, h5, h6, h7, h8⟩ := hlv
      have a := c1 o h2
      refine ⟨h1, by omega, by rw [a.1]; exact h3, by rw [a.2.2]; exact h4, RC_add (by rw [c3]; omega) nx1 (by omega) (RC_c c1 h5), ?_, ?_, lvl_c st o (agr_m c1 (by omega)) (fun i hi => hs i (by omega)) h8⟩
      · rcases bnd _ h6 with z | z
        · exact Or.inl z
        · refine Or.inr ⟨z.1, ?_⟩
          have e := z.2
          have p1 : 1 ≤ pw (st.length + 1) := by
            unfold pw
            split
            · omega
            · split
              · omega
              · split
                · omega
                · split <;> omega
          have p2 : 16 * (D 1 + 1 - o - 1) * pw (st.length + 1) = 16 * (D 1 - o - 1) * pw (st.length + 1) + 16 * pw (st.length + 1) := by
            rw [← Int.add_mul]; congr 1; omega
          omega
      · rcases h7 with ⟨p, p1, p2, p3, p4⟩ | ⟨z1, z2⟩
        · exact Or.inl ⟨p, p1, by omega, by rw [(c1 p p2).1]; exact p3, fun q q1 q2 => by rw [(c1 q (by omega)).1]; exact p4 q q1 q2⟩
        · rcases hk with w | w
          · exact Or.inl ⟨D 1, h2, by omega, by rw [c3]; exact w.1, fun q q1 q2 => Or.inl (by rw [(c1 q q2).1]; exact z2 q q1 q2)⟩
          · refine Or.inr ⟨by rw [hs1, if_neg (by omega)]; exact z1, fun q q1 q2 => ?_⟩
            by_cases e : q = D 1
            · rw [e, c3]; exact w.1
            · rw [(c1 q (by omega)).1]; exact z2 q q1 (by omega)
  refine ⟨sg_c (fun c h1 h2 _ => c8 c h1 h2) hsg, by omega, hst, fun i i0 i1 => ?_, fun l o l0 l1 o1 lk ok ls => ?_, ?_, fun x x0 x1 => ?_, by rw [c2]; exact hlv'⟩
  · by_cases e : i = D 1
    · subst e
      refine ⟨?_, fun z => by rw [c3] at z; omega, fun z => by rw [c3] at z; omega⟩
      unfold knO
      rw [c3, c4, e0]
      exact ⟨by omega, fun z => by omega, fun z => by omega, fun z => by omega, fun z => by omega⟩
    · have y := hit i i0 (by omega)
      refine ⟨kn_c c1 e0 (by omega) y.1, fun z => ?_, fun z => en_c c1 (by omega) (y.2.2 (by rw [← (c1 i (by omega)).1]; exact z))⟩
      rw [(c1 i (by omega)).1] at z
      rcases y.2.1 z with w | w
      · exact Or.inl w
      · exact Or.inr (cl_c c1 (by omega) hs (by omega) w)
  · have o2 : o < D 1 := by
      by_cases e : o = D 1
      · rw [e, c3] at ok; omega
      · omega
    rw [(c1 l (by omega)).1] at lk
    rw [(c1 o o2).1] at ok
    rw [(c1 l (by omega)).2.2, (c1 o o2).2.2]
    exact hns l o l0 l1 o2 lk ok ls
  · refine su_c hit c1 c2 hm hs hsu hD.1 ⟨fun z => ?_, fun z => ?_, fun z => ?_, by rw [c3]; omega⟩
    · rw [c3] at z
      rw [hs1, if_pos z, c4, hm v (by omega) (by omega)]
    · rw [c3] at z
      rw [hs1, if_neg (by omega)]
    · rw [c3] at z; omega
  · by_cases e : x = D 1 + 1
    · rw [e]; exact lvl_b hlv' (by omega)
    · rw [hs x (by omega)]; exact hbd x x0 (by omega)
theorem b_begin (hb : bOk D su st) (hn : D 1 < 24) (hl : st.length < 4) (hk : (k = 2 ∧ 1 ≤ v ∧ v ≤ 9) ∨ (k = 3 ∧ 0 ≤ v ∧ v ≤ 3)) : bOk (adI D k v (-4) d) (up su (D 1 + 1) 0) (D 1 :: st) := by
  obtain ⟨hsg, hD, hst, hit, hns, hsu, hbd, hlv⟩ := hb
  obtain ⟨c1, c2, c3, c4, c5, c6, c7, c8⟩ := ad_c (D := D) (k := k) (v := v) (p := -4) (d := d) hD.1
  generalize hE : adI D k v (-4) d = E at *
  have hs : ∀ i, i ≤ D 1 → up su (D 1 + 1) 0 i = su i := fun i hi => up_n (by omega)
  have hs1 : up su (D 1 + 1) 0 (D 1 + 1) = 0 := up_s
  generalize up su (D 1 + 1) 0 = tu at *
  have hm : ∀ s, 0 ≤ s → s < D 0 → mn E s = mn D s := fun s s0 s1 => by have := hsg.1; unfold mn; rw [c8 _ (by omega) (by omega)]
  have e0 : E 0 = D 0 := c8 0 (by omega) (by omega)
  have hlv' : lvl E tu (D 1 :: st) (D 1 + 1) := ⟨hD.1, by omega, by rw [c3]; omega, c5, ⟨0, rfl⟩, Or.inr ⟨by omega, by rw [hs1, show D 1 + 1 - D 1 - 1 = 0 by omega, Int.mul_zero, Int.zero_mul]; exact Int.le_refl _⟩, Or.inr ⟨hs1, fun q q1 q2 => by omega⟩, lvl_c st _ c1 hs hlv⟩
  refine ⟨sg_c (fun c h1 h2 _ => c8 c h1 h2) hsg, by omega, by rw [List.length_cons]; omega, fun i i0 i1 => ?_, fun l o l0 l1 o1 lk ok ls => ?_, ?_, fun x x0 x1 => ?_, by rw [c2]; exact hlv'⟩
  · by_cases e : i = D 1
    · subst e
      refine ⟨?_, fun z => Or.inl List.mem_cons_self, fun z => by rw [c3] at z; omega⟩
      unfold knO
      rw [c3, c4, e0]
      exact ⟨by omega, fun z => by omega, fun z => by omega, fun z => by omega, fun z => by omega⟩
    · have y := hit i i0 (by omega)
      refine ⟨kn_c c1 e0 (by omega) y.1, fun z => ?_, fun z => en_c c1 (by omega) (y.2.2 (by rw [← (c1 i (by omega)).1]; exact z))⟩
      rw [(c1 i (by omega)).1] at z
      rcases y.2.1 z with w | w
      · exact Or.inl (List.mem_cons_of_mem _ w)
      · exact Or.inr (cl_c c1 (by omega) hs (by omega) w)
  · rw [(c1 l (by omega)).1] at lk
    have ls' : l ∉ st := fun z => ls (List.mem_cons_of_mem _ z)
    rw [(c1 l (by omega)).2.2]
    by_cases e : o = D 1
    · left
      rw [e]
      rcases (hit l l0 (by omega)).2.1 lk with z | z
      · exact absurd z ls'
      · exact z.2.1
    · have o2 : o < D 1 := by omega
      rw [(c1 o o2).1] at ok
      rw [(c1 o o2).2.2]
      rcases hns l o l0 l1 o2 lk ok ls' with z | z
      · exact Or.inl z
      · refine Or.inr ⟨fun w => ?_, z.2⟩
        rcases List.mem_cons.mp w with w | w
        · exact e w
        · exact z.1 w
  · refine su_c hit c1 c2 hm hs hsu hD.1 ⟨fun z => ?_, fun z => ?_, fun z => hs1, by rw [c3]; omega⟩
    · rw [c3] at z; omega
    · rw [c3] at z; omega
  · by_cases e : x = D 1 + 1
    · rw [e]; exact lvl_b hlv' (by omega)
    · rw [hs x (by omega)]; exact hbd x x0 (by omega)
end A56
