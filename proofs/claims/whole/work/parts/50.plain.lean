/-! ===== what the program comes to when it is unfolded ===== -/
def sz (T su : Int → Int) (x : Int) : Int := if kd T x = 0 then mn T (nb T x) else if kd T x = 2 ∨ kd T x = 3 then mE T x (su (pt T x)) else 0
def wi (T su : Int → Int) (x m : Int) : Int := if su (pt T x) ≤ 0 then m else if su (pt T x) = 2147483647 then m else m % su (pt T x)
def unf (T su : Int → Int) : Nat → Int → Int → Int
  | 0, _, _ => -4
  | n + 1, x, m => if T 1 ≤ x then -4 else if m < sz T su x then (if kd T x = 0 then lv T (nb T x) m else unf T su n (x + 1) (wi T su x m)) else unf T su n (nxt T x) (m - sz T su x)
def resF (T : Int → Int) : Nat → (Int → Int) → Int
  | 0, f => if f 0 = -4 then -4 else lvF T f
  | n + 1, f => if f 0 = -4 then -4 else resF T n (advF T 0 f)
def plF (T : Int → Int) (x : Int) (f : Int → Int) (m : Nat) : Int := resF T m (setF T 0 x f)
def fOk (f : Int → Int) : Prop := f 1 = 0 ∧ (∀ j, 0 ≤ j → j < 4 → f (9 + j) = 0) ∧ f 13 = 16 ∧ f 14 = 0 ∧ 0 ≤ f 6
def uOk (T su : Int → Int) : Prop := suOk T su ∧ (∀ x, 0 ≤ x → x ≤ T 1 → su x = 2147483647 ∨ (0 ≤ su x ∧ su x ≤ 2519424)) ∧ ∀ o, 0 ≤ o → o < T 1 → (kd T o = 2 ∨ kd T o = 3) → 0 < su (pt T o)
section A50
variable {T su f f' : Int → Int} {x y m : Int}
theorem setF_go {lg : Int} (ok : tOk T) (h0 : 0 ≤ x) (h1 : x < T 1) (hk : kd T x ≠ 0) : setF T lg x f = setF T lg (nx T lg x f).1 (nx T lg x f).2 := by
  have p := nx_1 (lg := lg) (f := f) ok h0 h1
  obtain ⟨r, r1⟩ := stN_ok (lg := lg) ok x f h0
  have e := stN_go (T := T) (lg := lg) (n := 45) (i := x) (f := f) (by omega)
  rw [r1] at e
  have e2 := stN_mono (T := T) (lg := lg) 45 46 _ _ _ e.symm (by omega)
  unfold setF
  rw [r1, e2]
  rfl
theorem setF_st {lg : Int} (h : T 1 ≤ x ∨ kd T x = 0) : setF T lg x f = fi T (x, f) := by
  unfold setF
  rw [stN_stop h]
  rfl
theorem rc_le : ∀ (n : Nat) (p q : Int), rc T n p q → p ≤ q := by
  intro n
  cases n with
  | zero => intro p q h; exact Int.le_of_eq h
  | succ n => intro p q h; exact Int.le_of_lt h.1
theorem nxt_gt (ok : tOk T) (h0 : 0 ≤ x) (h1 : x < T 1) : x < nxt T x := by
  unfold nxt
  split
  · rename_i h
    have := ((ok.2.2.2.2 x h0 h1).2.2.2.2.2.1 h).1
    omega
  · omega
theorem sz_b (ok : tOk T) (hu : uOk T su) (h0 : 0 ≤ x) (h1 : x < T 1) : sz T su x = 2147483647 ∨ (0 ≤ sz T su x ∧ sz T su x ≤ 22674816) := by
  have o := ok.2.2.2.2 x h0 h1
  unfold sz
  by_cases k0 : kd T x = 0
  · rw [if_pos k0]
    have a := o.2.1 k0
    have := ok.2.2.1 _ a.1 a.2
    omega
  · rw [if_neg k0]
    by_cases k1 : kd T x = 2 ∨ kd T x = 3
    · rw [if_pos k1]
      have p := o.2.2.2.2.2.1 k1
      unfold mE
      by_cases k2 : kd T x = 3 ∨ su (pt T x) = 2147483647
      · rw [if_pos k2]; exact Or.inl rfl
      · rw [if_neg k2]
        have s := hu.2.1 (pt T x) (by omega) (by omega)
        have n := o.2.2.2.1 (by omega)
        right
        refine ⟨Int.mul_nonneg (by omega) (by omega), ?_⟩
        have := Int.mul_le_mul (a := nb T x) (c := 9) (b := su (pt T x)) (d := 2519424) (by omega) (by omega) (by omega) (by omega)
        omega
    · rw [if_neg k1]; omega
theorem su_nx (ok : tOk T) (hu : suOk T su) (h0 : 0 ≤ x) (h1 : x < T 1) (hk : kd T x ≠ 4) : su (nxt T x) = aE (su x) (sz T su x) := by
  have o := ok.2.2.2.2 x h0 h1
  have s := hu.2 x h0 h1
  unfold sz nxt
  by_cases k0 : kd T x = 0
  · rw [if_neg (by omega), if_pos k0]; exact s.1 k0
  · rw [if_neg k0]
    by_cases k1 : kd T x = 2 ∨ kd T x = 3
    · rw [if_pos k1, if_pos k1]
      have p := o.2.2.2.2.2.1 k1
      have s2 := (hu.2 (pt T x) (by omega) (by omega)).2.2.2 p.2.2.1
      rw [s2, p.2.2.2]
    · rw [if_neg k1, if_neg k1, s.2.1 (by have q := o.1; clear o s; omega)]
      unfold aE
      split
      · rename_i h; omega
      · omega
theorem su_E (ok : tOk T) (hu : suOk T su) : ∀ (n : Nat) (p q : Int), rc T n p q → 0 ≤ p → q ≤ T 1 → su p = 2147483647 → su q = 2147483647 := by
  intro n
  induction n with
  | zero => intro p q h _ _ e; rw [← show p = q from h]; exact e
  | succ n ih =>
    intro p q h p0 q1 e
    have g := nxt_gt ok p0 (by have := h.1; omega)
    refine ih _ _ h.2.2 (by omega) q1 ?_
    rw [su_nx ok hu p0 (by have := h.1; omega) h.2.1]
    unfold aE
    rw [if_pos (Or.inl e)]
theorem su_mono (ok : tOk T) (hu : uOk T su) : ∀ (n : Nat) (p q : Int), rc T n p q → 0 ≤ p → q ≤ T 1 → su q ≠ 2147483647 → su p ≤ su q := by
  intro n
  induction n with
  | zero => intro p q h _ _ e; rw [show p = q from h]; exact Int.le_refl _
  | succ n ih =>
    intro p q h p0 q1 e
    have p1 : p < T 1 := by have := h.1; omega
    have g := nxt_gt ok p0 p1
    have a := ih _ _ h.2.2 (by omega) q1 e
    have b := su_nx ok hu.1 p0 p1 h.2.1
    have c := sz_b ok hu p0 p1
    have d : su (nxt T p) ≠ 2147483647 := fun z => e (su_E ok hu.1 n _ _ h.2.2 (by omega) q1 z)
    unfold aE at b
    split at b
    · exact absurd b d
    · omega
/-! a PLAY -/
theorem pl_play (ok : tOk T) (x0 : 0 ≤ x) (x1 : x < T 1) (hk : kd T x = 0) : ∀ (m : Nat) (j : Int) (h : Int → Int), h 0 = x → h 1 = 16 * j → 0 ≤ j → j < mn T (nb T x) → (∀ i, 0 ≤ i → i < 4 → h (9 + i) = 0) → h 13 = 16 → h 14 = 0 → 0 ≤ h 6 → ((m : Int) + j < mn T (nb T x) ∧ resF T m h = lv T (nb T x) (m + j)) ∨ (mn T (nb T x) ≤ (m : Int) + j ∧ ∃ f' m', fOk f' ∧ (∀ o, 18 ≤ o → f' o = h o) ∧ ((m' : Nat) : Int) = m + j - mn T (nb T x) ∧ resF T m h = plF T (x + 1) f' m') := by
  have a := (ok.2.2.2.2 x x0 x1).2.1 hk
  have mm := ok.2.2.1 _ a.1 a.2
  intro m
  induction m with
  | zero =>
    intro j h e0 e1 j0 j1 la e13 e14 e6
    left
    refine ⟨by omega, ?_⟩
    show (if h 0 = -4 then -4 else lvF T h) = _
    rw [if_neg (by omega)]
    unfold lvF segAt
    dsimp only
    rw [e0, e1, td_ed (by omega), show 16 * j / 16 = j by omega, wr_id (by omega) (by omega), if_pos e14]
    rw [show ((0 : Nat) : Int) + j = j by omega]
  | succ m ih =>
    intro j h e0 e1 j0 j1 la e13 e14 e6
    have rs : resF T (m + 1) h = resF T m (advF T 0 h) := by
      show (if h 0 = -4 then -4 else resF T m (advF T 0 h)) = _
      rw [if_neg (by omega)]
    have ln : ∀ g : Int → Int, g 0 = x → lenAt T g = 16 * mn T (nb T x) := fun g hg => by unfold lenAt segAt; rw [hg]
    have u : ∀ c, c ≠ 1 → up h 1 (h 1 + h 13) c = h c := fun c hc => up_n hc
    have u1 : up h 1 (h 1 + h 13) 1 = 16 * (j + 1) := by rw [up_s, e1, e13]; omega
    rw [rs]
    by_cases hj : j + 1 < mn T (nb T x)
    · have ea : advF T 0 h = up h 1 (h 1 + h 13) := by
        unfold advF
        rw [advN_stop (Or.inr (by rw [u1, ln _ (by rw [u 0 (by omega)]; exact e0)]; omega))]
        rfl
      rw [ea]
      rcases ih (j + 1) (up h 1 (h 1 + h 13)) (by rw [u 0 (by omega)]; exact e0) u1 (by omega) hj (fun i i0 i1 => by rw [u _ (by omega)]; exact la i i0 i1) (by rw [u 13 (by omega)]; exact e13) (by rw [u 14 (by omega)]; exact e14) (by rw [u 6 (by omega)]; exact e6) with ⟨q1, q2⟩ | ⟨q1, f', m', q2, q3, q4, q5⟩
      · left
        refine ⟨by omega, ?_⟩
        rw [q2, show (m : Int) + (j + 1) = ((m + 1 : Nat) : Int) + j by omega]
      · right
        exact ⟨by omega, f', m', q2, fun o ho => by rw [q3 o ho, u o (by omega)], by omega, q5⟩
    · right
      have l1 := ln (up h 1 (h 1 + h 13)) (by rw [u 0 (by omega)]; exact e0)
      generalize hh : up (up h 1 (h 1 + h 13)) 1 (up h 1 (h 1 + h 13) 1 - lenAt T (up h 1 (h 1 + h 13))) = h2
      have h2c : ∀ c, c ≠ 1 → h2 c = h c := fun c hc => by rw [← hh, up_n hc, u c hc]
      have h21 : h2 1 = 0 := by rw [← hh, up_s, l1, u1]; omega
      have ea : advF T 0 h = setF T 0 (x + 1) h2 := by
        unfold advF
        have go := advN_go (T := T) (lg := 0) (n := 19) (f := up h 1 (h 1 + h 13)) (by rw [u 0 (by omega), u1, l1]; omega)
        rw [go, hh, u 0 (by omega), e0]
        have en := setF_end (lg := 0) (f := h2) (i := x + 1) ok (by omega) (by rw [h2c 6 (by omega)]; exact e6)
        rw [advN_stop]
        · rfl
        · rcases en.1 with z | z
          · exact Or.inl z.1
          · right
            rw [z.2.2.2, h21]
            have a2 := (ok.2.2.2.2 _ z.1 z.2.1).2.1 z.2.2.1
            have m2 := ok.2.2.1 _ a2.1 a2.2
            unfold lenAt segAt
            omega
      refine ⟨by omega, h2, m, ⟨h21, fun i i0 i1 => by rw [h2c _ (by omega)]; exact la i i0 i1, by rw [h2c 13 (by omega)]; exact e13, by rw [h2c 14 (by omega)]; exact e14, by rw [h2c 6 (by omega)]; exact e6⟩, fun o ho => h2c o (by omega), by omega, ?_⟩
      rw [ea]
      rfl
def sPost (T su : Int → Int) (f : Int → Int) (x y : Int) (m : Nat) (S : Int) : Prop := ((S = 2147483647 ∨ (m : Int) < S) ∧ ∀ K : Nat, T 1 - x ≤ K → plF T x f m = unf T su K x m) ∨ (S ≠ 2147483647 ∧ S ≤ m ∧ ∃ f' m', fOk f' ∧ (∀ o, o < x ∨ y ≤ o → 0 ≤ o → o < 24 → f' (18 + o) = f (18 + o)) ∧ ((m' : Nat) : Int) = m - S ∧ plF T x f m = plF T y f' m' ∧ ∀ K : Nat, T 1 - x ≤ K → ∃ K' : Nat, T 1 - y ≤ K' ∧ unf T su K x m = unf T su K' y m')
theorem unf_nx {K : Nat} {m : Int} (h1 : x < T 1) (hm : sz T su x ≤ m) : unf T su (K + 1) x m = unf T su K (nxt T x) (m - sz T su x) := by
  show (if T 1 ≤ x then -4 else if m < sz T su x then _ else _) = _
  rw [if_neg (by omega), if_neg (by omega)]
theorem unf_in {K : Nat} {m : Int} (h1 : x < T 1) (hm : m < sz T su x) (hk : kd T x ≠ 0) : unf T su (K + 1) x m = unf T su K (x + 1) (wi T su x m) := by
  show (if T 1 ≤ x then -4 else if m < sz T su x then _ else _) = _
  rw [if_neg (by omega), if_pos hm, if_neg hk]
theorem pl_item (ok : tOk T) (hu : uOk T su) (hb : ∀ o, 0 ≤ o → o < T 1 → (kd T o = 2 ∨ kd T o = 3) → RC T (o + 1) (pt T o)) (x0 : 0 ≤ x) (x1 : x < T 1) (hk : kd T x ≠ 4) (IH : (kd T x = 2 ∨ kd T x = 3) → ∀ (n : Nat), rc T n (x + 1) (pt T x) → ∀ f, fOk f → ∀ m : Nat, m ≤ 9999 → sPost T su f (x + 1) (pt T x) m (su (pt T x))) : ∀ f, fOk f → ∀ m : Nat, m ≤ 9999 → sPost T su f x (nxt T x) m (sz T su x) := by
  intro f hf m hm
  have o := ok.2.2.2.2 x x0 x1
  have g := nxt_gt ok x0 x1
  have szb := sz_b ok hu x0 x1
  obtain ⟨e1, la, e13, e14, e6⟩ := hf
  by_cases k0 : kd T x = 0
  · have a := o.2.1 k0
    have mm := ok.2.2.1 _ a.1 a.2
    have es : sz T su x = mn T (nb T x) := by unfold sz; rw [if_pos k0]
    have en : nxt T x = x + 1 := by unfold nxt; rw [if_neg (by omega)]
    have se : setF T 0 x f = up f 0 x := by
      rw [setF_st (Or.inr k0)]
      unfold fi
      rw [if_neg (by show ¬ T 1 ≤ x; omega)]
    have u : ∀ c, c ≠ 0 → up f 0 x c = f c := fun c hc => up_n hc
    have P := pl_play ok x0 x1 k0 m 0 (up f 0 x) up_s (by rw [u 1 (by omega), e1]; rfl) (by omega) (by omega) (fun i i0 i1 => by rw [u _ (by omega)]; exact la i i0 i1) (by rw [u 13 (by omega)]; exact e13) (by rw [u 14 (by omega)]; exact e14) (by rw [u 6 (by omega)]; exact e6)
    unfold sPost
    rw [es, en]
    rcases P with ⟨q1, q2⟩ | ⟨q1, f', m', q2, q3, q4, q5⟩
    · left
      refine ⟨Or.inr (by omega), fun K hK => ?_⟩
      cases K with
      | zero => omega
      | succ K =>
        show resF T m (setF T 0 x f) = (if T 1 ≤ x then -4 else if (m : Int) < sz T su x then (if kd T x = 0 then lv T (nb T x) m else unf T su K (x + 1) (wi T su x m)) else unf T su K (nxt T x) (m - sz T su x))
        rw [se, q2, if_neg (by omega), if_pos (by omega), if_pos k0, Int.add_zero]
    · right
      refine ⟨by omega, by omega, f', m', q2, fun o ho o0 o1 => by rw [q3 _ (by omega), u _ (by omega)], by omega, ?_, fun K hK => ?_⟩
      · unfold plF at q5 ⊢
        rw [se, q5]
      · cases K with
        | zero => omega
        | succ K =>
          refine ⟨K, by omega, ?_⟩
          rw [unf_nx x1 (by omega), en, es, q4, Int.add_zero]
  by_cases k1 : kd T x = 2 ∨ kd T x = 3
  · have p := o.2.2.2.2.2.1 k1
    have en : nxt T x = pt T x + 1 := by unfold nxt; rw [if_pos k1]
    have es : sz T su x = mE T x (su (pt T x)) := by unfold sz; rw [if_neg k0, if_pos k1]
    obtain ⟨n, rn⟩ := hb x x0 x1 k1
    have tp := hu.2.2 x x0 x1 k1
    have tb := hu.2.1 (pt T x) (by omega) (by omega)
    have o2 := ok.2.2.2.2 (pt T x) (by omega) p.2.1
    have B := IH k1 n rn
    
    have opn : ∃ g0, fOk g0 ∧ (∀ o, o ≠ x → 0 ≤ o → o < 24 → g0 (18 + o) = f (18 + o)) ∧ (kd T x = 2 → g0 (18 + x) = 0) ∧ plF T x f m = plF T (x + 1) g0 m := by
      have go := setF_go (lg := 0) (f := f) ok x0 x1 k0
      unfold nx at go
      rw [if_neg hk] at go
      dsimp only at go
      rw [if_neg (by omega)] at go
      by_cases k2 : kd T x = 2
      · rw [if_pos k2] at go
        refine ⟨up f (18 + x) 0, ⟨by rw [up_n (by omega)]; exact e1, fun j j0 j1 => by rw [up_n (by omega)]; exact la j j0 j1, by rw [up_n (by omega)]; exact e13, by rw [up_n (by omega)]; exact e14, by rw [up_n (by omega)]; exact e6⟩, fun o ho _ _ => up_n (by omega), fun _ => up_s, ?_⟩
        unfold plF
        rw [go]
      · rw [if_neg k2] at go
        refine ⟨f, ⟨e1, la, e13, e14, e6⟩, fun _ _ _ _ => rfl, fun z => absurd z k2, ?_⟩
        unfold plF
        rw [go]
    obtain ⟨g0, g1, g2, g3, g4⟩ := opn
    by_cases tE : su (pt T x) = 2147483647
    · -- endless within
      have ez : sz T su x = 2147483647 := by rw [es]; unfold mE; rw [if_pos (Or.inr tE)]
      left
      refine ⟨Or.inl ez, fun K hK => ?_⟩
      cases K with
      | zero => omega
      | succ K =>
        rw [unf_in x1 (by omega) k0]
        have w : wi T su x m = m := by unfold wi; rw [if_neg (by omega), if_pos tE]
        rw [w, g4]
        rcases B g0 g1 m hm with ⟨_, q⟩ | ⟨q, _⟩
        · exact q K (by omega)
        · exact absurd tE q
    · obtain ⟨tn, htn⟩ : ∃ tn : Nat, (tn : Int) = su (pt T x) := ⟨(su (pt T x)).toNat, by omega⟩
      have wm : ∀ m : Nat, wi T su x m = ((m % tn : Nat) : Int) := fun m => by
        unfold wi
        rw [if_neg (by omega), if_neg tE, ← htn]
        rfl
      by_cases k2 : kd T x = 2
      · have nbx := o.2.2.2.1 k2
        have ez : sz T su x = nb T x * su (pt T x) := by rw [es]; unfold mE; rw [if_neg (by omega)]
        have LL : ∀ (r : Nat) (c : Int), c + r = nb T x → 0 < r → 0 ≤ c → ∀ h, fOk h → h (18 + x) = c → ∀ m : Nat, m ≤ 9999 → ((m : Int) < r * su (pt T x) ∧ ∀ K : Nat, T 1 - (x + 1) ≤ K → plF T (x + 1) h m = unf T su K (x + 1) ((m % tn : Nat) : Int)) ∨ ((r : Int) * su (pt T x) ≤ m ∧ ∃ f' m', fOk f' ∧ (∀ o, o < x ∨ pt T x + 1 ≤ o → 0 ≤ o → o < 24 → f' (18 + o) = h (18 + o)) ∧ ((m' : Nat) : Int) = m - r * su (pt T x) ∧ plF T (x + 1) h m = plF T (pt T x + 1) f' m') := by
          intro r
          induction r with
          | zero => intro c _ h; omega
          | succ r ih =>
            intro c hc _ c0 h hh hcx m hm
            have er : ((r + 1 : Nat) : Int) * su (pt T x) = r * su (pt T x) + su (pt T x) := by rw [show ((r + 1 : Nat) : Int) = (r : Int) + 1 by omega, Int.add_mul, Int.one_mul]
            have r0 : 0 ≤ (r : Int) * su (pt T x) := Int.mul_nonneg (by omega) (by omega)
            rw [er]
            rcases B h hh m hm with ⟨q1, q2⟩ | ⟨q1, q2, f1, m1, q3, q4, q5, q6, _⟩
            · left
              have lt : m < tn := by omega
              refine ⟨by omega, fun K hK => ?_⟩
              rw [Nat.mod_eq_of_lt lt]
              exact q2 K hK
            · have ge : tn ≤ m := by omega
              have em : m1 = m - tn := by omega
              have md : m % tn = m1 % tn := by rw [em]; exact Nat.mod_eq_sub_mod ge
              obtain ⟨a1, a2, a3, a4, a5⟩ := q3
              have f1x : f1 (18 + x) = c := by rw [q4 x (by omega) x0 (by have := ok.2.1; omega)]; exact hcx
              have go := setF_go (lg := 0) (f := f1) ok (by omega) p.2.1 (by omega)
              unfold nx at go
              rw [if_pos p.2.2.1] at go
              unfold bE at go
              rw [p.2.2.2, if_pos k2, f1x, wr_id (by omega) (by omega)] at go
              dsimp only at go
              have f2ok : fOk (up f1 (18 + x) (c + 1)) := ⟨by rw [up_n (by omega)]; exact a1, fun j j0 j1 => by rw [up_n (by omega)]; exact a2 j j0 j1, by rw [up_n (by omega)]; exact a3, by rw [up_n (by omega)]; exact a4, by rw [up_n (by omega)]; exact a5⟩
              by_cases hr : r = 0
              · subst hr
                right
                rw [if_neg (by omega)] at go
                refine ⟨by omega, up f1 (18 + x) (c + 1), m1, f2ok, fun o ho o0 o1 => by rw [up_n (by omega), q4 o (by omega) o0 o1], by omega, ?_⟩
                rw [q6]
                unfold plF
                rw [go]
              · rw [if_pos (by omega)] at go
                have st : plF T (pt T x) f1 m1 = plF T (x + 1) (up f1 (18 + x) (c + 1)) m1 := by unfold plF; rw [go]
                rw [q6, st]
                rcases ih (c + 1) (by omega) (by omega) (by omega) _ f2ok up_s m1 (by omega) with ⟨w1, w2⟩ | ⟨w1, f', m', w2, w3, w4, w5⟩
                · left
                  exact ⟨by omega, fun K hK => by rw [md]; exact w2 K hK⟩
                · right
                  exact ⟨by omega, f', m', w2, fun o ho o0 o1 => by rw [w3 o ho o0 o1, up_n (by omega), q4 o (by omega) o0 o1], by omega, w5⟩
        have L := LL (nb T x).toNat 0 (by omega) (by omega) (by omega) g0 g1 (g3 k2) m hm
        rw [show (((nb T x).toNat : Nat) : Int) = nb T x by omega, ← ez] at L
        unfold sPost
        rw [en]
        rcases L with ⟨w1, w2⟩ | ⟨w1, f', m', w2, w3, w4, w5⟩
        · left
          refine ⟨Or.inr w1, fun K hK => ?_⟩
          cases K with
          | zero => omega
          | succ K =>
            rw [unf_in x1 w1 k0, wm, g4]
            exact w2 K (by omega)
        · right
          have nE : sz T su x ≠ 2147483647 := by omega
          refine ⟨nE, w1, f', m', w2, fun o ho o0 o1 => by rw [w3 o (by omega) o0 o1, g2 o (by omega) o0 o1], w4, by rw [g4, w5], fun K hK => ?_⟩
          cases K with
          | zero => omega
          | succ K => exact ⟨K, by omega, by rw [unf_nx x1 w1, en, w4]⟩
      · have k3 : kd T x = 3 := k1.elim (fun z => absurd z k2) id
        have nbx := o.2.2.2.2.1 k3
        have ez : sz T su x = 2147483647 := by rw [es]; unfold mE; rw [if_pos (Or.inl k3)]
        have UL : ∀ (M : Nat) (m : Nat), m ≤ M → ∀ h, fOk h → m ≤ 9999 → ∀ K : Nat, T 1 - (x + 1) ≤ K → plF T (x + 1) h m = unf T su K (x + 1) ((m % tn : Nat) : Int) := by
          intro M
          induction M with
          | zero =>
            intro m hM h hh hm K hK
            rcases B h hh m hm with ⟨q1, q2⟩ | ⟨q1, q2, _⟩
            · rw [Nat.mod_eq_of_lt (by omega)]; exact q2 K hK
            · omega
          | succ M ih =>
            intro m hM h hh hm K hK
            rcases B h hh m hm with ⟨q1, q2⟩ | ⟨q1, q2, f1, m1, q3, q4, q5, q6, _⟩
            · rw [Nat.mod_eq_of_lt (by omega)]; exact q2 K hK
            · have ge : tn ≤ m := by omega
              have em : m1 = m - tn := by omega
              have md : m % tn = m1 % tn := by rw [em]; exact Nat.mod_eq_sub_mod ge
              obtain ⟨a1, a2, a3, a4, a5⟩ := q3
              have go := setF_go (lg := 0) (f := f1) ok (by omega) p.2.1 (by omega)
              unfold nx at go
              rw [if_pos p.2.2.1] at go
              unfold bE at go
              rw [p.2.2.2, if_neg k2, a2 _ nbx.1 (by omega)] at go
              dsimp only at go
              rw [if_neg (by decide)] at go
              have f2ok : fOk (up f1 (9 + nb T x) 0) := ⟨by rw [up_n (by omega)]; exact a1, fun j j0 j1 => by
                by_cases hj : j = nb T x
                · rw [up_e (by omega)]
                · rw [up_n (by omega)]; exact a2 j j0 j1, by rw [up_n (by omega)]; exact a3, by rw [up_n (by omega)]; exact a4, by rw [up_n (by omega)]; exact a5⟩
              have st : plF T (pt T x) f1 m1 = plF T (x + 1) (up f1 (9 + nb T x) 0) m1 := by unfold plF; rw [go]
              rw [q6, st, md]
              exact ih m1 (by omega) _ f2ok (by omega) K hK
        left
        refine ⟨Or.inl ez, fun K hK => ?_⟩
        cases K with
        | zero => omega
        | succ K =>
          rw [unf_in x1 (by omega) k0, wm, g4]
          exact UL m m (by omega) g0 g1 hm K (by omega)
  · have km : kd T x = 1 := by have q := o.1; clear o; omega
    have en : nxt T x = x + 1 := by unfold nxt; rw [if_neg k1]
    have es : sz T su x = 0 := by unfold sz; rw [if_neg k0, if_neg k1]
    have go := setF_go (lg := 0) (f := f) ok x0 x1 k0
    unfold nx at go
    rw [if_neg hk] at go
    dsimp only at go
    rw [if_pos km] at go
    have mk : mkF 0 (nb T x) f = f := by unfold mkF; rw [if_pos rfl]
    rw [mk] at go
    right
    refine ⟨by omega, by omega, f, m, ⟨e1, la, e13, e14, e6⟩, fun _ _ _ _ => rfl, by omega, ?_, fun K hK => ?_⟩
    · unfold plF
      rw [go, en]
    · cases K with
      | zero => omega
      | succ K => exact ⟨K, by omega, by rw [unf_nx x1 (by omega), es, Int.sub_zero]⟩
theorem pl_main (ok : tOk T) (hu : uOk T su) (hb : ∀ o, 0 ≤ o → o < T 1 → (kd T o = 2 ∨ kd T o = 3) → RC T (o + 1) (pt T o)) : ∀ (L : Nat) (n : Nat) (x y : Int), rc T n x y → y - x ≤ L → 0 ≤ x → y ≤ T 1 → su x ≠ 2147483647 → ∀ f, fOk f → ∀ m : Nat, m ≤ 9999 → sPost T su f x y m (if su y = 2147483647 then 2147483647 else su y - su x) := by
  intro L
  induction L with
  | zero =>
    intro n x y hr hL x0 y1 sx f hf m hm
    cases n with
    | zero =>
      have e : x = y := hr
      subst e
      rw [if_neg sx]
      right
      exact ⟨by omega, by omega, f, m, hf, fun _ _ _ _ => rfl, by omega, rfl, fun K hK => ⟨K, hK, rfl⟩⟩
    | succ n => have := hr.1; omega
  | succ L IH =>
    intro n
    induction n with
    | zero =>
      intro x y hr hL x0 y1 sx f hf m hm
      have e : x = y := hr
      subst e
      rw [if_neg sx]
      right
      exact ⟨by omega, by omega, f, m, hf, fun _ _ _ _ => rfl, by omega, rfl, fun K hK => ⟨K, hK, rfl⟩⟩
    | succ n ih =>
      intro x y hr hL x0 y1 sx f hf m hm
      obtain ⟨r1, r2, r3⟩ := hr
      have x1 : x < T 1 := by omega
      have g := nxt_gt ok x0 x1
      have ny := rc_le n _ _ r3
      have it := pl_item ok hu hb x0 x1 r2 (fun ko n' rn' f' hf' m' hm' => by
        have p := (ok.2.2.2.2 x x0 x1).2.2.2.2.2.1 ko
        have en : nxt T x = pt T x + 1 := by unfold nxt; rw [if_pos ko]
        have s0 : su (x + 1) = 0 := (hu.1.2 x x0 x1).2.2.1 ko
        have a := IH n' (x + 1) (pt T x) rn' (by omega) (by omega) (by omega) (by rw [s0]; decide) f' hf' m' hm'
        rw [s0, Int.sub_zero] at a
        have e : (if su (pt T x) = 2147483647 then 2147483647 else su (pt T x)) = su (pt T x) := by
          split
          · rename_i z; rw [z]
          · rfl
        rw [e] at a
        exact a) f hf m hm
      have sn := su_nx ok hu.1 x0 x1 r2
      have szb := sz_b ok hu x0 x1
      have sxb := hu.2.1 x x0 (by omega)
      have syb := hu.2.1 y (by omega) y1
      rcases it with ⟨q1, q2⟩ | ⟨q1, q2, f1, m1, q3, q4, q5, q6, q7⟩
      · left
        refine ⟨?_, q2⟩
        by_cases hy : su y = 2147483647
        · rw [if_pos hy]; exact Or.inl rfl
        · rw [if_neg hy]
          right
          have nE : su (nxt T x) ≠ 2147483647 := fun z => hy (su_E ok hu.1 n _ _ r3 (by omega) y1 z)
          have mo := su_mono ok hu n _ _ r3 (by omega) y1 hy
          unfold aE at sn
          split at sn
          · exact absurd sn nE
          · rename_i z; omega
      · have sn' : su (nxt T x) = su x + sz T su x := by
          rw [sn]; unfold aE; rw [if_neg (by omega)]
        have nE : su (nxt T x) ≠ 2147483647 := by omega
        have A := ih (nxt T x) y r3 (by omega) (by omega) y1 nE f1 q3 m1 (by omega)
        by_cases hy : su y = 2147483647
        · rw [if_pos hy] at A ⊢
          rcases A with ⟨_, a2⟩ | ⟨a1, _⟩
          · left
            refine ⟨Or.inl rfl, fun K hK => ?_⟩
            cases K with
            | zero => omega
            | succ K =>
              rw [q6, unf_nx x1 q2, ← q5]
              exact a2 K (by omega)
          · exact absurd rfl a1
        · rw [if_neg hy] at A ⊢
          have mo := su_mono ok hu n _ _ r3 (by omega) y1 hy
          rcases A with ⟨a1, a2⟩ | ⟨a1, a2, f2, m2, a3, a4, a5, a6, a7⟩
          · left
            refine ⟨by omega, fun K hK => ?_⟩
            cases K with
            | zero => omega
            | succ K =>
              rw [q6, unf_nx x1 q2, ← q5]
              exact a2 K (by omega)
          · right
            refine ⟨by omega, by omega, f2, m2, a3, fun o ho o0 o1 => by rw [a4 o (by omega) o0 o1, q4 o (by omega) o0 o1], by omega, by rw [q6, a6], fun K hK => ?_⟩
            obtain ⟨K1, k1, k2⟩ := q7 K hK
            obtain ⟨K2, k3, k4⟩ := a7 K1 k1
            exact ⟨K2, k3, by rw [k2, k4]⟩
theorem plain_eq (ok : tOk T) (hn : nOk T) (hu : uOk T su) (hf : fOk f) {m : Nat} (hm : m ≤ 9999) : plF T 0 f m = unf T su 24 0 m := by
  obtain ⟨n, rn⟩ := hn.1
  have t1 := ok.2.1
  have s0 := hu.1.1
  rcases pl_main ok hu hn.2.1 24 n 0 (T 1) rn (by omega) (by omega) (by omega) (by rw [s0]; decide) f hf m hm with ⟨_, a⟩ | ⟨_, _, f', m', a1, a2, a3, a4, a5⟩
  · exact a 24 (by omega)
  · obtain ⟨K, k1, k2⟩ := a5 24 (by omega)
    have e1 : plF T (T 1) f' m' = -4 := by
      unfold plF
      rw [setF_st (Or.inl (by omega))]
      unfold fi
      rw [if_pos (by show T 1 ≤ T 1; omega)]
      have z : up (up f' 0 (-4)) 1 0 0 = -4 := by rw [up_n (by omega), up_s]
      cases m' with
      | zero => show (if _ = -4 then _ else _) = _; rw [if_pos z]
      | succ m' => show (if _ = -4 then _ else _) = _; rw [if_pos z]
    have e2 : ∀ K : Nat, unf T su K (T 1) m' = -4 := fun K => by
      cases K with
      | zero => rfl
      | succ K => show (if T 1 ≤ T 1 then _ else _) = _; rw [if_pos (by omega)]
    rw [a4, e1, k2, e2]
end A50
section B50
variable {I : Nat → Int → Int} {b : Bool} {S : Nat} {N : Int} {J0 : Nat → Int → Int} {T fs pl su : Int → Int} {pm : Int} {g : Nat}
theorem c_lenOf {x : Int} (hg : isProg g) (ok : tOk T) (hu : uOk T su) (hp : pgm I g T fs pl pm) (ht : ∀ o, 0 ≤ o → o < T 1 → (kd T o = 2 ∨ kd T o = 3) → I (g + 10) o = su (pt T o)) (hx : 0 ≤ x ∧ x < T 1) (hk : kd T x = 2 ∨ kd T x = 3) : zrun 63 [vR g, vI x] (I, zRs b, 103, S) = some (some (vI (mE T x (su (pt T x)))), (I, zRs b, 103, S)) := by
  have t1 := ok.2.1
  have q := hp.2.1 x hx.1 hx.2
  have x24 : 0 ≤ x ∧ x < 24 := by omega
  have sb := sz_b ok hu hx.1 hx.2
  have es : sz T su x = mE T x (su (pt T x)) := by unfold sz; rw [if_neg (by omega), if_pos hk]
  rw [run63, e63_0 hg, if_pos x24, q.1, if_pos x24, if_pos x24, if_pos x24, ht x hx.1 hx.2 hk, q.2.1]
  rw [es] at sb
  unfold mE at sb ⊢
  by_cases h3 : kd T x = 3
  · rw [if_pos h3, if_pos (Or.inl h3)]
  · rw [if_neg h3]
    by_cases hE : su (pt T x) = 2147483647
    · rw [if_pos hE, if_pos (Or.inr hE)]
    · rw [if_neg hE, if_neg (by omega)]
      rw [if_neg (by omega)] at sb
      rw [wr_id (by omega) (by omega)]
theorem c_unfLen {x : Int} (hg : isProg g) (ok : tOk T) (hu : uOk T su) (hp : pgm I g T fs pl pm) (ht : ∀ o, 0 ≤ o → o < T 1 → (kd T o = 2 ∨ kd T o = 3) → I (g + 10) o = su (pt T o)) (hx : 0 ≤ x ∧ x < T 1) : zrun 65 [vR g, vI x] (I, zRs b, 103, S) = some (some (vI (sz T su x)), (I, zRs b, 103, S)) := by
  have t1 := ok.2.1
  have q := (hp.2.1 x hx.1 hx.2).1
  have kb := (ok.2.2.2.2 x hx.1 hx.2).1
  rw [run65, e65_0 hg, if_pos (by omega), q]
  unfold sz
  by_cases k0 : kd T x = 0
  · rw [if_pos k0, if_pos k0, c_segLen hg ok hp hx k0, Option.bind_some]
    simp only [zpush_s]
    rw [e65_41 hg]
  rw [if_neg k0, if_neg k0]
  by_cases k1 : kd T x = 1
  · rw [if_pos k1, if_neg (by omega)]
  rw [if_neg k1]
  by_cases k2 : kd T x = 2
  · rw [if_pos k2, if_pos (Or.inl k2), c_lenOf hg ok hu hp ht hx (Or.inl k2), Option.bind_some]
    simp only [zpush_s]
    rw [e65_47 hg]
  rw [if_neg k2]
  by_cases k3 : kd T x = 3
  · rw [if_pos k3, if_pos (Or.inr k3), c_lenOf hg ok hu hp ht hx (Or.inr k3), Option.bind_some]
    simp only [zpush_s]
    rw [e65_47 hg]
  · rw [if_neg k3, if_neg (by omega)]
theorem c_behind {x : Int} (hg : isProg g) (ok : tOk T) (hp : pgm I g T fs pl pm) (hx : 0 ≤ x ∧ x < T 1) : zrun 66 [vR g, vI x] (I, zRs b, 103, S) = some (some (vI (nxt T x)), (I, zRs b, 103, S)) := by
  have t1 := ok.2.1
  have q := hp.2.1 x hx.1 hx.2
  have x24 : 0 ≤ x ∧ x < 24 := by omega
  have pb := (ok.2.2.2.2 x hx.1 hx.2).2.2.2.2.2.1
  rw [run66, e66_0 hg, if_pos x24, if_pos x24, if_pos x24, q.1, q.2.2.1]
  unfold nxt
  by_cases k2 : kd T x = 2
  · have p := pb (Or.inl k2)
    rw [if_pos k2, if_pos (Or.inl k2), wr_id (by omega) (by omega)]
  · rw [if_neg k2]
    by_cases k3 : kd T x = 3
    · have p := pb (Or.inr k3)
      rw [if_pos k3, if_pos (Or.inr k3), wr_id (by omega) (by omega)]
    · rw [if_neg k3, if_neg (by omega), wr_id (by omega) (by omega)]
theorem c_within {x m : Int} (hg : isProg g) (ok : tOk T) (ht : ∀ o, 0 ≤ o → o < T 1 → (kd T o = 2 ∨ kd T o = 3) → I (g + 10) o = su (pt T o)) (hx : 0 ≤ x ∧ x < T 1) (hk : kd T x = 2 ∨ kd T x = 3) (hm : 0 ≤ m) : zrun 67 [vR g, vI x, vI m] (I, zRs b, 103, S) = some (some (vI (wi T su x m)), (I, zRs b, 103, S)) := by
  have t1 := ok.2.1
  rw [run67, e67_0 hg, if_pos (by omega), ht x hx.1 hx.2 hk]
  unfold wi
  by_cases h1 : su (pt T x) ≤ 0
  · rw [if_pos h1, if_pos h1]
  · rw [if_neg h1, if_neg h1]
    by_cases h2 : su (pt T x) = 2147483647
    · rw [if_pos h2, if_pos h2]
    · rw [if_neg h2, if_neg h2, if_neg (by omega), tm_em hm]
theorem c_unfL {a1 : Int} (hg : isProg g) (ok : tOk T) (po : poolOk T fs pl pm) (hu : uOk T su) (hp : pgm I g T fs pl pm) (ht : ∀ o, 0 ≤ o → o < T 1 → (kd T o = 2 ∨ kd T o = 3) → I (g + 10) o = su (pt T o)) : ∀ (n : Nat) (x m k : Int) (w5 : zV), k + n = 24 → 0 ≤ k → 0 ≤ x → 0 ≤ m → m ≤ 9999 → zX 64 7 [vR g, vI a1, vI m, vI x, vI k, w5] [] (I, zRs b, 103, S) = some (some (vI (unf T su n x m)), (I, zRs b, 103, S)) := by
  have t1 := ok.2.1
  intro n
  induction n with
  | zero => intro x m k w5 h0 h1 x0 m0 m1; rw [e64_7 hg, if_pos (by omega)]; rfl
  | succ n ih =>
    intro x m k w5 h0 h1 x0 m0 m1
    rw [e64_7 hg, if_neg (by omega), hp.1]
    show _ = some (some (vI (if T 1 ≤ x then -4 else if m < sz T su x then (if kd T x = 0 then lv T (nb T x) m else unf T su n (x + 1) (wi T su x m)) else unf T su n (nxt T x) (m - sz T su x))), _)
    by_cases hx : T 1 ≤ x
    · rw [if_pos hx, if_pos hx]
    · rw [if_neg hx, if_neg hx, c_unfLen hg ok hu hp ht ⟨x0, by omega⟩, Option.bind_some]
      simp only [zpush_s]
      have q := hp.2.1 x x0 (by omega)
      rw [e64_27 hg, if_pos (show 0 ≤ x ∧ x < 24 by omega), if_pos (show 0 ≤ x ∧ x < 24 by omega), q.1, q.2.1]
      by_cases hm : m < sz T su x
      · rw [if_pos hm, if_pos hm]
        by_cases k0 : kd T x = 0
        · have es : sz T su x = mn T (nb T x) := by unfold sz; rw [if_pos k0]
          have a := (ok.2.2.2.2 x x0 (by omega)).2.1 k0
          rw [if_pos k0, if_pos k0, c_levelOf hg ok po hp a ⟨m0, by omega⟩, Option.bind_some]
          simp only [zpush_s]
          rw [e64_72 hg]
        · have ko : kd T x = 2 ∨ kd T x = 3 := by
            by_cases z : kd T x = 2 ∨ kd T x = 3
            · exact z
            · unfold sz at hm; rw [if_neg k0, if_neg z] at hm; omega
          have wb : 0 ≤ wi T su x m ∧ wi T su x m ≤ m := by
            unfold wi
            split
            · omega
            · split
              · omega
              · rename_i z1 z2
                have e1 := Int.emod_nonneg m (b := su (pt T x)) (by omega)
                have e2 : m % su (pt T x) ≤ m := by
                  obtain ⟨a, ha⟩ : ∃ a : Nat, (a : Int) = m := ⟨m.toNat, by omega⟩
                  obtain ⟨c, hc⟩ : ∃ c : Nat, (c : Int) = su (pt T x) := ⟨(su (pt T x)).toNat, by omega⟩
                  rw [← ha, ← hc]
                  have := Nat.mod_le a c
                  show ((a % c : Nat) : Int) ≤ a
                  omega
                exact ⟨e1, e2⟩
          rw [if_neg k0, if_neg k0, c_within hg ok ht ⟨x0, by omega⟩ ko m0, Option.bind_some]
          simp only [zpush_s]
          rw [e64_79 hg, wr_id (a := x + 1) (by omega) (by omega), wr_id (a := k + 1) (by omega) (by omega), ih (x + 1) _ (k + 1) _ (by omega) (by omega) (by omega) wb.1 (by omega)]
      · have sb := sz_b ok hu x0 (by omega)
        have g := nxt_gt ok x0 (by omega)
        rw [if_neg hm, if_neg hm, c_behind hg ok hp ⟨x0, by omega⟩, Option.bind_some, wr_id (a := m - sz T su x) (by omega) (by omega)]
        simp only [zpush_s]
        rw [e64_45 hg, wr_id (a := k + 1) (by omega) (by omega), ih _ _ (k + 1) _ (by omega) (by omega) (by omega) (by omega) (by omega)]
theorem r_zrL {f : Int → Int} : ∀ (n : Nat) (a : Int), a = 392 - n → 0 ≤ a → zX 181 7 [vR 87, vI a] [] (sP I 99 (mix a (fun _ => 0) f), zRs b, 103, S) = zX 181 7 [vR 87, vI 392] [] (sP I 99 (mix 392 (fun _ => 0) f), zRs b, 103, S) := by
  intro n
  induction n with
  | zero => intro a e h0; rw [show a = 392 by omega]
  | succ n ih =>
    intro a e h0
    rw [e181_7, if_neg (by omega), if_pos (by omega), wr_id (by omega) (by omega), sIP, mix_up (g := fun _ => 0) h0]
    exact ih _ (by omega) (by omega)
theorem r_unfolds (ok : tOk (I 88)) (z3 : Z0 (I 93)) (z9 : Z0 (I 99)) : ∃ f0, fOk f0 ∧ Z0 f0 ∧ f0 6 = 0 ∧ zrun 181 [vR 87] (I, zRs b, 103, S) = some (none, (sP (sI I 87 21 0) 99 (setF (I 88) 0 0 f0), zRs b, 103, S)) := by
  generalize hf : up (mix 392 (fun _ => (0 : Int)) (I 93)) 13 16 = f0
  have fc : ∀ c, c ≠ 13 → f0 c = 0 := fun c hc => by
    rw [← hf, up_n hc]
    unfold mix
    split
    · rfl
    · rename_i h; exact z3 c h
  have e88 : sI I 87 21 0 88 = I 88 := by funext j; rw [sI_p (by decide)]
  refine ⟨f0, ⟨fc 1 (by omega), fun j j0 j1 => fc _ (by omega), by rw [← hf, up_s], fc 14 (by omega), by rw [fc 6 (by omega)]; decide⟩, fun c hc => fc c (by omega), fc 6 (by omega), ?_⟩
  have zl := r_zrL (I := sI I 87 21 0) (b := b) (S := S) (f := I 93) 392 0 (by omega) (by omega)
  rw [mix_0] at zl
  rw [run181, e181_0, r_goesOn (Or.inl rfl), Option.bind_some, mix_Z z9 z3]
  simp only [zpush_n]
  rw [e181_5, zl, e181_7, if_pos (by omega), sIP, hf, r_settles (by rw [e88]; exact ok) (by omega) (by rw [fc 6 (by omega)]; decide) (by rw [fc 6 (by omega)]; decide), Option.bind_some, e88, sI_s]
  simp only [zpush_n]
  rw [e181_41]
theorem r_plainL {a1 : Int} (ok : tOk (I 88)) (hl : I 87 21 = 0) : ∀ (n : Nat) (k : Int) (f : Int → Int), k + n = a1 → 0 ≤ k → a1 ≤ 9999 → atOk (I 88) f → phOk (I 88) f → f 13 = 16 → 0 ≤ f 6 → f 6 + 920 * n < 2147400000 → Z0 f → ∃ Z, Z0 Z ∧ zX 182 20 [vR 87, vI a1, vI k] [] (sP I 99 f, zRs b, 103, S) = some (some (vI (resF (I 88) n f)), (sP I 99 Z, zRs b, 103, S)) := by
  intro n
  induction n with
  | zero =>
    intro k f h0 h1 h2 ha hp e13 e6 b6 hz
    refine ⟨f, hz, ?_⟩
    rw [e182_20, if_pos (by omega), sP_s]
    show _ = some (some (vI (if f 0 = -4 then -4 else lvF (I 88) f)), _)
    by_cases h : f 0 = -4
    · rw [if_pos h, if_pos h, e182_66]
    · rw [if_neg h, if_neg h, r_levelNow ok ha h hp, Option.bind_some]
      simp only [zpush_s]
      rw [e182_66]
  | succ n ih =>
    intro k f h0 h1 h2 ha hp e13 e6 b6 hz
    show ∃ Z, Z0 Z ∧ _ = some (some (vI (if f 0 = -4 then -4 else resF (I 88) n (advF (I 88) 0 f))), _)
    by_cases h : f 0 = -4
    · refine ⟨f, hz, ?_⟩
      rw [e182_20, if_neg (by omega), sP_s, if_pos h, if_pos h, if_pos h, e182_66]
    · have av := advF_eq (lg := 0) ok ha h hp (by omega) e6
      obtain ⟨Z, z1, z2⟩ := ih (k + 1) (advF (I 88) 0 f) (by omega) (by omega) h2 av.2.1 av.2.2.1 (by rw [av.2.2.2.2 13 (by omega)]; exact e13) (by omega) (by omega) (fun c hc => by rw [av.2.2.2.2 c (by omega)]; exact hz c hc)
      refine ⟨Z, z1, ?_⟩
      rw [e182_20, if_neg (by omega), sP_s, if_neg h, if_neg h, r_steps ok ha h hp (by omega) e6 (by omega), Option.bind_some, hl]
      simp only [zpush_n]
      rw [e182_40, wr_id (by omega) (by omega), z2]
theorem op_plain {x : Int} (hI : Inv I b N J0) : opOk 100 182 [vI x] I b S N J0 := by
  obtain ⟨_, ⟨ok, po, hp, hc, hn, su, s1, s2, s3, s4, s5⟩, ⟨hR, hv, hz⟩, _, _, hm, _⟩ := id hI
  have hu : uOk (I 88) su := ⟨s1, s4, s5⟩
  have r0 : ∀ J, zrun 182 [vR 87, vI x] (J, zRs b, 103, S) = zX 182 9 [vR 87, vI x, none] [vI (if 0 ≤ x ∧ x ≤ 9999 then 1 else 0)] (J, zRs b, 103, S) := fun J => by
    rw [run182, e182_0, r_in, Option.bind_some]
    simp only [zpush_s]
  by_cases hx : 0 ≤ x ∧ x ≤ 9999
  · obtain ⟨f0, f1, f2, f6, f3⟩ := r_unfolds (I := I) (b := b) (S := S) ok hv.2.2.2 hz
    have pe := plain_eq ok hn hu f1 (m := x.toNat) (by omega)
    rw [show ((x.toNat : Nat) : Int) = x by omega] at pe
    have en := setF_end (lg := 0) (f := f0) (i := 0) ok (by omega) (by omega)
    have e88 : sI I 87 21 0 88 = I 88 := by funext j; rw [sI_p (by decide)]
    obtain ⟨Z, z1, z2⟩ := r_plainL (I := sI I 87 21 0) (b := b) (S := S) (a1 := x) (by rw [e88]; exact ok) sI_s x.toNat 0 (setF (I 88) 0 0 f0) (by omega) (by omega) hx.2 (by
        rw [e88]
        rcases en.1 with z | z
        · exact Or.inl z.1
        · exact Or.inr ⟨z.1, z.2.1, z.2.2.1⟩) (by
        rw [e88]
        rcases en.1 with z | z
        · exact ⟨by omega, fun _ => z.2, fun y => absurd z.1 y⟩
        · refine ⟨by rw [z.2.2.2, f1.1]; decide, fun y => by omega, fun y => ?_⟩
          have a2 := (ok.2.2.2.2 _ z.1 z.2.1).2.1 z.2.2.1
          have m2 := ok.2.2.1 _ a2.1 a2.2
          rw [z.2.2.2, f1.1]
          unfold lenAt segAt
          omega) (by rw [en.2.2 13 (by omega)]; exact f1.2.2.1) (by omega) (by omega) (fun c hc => by rw [en.2.2 c (by omega)]; exact f2 c hc)
    rw [e88] at z2
    refine ⟨unf (I 88) su 24 0 x, I, b, sP (sI I 87 21 0) 99 Z, ?_, ?_, ?_⟩
    · rw [run100, e100_0, if_neg (by omega), if_pos hx.2, run64, e64_0 (zg_ok b), c_unfL (zg_ok b) ok po hu hp s2 24 0 x 0 _ (by omega) (by omega) (by omega) hx.1 hx.2, Option.bind_some]
      simp only [zpush_s]
      rw [e100_21]
    · rw [r0, if_pos hx, e182_9, if_neg (by decide), f3, Option.bind_some]
      simp only [zpush_n]
      rw [e182_18, z2]
      have : resF (I 88) x.toNat (setF (I 88) 0 0 f0) = plF (I 88) 0 f0 x.toNat := rfl
      rw [this, pe]
    · have fr : ∀ q, q ≠ 87 → q ≠ 99 → sP (sI I 87 21 0) 99 Z q = I q := fun q q1 q2 => by rw [sP_n q2]; funext j; rw [sI_p q1]
      have z := pOk_78 hv
      refine Inv_play hI (by omega) (fun q hq => fr q (by omega) (by omega)) (fun j h1 _ _ => by rw [sP_n (by decide), sI_k h1]) (by rw [fr 1 (by decide) (by decide), sP_n (by decide), sI_k (by decide)]; exact hm.2.1) ⟨?_, ?_, by rw [sP_s]; exact z1⟩
      · rw [fr 93 (by decide) (by decide)]
        exact PR_c (fun q q1 q2 => fr q (by omega) (by omega)) (fun _ _ _ => rfl) z.1 z.2 hR
      · rw [fr 93 (by decide) (by decide), fr 88 (by decide) (by decide), sP_n (by decide), sI_k (by decide)]
        exact pOk_m hv (by omega)
  · refine op_ro (-1) hI ?_ ?_
    · rw [run100, e100_0]
      by_cases h : x < 0
      · rw [if_pos h]
      · rw [if_neg h, if_neg (by omega)]
    · rw [r0, if_neg hx, e182_9, if_pos rfl]
end B50
