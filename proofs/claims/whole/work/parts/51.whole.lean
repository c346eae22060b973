/-! ===== the whole length ===== -/
def prN (c : Int → Int) : Nat → Int
  | 0 => 1
  | n + 1 => prN c n * c n
def smN (c : Int → Int) : Nat → Int
  | 0 => 0
  | n + 1 => smN c n + c n
theorem prN_c {c d : Int → Int} : ∀ n : Nat, (∀ l : Nat, l < n → c l = d l) → prN c n = prN d n := by
  intro n
  induction n with
  | zero => intro _; rfl
  | succ n ih => intro h; show prN c n * c n = prN d n * d n; rw [ih (fun l hl => h l (by omega)), h n (by omega)]
theorem smN_c {c d : Int → Int} : ∀ n : Nat, (∀ l : Nat, l < n → c l = d l) → smN c n = smN d n := by
  intro n
  induction n with
  | zero => intro _; rfl
  | succ n ih => intro h; show smN c n + c n = smN d n + d n; rw [ih (fun l hl => h l (by omega)), h n (by omega)]
theorem prN_1 {c d : Int → Int} {o : Nat} (hd : d o = 1) : ∀ n : Nat, o < n → (∀ l : Nat, l < n → l ≠ o → c l = d l) → prN c n = c o * prN d n := by
  intro n
  induction n with
  | zero => intro h; omega
  | succ n ih =>
    intro h h1
    show prN c n * c n = c o * (prN d n * d n)
    by_cases e : n = o
    · subst e
      rw [prN_c n (fun l hl => h1 l (by omega) (by omega)), hd, Int.mul_one, Int.mul_comm]
    · rw [ih (by omega) (fun l hl h2 => h1 l (by omega) h2), h1 n (by omega) e, Int.mul_assoc]
theorem smN_1 {c d : Int → Int} {o : Nat} (hd : d o = 0) : ∀ n : Nat, o < n → (∀ l : Nat, l < n → l ≠ o → c l = d l) → smN c n = c o + smN d n := by
  intro n
  induction n with
  | zero => intro h; omega
  | succ n ih =>
    intro h h1
    show smN c n + c n = c o + (smN d n + d n)
    by_cases e : n = o
    · subst e
      rw [smN_c n (fun l hl => h1 l (by omega) (by omega)), hd]
      omega
    · rw [ih (by omega) (fun l hl h2 => h1 l (by omega) h2), h1 n (by omega) e]
      omega
theorem prN_e {c : Int → Int} {m : Nat} : ∀ n : Nat, m ≤ n → (∀ l : Nat, m ≤ l → l < n → c l = 1) → prN c n = prN c m := by
  intro n
  induction n with
  | zero => intro h _; rw [show m = 0 by omega]
  | succ n ih =>
    intro h h1
    by_cases e : m = n + 1
    · rw [e]
    · show prN c n * c n = _
      rw [h1 n (by omega) (by omega), Int.mul_one]
      exact ih (by omega) (fun l l0 l1 => h1 l l0 (by omega))
theorem smN_0 {c : Int → Int} : ∀ n : Nat, (∀ l : Nat, l < n → c l = 0) → smN c n = 0 := by
  intro n
  induction n with
  | zero => intro _; rfl
  | succ n ih => intro h; show smN c n + c n = 0; rw [ih (fun l hl => h l (by omega)), h n (by omega)]; rfl
theorem wr_m (a b : Int) : wr (wr a * b) = wr (a * b) := by
  have h := zi_wr a
  unfold wr at h ⊢
  rw [Int32.ofInt_mul, Int32.ofInt_mul, h]
theorem wr_a (a b : Int) : wr (wr a + wr b) = wr (a + b) := by
  have h := zi_wr a
  have h2 := zi_wr b
  unfold wr at h h2 ⊢
  rw [Int32.ofInt_add, Int32.ofInt_add, h, h2]
def cF (T : Int → Int) (x l : Int) : Int := if kd T l = 2 ∧ x ≤ pt T l then nb T l else 1
def cG (T : Int → Int) (x l : Int) : Int := if kd T l = 2 ∧ x < pt T l then nb T l else 1
def PF (T : Int → Int) (x : Nat) : Int := prN (cF T x) x
def rF (T su : Int → Int) (x l : Int) : Int := if kd T l = 2 ∧ x ≤ pt T l then su l * PF T l.toNat else 0
def wF (T : Int → Int) (x : Int) : Int := (if kd T x = 0 then mn T (nb T x) else 0) * prN (cG T x) x.toNat
section A51
variable {T su : Int → Int} {x y m : Int}
theorem su_fin (ok : tOk T) (hu : uOk T su) (hn : ∀ i, 0 ≤ i → i < T 1 → kd T i ≠ 3) : ∀ (n : Nat) (x : Nat), x ≤ n → (x : Int) ≤ T 1 → su x ≠ 2147483647 := by
  intro n
  induction n with
  | zero => intro x hx h1; rw [show x = 0 by omega]; rw [show ((0 : Nat) : Int) = 0 by rfl, hu.1.1]; decide
  | succ n ih =>
    intro x hx h1
    cases x with
    | zero => rw [show ((0 : Nat) : Int) = 0 by rfl, hu.1.1]; decide
    | succ x =>
      have e : ((x + 1 : Nat) : Int) = (x : Int) + 1 := by omega
      rw [e]
      have o := ok.2.2.2.2 x (by omega) (by omega)
      have s := hu.1.2 x (by omega) (by omega)
      have px := ih x (by omega) (by omega)
      have bx := hu.2.1 x (by omega) (by omega)
      have n3 := hn x (by omega) (by omega)
      by_cases k0 : kd T x = 0
      · have a := o.2.1 k0
        have mm := ok.2.2.1 _ a.1 a.2
        rw [s.1 k0]
        unfold aE
        rw [if_neg (by omega)]
        omega
      by_cases k1 : kd T x = 1
      · rw [s.2.1 k1]; exact px
      by_cases k2 : kd T x = 2
      · rw [s.2.2.1 (Or.inl k2)]; decide
      · have k4 : kd T x = 4 := by have q := o.1; clear o; omega
        have p := o.2.2.2.2.2.2 k4
        have p1 := p.1
        have p2 := p.2.1
        have k2' : kd T (pt T x) = 2 := by
          rcases p.2.2.1 with z | z
          · exact z
          · exact absurd z (hn _ p1 (by omega))
        have po := ih (pt T x).toNat (by omega) (by omega)
        rw [show (((pt T x).toNat : Nat) : Int) = pt T x by omega] at po
        have bo := hu.2.1 (pt T x) p1 (by omega)
        have nb2 := (ok.2.2.2.2 (pt T x) p1 (by omega)).2.2.2.1 k2'
        have mu := Int.mul_le_mul (a := nb T (pt T x)) (c := 9) (b := su x) (d := 2519424) (by omega) (by omega) (by omega) (by omega)
        rw [s.2.2.2 k4]
        unfold mE
        rw [if_neg (by omega)]
        unfold aE
        rw [if_neg (by omega)]
        omega
theorem whole_in (ok : tOk T) (hn : nst T) (hu : uOk T su) (h3 : ∀ i, 0 ≤ i → i < T 1 → kd T i ≠ 3) : ∀ x : Nat, (x : Int) ≤ T 1 → su x * PF T x + smN (rF T su x) x = smN (wF T) x := by
  intro x
  induction x with
  | zero => intro _; rw [show ((0 : Nat) : Int) = 0 by rfl, hu.1.1]; rfl
  | succ x ih =>
    intro h1
    have IH := ih (by omega)
    have e : ((x + 1 : Nat) : Int) = (x : Int) + 1 := by omega
    have o := ok.2.2.2.2 x (by omega) (by omega)
    have s := hu.1.2 x (by omega) (by omega)
    have nE := fun (y : Int) (h0 : 0 ≤ y) (h1 : y ≤ T 1) => by
      have := su_fin ok hu h3 y.toNat y.toNat (by omega) (by omega)
      rw [show ((y.toNat : Nat) : Int) = y by omega] at this
      exact this
    have px := nE x (by omega) (by omega)
    have n3 := h3 x (by omega) (by omega)
    have ptk : ∀ l : Nat, l < x → kd T l = 2 → pt T l < T 1 ∧ kd T (pt T l) = 4 ∧ pt T (pt T l) = l := fun l hl k => by
      have p := (ok.2.2.2.2 l (by omega) (by omega)).2.2.2.2.2.1 (Or.inl k)
      exact ⟨p.2.1, p.2.2.1, p.2.2.2⟩
    have wx : smN (wF T) (x + 1) = smN (wF T) x + wF T x := rfl
    rw [wx, ← IH]
    have ePF : PF T (x + 1) = prN (cF T ((x : Int) + 1)) x * cF T ((x : Int) + 1) x := by unfold PF; rw [e]; rfl
    have eR : smN (rF T su ((x + 1 : Nat) : Int)) (x + 1) = smN (rF T su ((x : Int) + 1)) x + rF T su ((x : Int) + 1) x := by rw [e]; rfl
    rw [ePF, eR, e]
    by_cases k4 : kd T x = 4
    · have p := o.2.2.2.2.2.2 k4
      have p1 := p.1
      have p2 := p.2.1
      have p4 := p.2.2.2.1
      have k2 : kd T (pt T x) = 2 := by
        rcases p.2.2.1 with z | z
        · exact z
        · exact absurd z (h3 _ p1 (by omega))
      obtain ⟨on, hon⟩ : ∃ on : Nat, (on : Int) = pt T x := ⟨(pt T x).toNat, by omega⟩
      clear p o
      rw [← hon] at p1 p2 p4 k2
      have c1 : cF T ((x : Int) + 1) x = 1 := by unfold cF; rw [if_neg (by omega)]
      have r1 : rF T su ((x : Int) + 1) x = 0 := by unfold rF; rw [if_neg (by omega)]
      have w0 : wF T x = 0 := by unfold wF; rw [if_neg (by omega), Int.zero_mul]
      have d1 : ∀ l : Nat, l < x → l ≠ on → ((kd T l = 2 ∧ (x : Int) ≤ pt T l) ↔ (kd T l = 2 ∧ (x : Int) + 1 ≤ pt T l)) := fun l hl hne => by
        constructor
        · intro z
          have q := ptk l hl z.1
          refine ⟨z.1, ?_⟩
          by_cases y : pt T l = x
          · have := q.2.2; rw [y, ← hon] at this; omega
          · have := z.2; omega
        · intro z; exact ⟨z.1, by have := z.2; omega⟩
      have eP : PF T x = nb T on * prN (cF T ((x : Int) + 1)) x := by
        unfold PF
        have q := prN_1 (c := cF T x) (d := cF T ((x : Int) + 1)) (o := on) (by unfold cF; rw [p4, if_neg (by omega)]) x (by omega) (fun l hl hne => by
          unfold cF
          by_cases z : kd T l = 2 ∧ (x : Int) ≤ pt T l
          · rw [if_pos z, if_pos ((d1 l hl hne).mp z)]
          · rw [if_neg z, if_neg (fun y => z ((d1 l hl hne).mpr y))])
        rw [q]
        have : cF T x on = nb T on := by unfold cF; rw [p4, if_pos ⟨k2, by omega⟩]
        rw [this]
      have eRx : smN (rF T su x) x = su on * PF T on + smN (rF T su ((x : Int) + 1)) x := by
        have q := smN_1 (c := rF T su x) (d := rF T su ((x : Int) + 1)) (o := on) (by unfold rF; rw [p4, if_neg (by omega)]) x (by omega) (fun l hl hne => by
          unfold rF
          by_cases z : kd T l = 2 ∧ (x : Int) ≤ pt T l
          · rw [if_pos z, if_pos ((d1 l hl hne).mp z)]
          · rw [if_neg z, if_neg (fun y => z ((d1 l hl hne).mpr y))])
        rw [q]
        have : rF T su x on = su on * PF T on := by unfold rF; rw [p4, if_pos ⟨k2, by omega⟩]; rfl
        rw [this]
      have eo : prN (cF T ((x : Int) + 1)) x = PF T on := by
        unfold PF
        rw [prN_e (m := on) x (by omega) (fun l l0 l1 => by
          unfold cF
          rw [if_neg]
          intro z
          by_cases y : l = on
          · rw [y, p4] at z; omega
          · rcases hn on l (by omega) (by omega) (by omega) (Or.inl k2) (Or.inl z.1) with w | w
            · rw [p4] at w; omega
            · rw [p4] at w; have := z.2; omega)]
        refine prN_c on (fun l hl => ?_)
        unfold cF
        by_cases kl : kd T l = 2
        · rcases hn l on (by omega) (by omega) (by omega) (Or.inl kl) (Or.inl k2) with w | w
          · rw [if_neg (by omega), if_neg (by omega)]
          · rw [p4] at w
            rw [if_pos ⟨kl, by omega⟩, if_pos ⟨kl, by omega⟩]
        · rw [if_neg (fun z => kl z.1), if_neg (fun z => kl z.1)]
      have po := nE on (by omega) (by omega)
      have su1 : su ((x : Int) + 1) = su on + nb T on * su x := by
        rw [s.2.2.2 k4, ← hon]
        unfold mE
        rw [if_neg (by omega)]
        unfold aE
        have bx := hu.2.1 x (by omega) (by omega)
        have nb2 := (ok.2.2.2.2 on (by omega) (by omega)).2.2.2.1 k2
        have mu := Int.mul_le_mul (a := nb T on) (c := 9) (b := su x) (d := 2519424) (by omega) (by omega) (by omega) (by omega)
        rw [if_neg (by omega)]
      rw [c1, r1, w0, su1, eRx, eP, eo, Int.mul_one, Int.add_mul, Int.add_zero, Int.add_zero]
      have : nb T on * su x * PF T on = su x * (nb T on * PF T on) := by rw [← Int.mul_assoc, Int.mul_comm (nb T on)]
      rw [this]
      omega
    · have d0 : ∀ l : Nat, l < x → ((kd T l = 2 ∧ (x : Int) ≤ pt T l) ↔ (kd T l = 2 ∧ (x : Int) + 1 ≤ pt T l)) := fun l hl => by
        constructor
        · intro z
          have q := ptk l hl z.1
          refine ⟨z.1, ?_⟩
          by_cases y : pt T l = x
          · exact absurd (y ▸ q.2.1) k4
          · have := z.2; omega
        · intro z; exact ⟨z.1, by have := z.2; omega⟩
      have eP : prN (cF T ((x : Int) + 1)) x = PF T x := by
        unfold PF
        refine prN_c x (fun l hl => ?_)
        unfold cF
        by_cases z : kd T l = 2 ∧ (x : Int) ≤ pt T l
        · rw [if_pos z, if_pos ((d0 l hl).mp z)]
        · rw [if_neg z, if_neg (fun y => z ((d0 l hl).mpr y))]
      have eRx : smN (rF T su ((x : Int) + 1)) x = smN (rF T su x) x := by
        refine smN_c x (fun l hl => ?_)
        unfold rF
        by_cases z : kd T l = 2 ∧ (x : Int) ≤ pt T l
        · rw [if_pos z, if_pos ((d0 l hl).mp z)]
        · rw [if_neg z, if_neg (fun y => z ((d0 l hl).mpr y))]
      rw [eP, eRx]
      by_cases k2 : kd T x = 2
      · have p := o.2.2.2.2.2.1 (Or.inl k2)
        have c1 : cF T ((x : Int) + 1) x = nb T x := by unfold cF; rw [if_pos ⟨k2, by omega⟩]
        have r1 : rF T su ((x : Int) + 1) x = su x * PF T x := by unfold rF; rw [if_pos ⟨k2, by omega⟩]; rfl
        have w0 : wF T x = 0 := by unfold wF; rw [if_neg (by omega), Int.zero_mul]
        rw [s.2.2.1 (Or.inl k2), c1, r1, w0, Int.zero_mul]
        omega
      · have c1 : cF T ((x : Int) + 1) x = 1 := by unfold cF; rw [if_neg (fun z => k2 z.1)]
        have r1 : rF T su ((x : Int) + 1) x = 0 := by unfold rF; rw [if_neg (fun z => k2 z.1)]
        rw [c1, r1, Int.mul_one, Int.add_zero]
        by_cases k0 : kd T x = 0
        · have a := o.2.1 k0
          have mm := ok.2.2.1 _ a.1 a.2
          have bx := hu.2.1 x (by omega) (by omega)
          have w0 : wF T x = mn T (nb T x) * PF T x := by
            have hh : prN (cG T x) x = prN (cF T x) x := prN_c x (fun l hl => by
              unfold cF cG
              by_cases z : kd T l = 2 ∧ (x : Int) ≤ pt T l
              · have := (d0 l hl).mp z
                rw [if_pos z, if_pos ⟨z.1, by omega⟩]
              · rw [if_neg z, if_neg (fun y => z ⟨y.1, by omega⟩)])
            unfold wF PF
            rw [if_pos k0, show (x : Int).toNat = x by omega, hh]
          have s1 : su ((x : Int) + 1) = su x + mn T (nb T x) := by rw [s.1 k0]; unfold aE; rw [if_neg (by omega)]
          rw [w0, s1, Int.add_mul]
          omega
        · have k1 : kd T x = 1 := by have q := o.1; clear o; omega
          have w0 : wF T x = 0 := by unfold wF; rw [if_neg k0, Int.zero_mul]
          rw [w0, s.2.1 k1, Int.add_zero]
theorem whole_fin (ok : tOk T) (hn : nst T) (hu : uOk T su) (h3 : ∀ i, 0 ≤ i → i < T 1 → kd T i ≠ 3) : su (T 1) = smN (wF T) (T 1).toNat := by
  have t1 := ok.2.1
  have w := whole_in ok hn hu h3 (T 1).toNat (by omega)
  have e : (((T 1).toNat : Nat) : Int) = T 1 := by omega
  have ptl : ∀ l : Nat, l < (T 1).toNat → ¬ (kd T l = 2 ∧ T 1 ≤ pt T l) := fun l hl z => by
    have := ((ok.2.2.2.2 l (by omega) (by omega)).2.2.2.2.2.1 (Or.inl z.1)).2.1
    have := z.2
    omega
  have p1 : PF T (T 1).toNat = 1 := by
    unfold PF
    rw [e, prN_e (m := 0) _ (by omega) (fun l _ hl => by unfold cF; rw [if_neg (ptl l hl)])]
    rfl
  have r0 : smN (rF T su (((T 1).toNat : Nat) : Int)) (T 1).toNat = 0 := smN_0 _ (fun l hl => by unfold rF; rw [e, if_neg (ptl l hl)])
  rw [p1, r0, e, Int.mul_one, Int.add_zero] at w
  exact w
theorem whole_E (ok : tOk T) (hu : uOk T su) (hb : ∀ o, 0 ≤ o → o < T 1 → (kd T o = 2 ∨ kd T o = 3) → RC T (o + 1) (pt T o)) {o : Int} (o3 : kd T o = 3) : ∀ (L : Nat) (n : Nat) (x y : Int), rc T n x y → y - x ≤ L → 0 ≤ x → y ≤ T 1 → x ≤ o → o < y → su y = 2147483647 := by
  intro L
  induction L with
  | zero => intro n x y hr hL _ _ h1 h2; omega
  | succ L IH =>
    intro n
    induction n with
    | zero => intro x y hr hL x0 y1 h1 h2; have : x = y := hr; omega
    | succ n ih =>
      intro x y hr hL x0 y1 h1 h2
      obtain ⟨r1, r2, r3⟩ := hr
      have x1 : x < T 1 := by omega
      have g := nxt_gt ok x0 x1
      have sn := su_nx ok hu.1 x0 x1 r2
      by_cases hx : nxt T x ≤ o
      · exact ih _ _ r3 (by omega) (by omega) y1 hx h2
      · refine su_E ok hu.1 n _ _ r3 (by omega) y1 ?_
        have key : sz T su x = 2147483647 := by
          by_cases ex : o = x
          · unfold sz
            rw [← ex, o3, if_neg (by decide), if_pos (Or.inr rfl)]
            unfold mE
            rw [if_pos (Or.inl o3)]
          · have ko : kd T x = 2 ∨ kd T x = 3 := by
              by_cases z : kd T x = 2 ∨ kd T x = 3
              · exact z
              · unfold nxt at hx; rw [if_neg z] at hx; omega
            have p := (ok.2.2.2.2 x x0 x1).2.2.2.2.2.1 ko
            have en : nxt T x = pt T x + 1 := by unfold nxt; rw [if_pos ko]
            obtain ⟨n', rn'⟩ := hb x x0 x1 ko
            have ny := rc_le n _ _ r3
            have op : o ≠ pt T x := fun z => by rw [z, p.2.2.1] at o3; omega
            have a := IH n' (x + 1) (pt T x) rn' (by omega) (by omega) (by omega) (by omega) (by omega)
            unfold sz
            rw [if_neg (by omega), if_pos ko]
            unfold mE
            rw [if_pos (Or.inr a)]
        rw [sn]
        unfold aE
        rw [if_pos (Or.inr key)]
end A51
def uFN (T : Int → Int) : Nat → Int → Int → Int
  | 0, _, a => a
  | n + 1, k, a => uFN T n (k + 1) (if a = 0 then (if kd T k = 3 then 1 else 0) else 1)
theorem uFN_p {T : Int → Int} : ∀ (n : Nat) (k a : Int), (a = 0 ∨ a = 1) → (uFN T n k a = 0 ∨ uFN T n k a = 1) ∧ (uFN T n k a = 0 → a = 0 ∧ ∀ i, k ≤ i → i < k + n → kd T i ≠ 3) ∧ (uFN T n k a = 1 → a = 1 ∨ ∃ i, k ≤ i ∧ i < k + n ∧ kd T i = 3) := by
  intro n
  induction n with
  | zero => intro k a h; exact ⟨h, fun z => ⟨z, fun i _ _ => by omega⟩, fun z => Or.inl z⟩
  | succ n ih =>
    intro k a h
    have q := ih (k + 1) (if a = 0 then (if kd T k = 3 then 1 else 0) else 1) (by split; split; exact Or.inr rfl; exact Or.inl rfl; exact Or.inr rfl)
    refine ⟨q.1, fun z => ?_, fun z => ?_⟩
    · have w := q.2.1 z
      by_cases a0 : a = 0
      · rw [if_pos a0] at w
        refine ⟨a0, fun i i0 i1 => ?_⟩
        by_cases e : i = k
        · intro y; rw [e] at y; rw [if_pos y] at w; omega
        · exact w.2 i (by omega) (by omega)
      · rw [if_neg a0] at w; omega
    · rcases q.2.2 z with w | ⟨i, i0, i1, i2⟩
      · by_cases a0 : a = 0
        · rw [if_pos a0] at w
          by_cases y : kd T k = 3
          · exact Or.inr ⟨k, by omega, by omega, y⟩
          · rw [if_neg y] at w; omega
        · left; exact h.elim (fun y => absurd y a0) id
      · exact Or.inr ⟨i, by omega, by omega, i2⟩
section B51
variable {I : Nat → Int → Int} {b : Bool} {S : Nat} {N : Int} {J0 : Nat → Int → Int}
theorem r_untilL (ok : tOk (I 88)) : ∀ (n : Nat) (k a : Int), k + n = I 88 1 → 0 ≤ k → (a = 0 ∨ a = 1) → zX 180 4 [vR 87, vI a, vI k] [] (I, zRs b, 103, S) = some (some (vI (uFN (I 88) n k a)), (I, zRs b, 103, S)) := by
  have t1 := ok.2.1
  intro n
  induction n with
  | zero => intro k a h0 h1 h2; rw [e180_4, if_pos (by omega), if_pos h2]; rfl
  | succ n ih =>
    intro k a h0 h1 h2
    show _ = some (some (vI (uFN (I 88) n (k + 1) (if a = 0 then (if kd (I 88) k = 3 then 1 else 0) else 1))), _)
    rw [e180_4, if_neg (by omega)]
    by_cases a0 : a = 0
    · rw [if_pos a0, if_pos a0, r_kd (by omega), Option.bind_some]
      simp only [zpush_s]
      rw [e180_24, wr_id (by omega) (by omega)]
      by_cases k3 : kd (I 88) k = 3
      · rw [if_pos k3, if_pos k3, ih _ _ (by omega) (by omega) (Or.inr rfl)]
      · rw [if_neg k3, if_neg k3, ih _ _ (by omega) (by omega) (Or.inl rfl)]
    · rw [if_neg a0, if_neg a0, wr_id (by omega) (by omega), ih _ _ (by omega) (by omega) (Or.inr rfl)]
theorem r_prodL (ok : tOk (I 88)) {a1 A : Int} {x : Nat} (hx : (x : Int) < I 88 1) : ∀ (n l : Nat), l + n = x → zX 183 51 [vR 87, vI a1, vI x, vI (wr (A * prN (cG (I 88) x) l)), vI l] [] (I, zRs b, 103, S) = zX 183 14 [vR 87, vI (wr (a1 + wr (A * prN (cG (I 88) x) x))), vI ((x : Int) + 1), vI (wr (A * prN (cG (I 88) x) x)), vI x] [] (I, zRs b, 103, S) := by
  have t1 := ok.2.1
  intro n
  induction n with
  | zero =>
    intro l h
    have e : l = x := by omega
    subst e
    rw [e183_51, if_pos (by omega), wr_id (a := (l : Int) + 1) (by omega) (by omega)]
  | succ n ih =>
    intro l h
    have st : prN (cG (I 88) x) (l + 1) = prN (cG (I 88) x) l * cG (I 88) x l := rfl
    have IH := ih (l + 1) (by omega)
    rw [st, ← Int.mul_assoc, ← wr_m, show ((l + 1 : Nat) : Int) = (l : Int) + 1 by omega] at IH
    rw [e183_51, if_neg (by omega), r_kd (by omega), Option.bind_some]
    simp only [zpush_s]
    rw [e183_65, wr_id (a := (l : Int) + 1) (by omega) (by omega)]
    unfold cG at IH ⊢
    by_cases k2 : kd (I 88) l = 2
    · rw [if_pos k2, r_pt (by omega), Option.bind_some]
      simp only [zpush_s]
      rw [e183_76, wr_id (a := (l : Int) + 1) (by omega) (by omega)]
      by_cases hp : pt (I 88) l ≤ x
      · rw [if_pos hp]
        rw [if_neg (show ¬ (kd (I 88) l = 2 ∧ (x : Int) < pt (I 88) l) by omega)] at IH
        exact IH
      · rw [if_neg hp, r_nb (by omega), Option.bind_some]
        simp only [zpush_s]
        rw [e183_87, wr_id (a := (l : Int) + 1) (by omega) (by omega)]
        rw [if_pos (show kd (I 88) l = 2 ∧ (x : Int) < pt (I 88) l by omega)] at IH
        exact IH
    · rw [if_neg k2]
      rw [if_neg (show ¬ (kd (I 88) l = 2 ∧ (x : Int) < pt (I 88) l) by omega)] at IH
      exact IH
theorem r_wholeL (ok : tOk (I 88)) : ∀ (n x : Nat) (w3 w4 : zV), ((x + n : Nat) : Int) = I 88 1 → zX 183 14 [vR 87, vI (wr (smN (wF (I 88)) x)), vI x, w3, w4] [] (I, zRs b, 103, S) = some (some (vI (wr (smN (wF (I 88)) (x + n)))), (I, zRs b, 103, S)) := by
  have t1 := ok.2.1
  intro n
  induction n with
  | zero => intro x w3 w4 h; rw [e183_14, if_pos (by omega)]; rfl
  | succ n ih =>
    intro x w3 w4 h
    have o := ok.2.2.2.2 x (by omega) (by omega)
    have stp : ∀ A : Int, A = (if kd (I 88) x = 0 then mn (I 88) (nb (I 88) x) else 0) → (-2147483648 ≤ A ∧ A ≤ 2147483647) → zX 183 51 [vR 87, vI (wr (smN (wF (I 88)) x)), vI x, vI A, vI 0] [] (I, zRs b, 103, S) = some (some (vI (wr (smN (wF (I 88)) (x + (n + 1))))), (I, zRs b, 103, S)) := fun A eA bA => by
      have p := r_prodL (I := I) (b := b) (S := S) (a1 := wr (smN (wF (I 88)) x)) (A := A) (x := x) ok (by omega) x 0 (by omega)
      have p0 : prN (cG (I 88) x) 0 = 1 := rfl
      rw [p0, Int.mul_one, wr_id bA.1 bA.2, wr_a] at p
      have ew : smN (wF (I 88)) x + A * prN (cG (I 88) x) x = smN (wF (I 88)) (x + 1) := by
        show _ = smN (wF (I 88)) x + wF (I 88) x
        unfold wF
        rw [eA, show (x : Int).toNat = x by omega]
      rw [ew] at p
      have q := ih (x + 1) (vI (wr (A * prN (cG (I 88) x) x))) (vI x) (by omega)
      rw [show ((x + 1 : Nat) : Int) = (x : Int) + 1 by omega, show x + 1 + n = x + (n + 1) by omega] at q
      exact p.trans q
    rw [e183_14, if_neg (by omega), r_kd (by omega), Option.bind_some]
    simp only [zpush_s]
    rw [e183_30]
    by_cases k0 : kd (I 88) x = 0
    · have a := o.2.1 k0
      have t0 := ok.1
      have mm := ok.2.2.1 _ a.1 a.2
      rw [if_pos k0, r_nb (by omega), Option.bind_some]
      simp only [zpush_s]
      rw [e183_40, r_mn (by omega), Option.bind_some]
      simp only [zpush_s]
      rw [e183_43]
      exact stp _ (by rw [if_pos k0]) (by omega)
    · rw [if_neg k0]
      exact stp 0 (by rw [if_neg k0]) (by decide)
theorem op_whole (hI : Inv I b N J0) : opOk 101 183 [] I b S N J0 := by
  obtain ⟨_, ⟨ok, po, hp, hc, hn, su, s1, s2, s3, s4, s5⟩, _⟩ := id hI
  have hu : uOk (I 88) su := ⟨s1, s4, s5⟩
  have t1 := ok.2.1
  have c0 := (run101 (h := (I, zRs b, 103, S))).trans (e101_0 (I := I) (b := b) (S := S))
  rw [s3] at c0
  have r0 : zrun 183 [vR 87] (I, zRs b, 103, S) = zX 183 4 [vR 87, none, none, none, none] [vI (uFN (I 88) (I 88 1).toNat 0 0)] (I, zRs b, 103, S) := by
    rw [run183, e183_0, run180, e180_0, r_untilL ok (I 88 1).toNat 0 0 (by omega) (by omega) (Or.inl rfl), Option.bind_some]
    simp only [zpush_s]
  have u := uFN_p (T := I 88) (I 88 1).toNat 0 0 (Or.inl rfl)
  rcases u.1 with z | z
  · have h3 := (u.2.1 z).2
    have fin := whole_fin ok hn.2.2 hu (fun i i0 i1 => h3 i i0 (by omega))
    have nE := su_fin ok hu (fun i i0 i1 => h3 i i0 (by omega)) (I 88 1).toNat (I 88 1).toNat (by omega) (by omega)
    rw [show (((I 88 1).toNat : Nat) : Int) = I 88 1 by omega] at nE
    have bb := s4 (I 88 1) (by omega) (by omega)
    rw [if_neg nE] at c0
    refine op_ro (su (I 88 1)) hI c0 ?_
    have w := r_wholeL (I := I) (b := b) (S := S) ok (I 88 1).toNat 0 none none (by omega)
    have w0 : smN (wF (I 88)) 0 = 0 := rfl
    rw [w0, wr_id (a := 0) (by decide) (by decide), show 0 + (I 88 1).toNat = (I 88 1).toNat by omega, ← fin, wr_id (by omega) (by omega)] at w
    rw [r0, z, e183_4, if_pos rfl]
    exact w
  · have h3 := u.2.2 z
    rcases h3 with h3 | ⟨i, i0, i1, i2⟩
    · omega
    · obtain ⟨n, rn⟩ := hn.1
      have e := whole_E ok hu hn.2.1 i2 24 n 0 (I 88 1) rn (by omega) (by omega) (by omega) i0 (by omega)
      rw [if_pos e] at c0
      exact op_ro (-4) hI c0 (by rw [r0, z, e183_4, if_neg (by decide)])
end B51
