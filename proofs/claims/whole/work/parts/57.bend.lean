/-! ===== an END closes the latest ===== -/
def enI (D : Int → Int) (o d : Int) : Int → Int := adI (up D (140 + 4 * o) (D 1)) 4 (nb D o) o d
section A57
variable {D D' su su' : Int → Int} {st : List Int} {k v p q d n o x : Int}
theorem en_f (hn : 0 ≤ D 1) (ho : 0 ≤ o ∧ o < D 1) : agr D (enI D o d) o ∧ enI D o d 1 = D 1 + 1 ∧ kd (enI D o d) (D 1) = 4 ∧ nb (enI D o d) (D 1) = nb D o ∧ pt (enI D o d) (D 1) = o ∧ dp (enI D o d) (D 1) = d ∧ (∀ i, 0 ≤ i → i < D 1 → dp (enI D o d) i = dp D i) ∧ (∀ c, c < 138 → c ≠ 1 → enI D o d c = D c) ∧ pt (enI D o d) o = D 1 ∧ ∀ i, i < D 1 → kd (enI D o d) i = kd D i ∧ nb (enI D o d) i = nb D i ∧ (i ≠ o → pt (enI D o d) i = pt D i) := by
  have e1 : up D (140 + 4 * o) (D 1) 1 = D 1 := up_n (by omega)
  have u1 : ∀ i, kd (up D (140 + 4 * o) (D 1)) i = kd D i := fun i => by unfold kd; rw [up_n (by omega)]
  have u2 : ∀ i, nb (up D (140 + 4 * o) (D 1)) i = nb D i := fun i => by unfold nb; rw [up_n (by omega)]
  have u3 : ∀ i, i ≠ o → pt (up D (140 + 4 * o) (D 1)) i = pt D i := fun i hi => by unfold pt; rw [up_n (by omega)]
  have u4 : ∀ i, dp (up D (140 + 4 * o) (D 1)) i = dp D i := fun i => by unfold dp; rw [up_n (by omega)]
  obtain ⟨c1, c2, c3, c4, c5, c6, c7, c8⟩ := ad_c (D := up D (140 + 4 * o) (D 1)) (k := 4) (v := nb D o) (p := o) (d := d) (by rw [e1]; exact hn)
  rw [e1] at c1 c2 c3 c4 c5 c6 c7
  refine ⟨fun i hi => ?_, c2, c3, c4, c5, c6, fun i i0 i1 => by rw [← u4 i]; exact c7 i i0 i1, fun c h1 h2 => (c8 c h1 h2).trans (up_n (by omega)), ?_, fun i hi => ?_⟩
  · have a := c1 i (by omega)
    exact ⟨a.1.trans (u1 i), a.2.1.trans (u2 i), a.2.2.trans (u3 i (by omega))⟩
  · have a := c1 o ho.2
    refine a.2.2.trans ?_
    unfold pt; exact up_s
  · have a := c1 i hi
    exact ⟨a.1.trans (u1 i), a.2.1.trans (u2 i), fun z => a.2.2.trans (u3 i z)⟩
theorem pw9 {m : Nat} (h : m ≤ 3) : 9 * pw (m + 1) = pw m := by
  have : m = 0 ∨ m = 1 ∨ m = 2 ∨ m = 3 := by omega
  rcases this with rfl | rfl | rfl | rfl <;> rfl
theorem pw_1 {m : Nat} : 1 ≤ pw m := by
  unfold pw
  split
  · omega
  · split
    · omega
    · split
      · omega
      · split <;> omega
theorem lvl_lt (h : lvl D su (o :: st) x) : ∀ p, p ∈ st → p < o := fun p hp => (lvl_mem st o h.2.2.2.2.2.2.2 p hp).2.1
theorem en_bnd {a c w A B P Q : Int} {m : Nat} (ha : a = 2147483647 ∨ (0 ≤ a ∧ a ≤ 16 * A * pw m)) (hc : c = 2147483647 ∨ (0 ≤ c ∧ c ≤ 16 * B * pw (m + 1))) (hw : 0 ≤ w ∧ w ≤ 9) (hm : m ≤ 3) (hB : 0 ≤ B) (e : P = if Q = 3 ∨ c = 2147483647 then 2147483647 else w * c) : aE a P = 2147483647 ∨ (0 ≤ aE a P ∧ aE a P ≤ 16 * (A + B) * pw m) := by
  unfold aE
  split
  · exact Or.inl rfl
  · rename_i hn
    rcases ha with z | z
    · exact absurd (Or.inl z) hn
    · have e' : ¬ (Q = 3 ∨ c = 2147483647) := fun y => hn (Or.inr (by rw [e, if_pos y]))
      rw [if_neg e'] at e
      rcases hc with y | y
      · exact absurd (Or.inr y) e'
      · have m1 : w * c ≤ 9 * c := Int.mul_le_mul_of_nonneg_right hw.2 y.1
        have m0 : 0 ≤ w * c := Int.mul_nonneg hw.1 y.1
        have m2 : 9 * c ≤ 9 * (16 * B * pw (m + 1)) := Int.mul_le_mul_of_nonneg_left y.2 (by omega)
        have m3 : 9 * (16 * B * pw (m + 1)) = 16 * B * pw m := by rw [← pw9 hm, Int.mul_left_comm]
        have m4 : 16 * (A + B) * pw m = 16 * A * pw m + 16 * B * pw m := by rw [← Int.add_mul]; congr 1; omega
        exact Or.inr ⟨by omega, by omega⟩
theorem b_end (hb : bOk D su (o :: st)) (hn : D 1 < 24) (hp : 0 < su (D 1)) : bOk (enI D o d) (up su (D 1 + 1) (aE (su o) (mE D o (su (D 1))))) st := by
  obtain ⟨hsg, hD, hst, hit, hns, hsu, hbd, hlv⟩ := hb
  have hlt := lvl_lt hlv
  obtain ⟨h1, h2, h3, h4, h5, h6, h7, h8⟩ := id hlv
  obtain ⟨c1, c2, c3, c4, c5, c6, c7, c8, c9, c10⟩ := en_f (D := D) (d := d) hD.1 ⟨h1, h2⟩
  generalize hE : enI D o d = E at *
  have hs : ∀ i, i ≤ D 1 → up su (D 1 + 1) (aE (su o) (mE D o (su (D 1)))) i = su i := fun i hi => up_n (by omega)
  have hs1 : up su (D 1 + 1) (aE (su o) (mE D o (su (D 1)))) (D 1 + 1) = aE (su o) (mE D o (su (D 1))) := up_s
  generalize up su (D 1 + 1) (aE (su o) (mE D o (su (D 1)))) = tu at *
  have e0 : E 0 = D 0 := c8 0 (by omega) (by omega)
  have hm : ∀ s, 0 ≤ s → s < D 0 → mn E s = mn D s := fun s s0 s1 => by have := hsg.1; unfold mn; rw [c8 _ (by omega) (by omega)]
  have hst' : st.length ≤ 3 := by rw [List.length_cons] at hst; omega
  have cls : ∀ j, o < j → j < D 1 → (kd D j = 2 ∨ kd D j = 3) → clO D su j := fun j j0 j1 jk => by
    rcases (hit j (by omega) j1).2.1 jk with z | z
    · rcases List.mem_cons.mp z with w | w
      · omega
      · have := hlt j w; omega
    · exact z
  have nin : o ∉ st := fun z => by have := hlt o z; omega
  have rO : RC E (o + 1) (D 1) := by
    obtain ⟨m, hm⟩ := h5
    exact ⟨m, rc_cx (a := o + 1) (fun j j0 j1 => ⟨(c10 j j1).1, fun jk => ⟨(c10 j j1).2.2 (by omega), (cls j (by omega) j1 jk).1⟩⟩) m _ (by omega) hm⟩
  have ko := (hit o h1 h2).1
  have nbo : 0 ≤ nb D o ∧ nb D o ≤ 9 := by
    rcases h3 with z | z
    · have := ko.2.2.2.1 z; omega
    · have := ko.2.2.2.2 z; omega
  have nxo : nxt E o = D 1 + 1 := by unfold nxt; rw [(c10 o h2).1, if_pos h3, c9]
  have plo : ∃ p, o < p ∧ p < D 1 ∧ kd D p = 0 ∧ ∀ q, o < q → q < p → kd D q = 1 ∨ kd D q = 2 ∨ kd D q = 3 := by
    rcases h7 with z | z
    · exact z
    · omega
  have hlv' : lvl E tu st (D 1 + 1) := by
    have kO : kd E o ≠ 4 := by rw [(c10 o h2).1]; omega
    cases st with
    | nil =>
      refine ⟨by omega, RC_add kO nxo (by omega) (RC_c c1 h8.2.1), ?_⟩
      rw [hs1]
      have := en_bnd (m := 0) (A := o) (B := D 1 - o - 1) (P := mE D o (su (D 1))) (Q := kd D o) (w := nb D o) (a := su o) (c := su (D 1)) h8.2.2 h6 nbo (by omega) (by omega) rfl
      rcases this with z | z
      · exact Or.inl z
      · refine Or.inr ⟨z.1, ?_⟩
        have y := z.2
        rw [show pw 0 = 6561 from rfl] at y
        omega
    | cons r st =>
      obtain ⟨g1, g2, g3, g4, g5, g6, g7, g8⟩ := h8
      have a := c1 r g2
      refine ⟨g1, by omega, by rw [a.1]; exact g3, by rw [a.2.2]; exact g4, RC_add kO nxo (by omega) (RC_c c1 g5), ?_, ?_, lvl_c st r (agr_m c1 (by omega)) (fun i hi => hs i (by omega)) g8⟩
      · rw [hs1]
        have := en_bnd (m := st.length + 1) (A := o - r - 1) (B := D 1 - o - 1) (P := mE D o (su (D 1))) (Q := kd D o) (w := nb D o) (a := su o) (c := su (D 1)) g6 h6 nbo (by rw [List.length_cons] at hst'; omega) (by omega) rfl
        rcases this with z | z
        · exact Or.inl z
        · refine Or.inr ⟨z.1, ?_⟩
          have y := z.2
          have p1 := pw_1 (m := st.length + 1)
          have p2 : 16 * (D 1 + 1 - r - 1) * pw (st.length + 1) = 16 * (o - r - 1 + (D 1 - o - 1)) * pw (st.length + 1) + 32 * pw (st.length + 1) := by
            rw [← Int.add_mul]; congr 1; omega
          omega
      · rcases g7 with ⟨p, p1, p2, p3, p4⟩ | ⟨z1, z2⟩
        · exact Or.inl ⟨p, p1, by omega, by rw [(c1 p p2).1]; exact p3, fun q q1 q2 => by rw [(c1 q (by omega)).1]; exact p4 q q1 q2⟩
        · obtain ⟨p, p1, p2, p3, p4⟩ := plo
          refine Or.inl ⟨p, by omega, by omega, by rw [(c10 p p2).1]; exact p3, fun q q1 q2 => ?_⟩
          rw [(c10 q (by omega)).1]
          by_cases w1 : q < o
          · exact Or.inl (z2 q q1 w1)
          · by_cases w2 : q = o
            · rw [w2]; exact Or.inr h3
            · exact p4 q (by omega) q2
  have ptn : ∀ i, 0 ≤ i → i < D 1 → kd D i = 4 → pt D i ≠ o := fun i i0 i1 ik z => by
    have y := (hit i i0 i1).2.2 ik
    have w := y.2.2.2.1
    rw [z, h4] at w
    omega
  refine ⟨sg_c (fun c h1 h2 _ => c8 c h1 h2) hsg, by omega, by omega, fun i i0 i1 => ?_, fun l r l0 l1 o1 lk ok ls => ?_, ⟨by rw [hs 0 (by omega)]; exact hsu.1, fun i i0 i1 => ?_⟩, fun x x0 x1 => ?_, by rw [c2]; exact hlv'⟩
  · by_cases e : i = D 1
    · subst e
      refine ⟨?_, fun z => by rw [c3] at z; omega, fun _ => ?_⟩
      · unfold knO
        rw [c3]
        exact ⟨by omega, fun z => by omega, fun z => by omega, fun z => by omega, fun z => by omega⟩
      · unfold enO
        rw [c5, c9, (c10 o h2).1]
        obtain ⟨p, p1, p2, p3, p4⟩ := plo
        exact ⟨h1, h2, h3, rfl, p, p1, p2, by rw [(c10 p p2).1]; exact p3, fun q q1 q2 => by rw [(c10 q (by omega)).1]; exact p4 q q1 q2⟩
    · have i2 : i < D 1 := by omega
      have y := hit i i0 i2
      have a := c10 i i2
      refine ⟨?_, fun z => ?_, fun z => ?_⟩
      · unfold knO; rw [a.1, a.2.1, e0]; exact y.1
      · rw [a.1] at z
        by_cases ei : i = o
        · right
          rw [ei]
          unfold clO
          rw [c9]
          exact ⟨h2, by omega, c3, c5, rO, by rw [hs _ (by omega)]; exact hp⟩
        · rcases y.2.1 z with w | w
          · left
            rcases List.mem_cons.mp w with w | w
            · exact absurd w ei
            · exact w
          · right
            obtain ⟨w1, w2, w3, w4, w5, w6⟩ := w
            have pne : pt D i ≠ o := fun q => by rw [q, h4] at w4; omega
            unfold clO
            rw [a.2.2 ei]
            refine ⟨w1, by omega, by rw [(c10 _ w2).1]; exact w3, by rw [(c10 _ w2).2.2 pne]; exact w4, ?_, by rw [hs _ (by omega)]; exact w6⟩
            obtain ⟨m, hm⟩ := w5
            have inn : i ∉ o :: st := fun q => by
              have := lvl_mem _ _ hlv i q
              omega
            refine ⟨m, rc_cx (a := i + 1) (fun j j0 j1 => ⟨(c10 j (by omega)).1, fun jk => ?_⟩) m _ (by omega) hm⟩
            have q := hns i j i0 (by omega) (by omega) z jk inn
            rcases q with q | q
            · omega
            · have jo : j ≠ o := fun s => q.1 (by rw [s]; exact List.mem_cons_self)
              refine ⟨(c10 j (by omega)).2.2 jo, ?_⟩
              rcases (hit j (by omega) (by omega)).2.1 jk with s | s
              · exact absurd s q.1
              · exact s.1
      · rw [a.1] at z
        have w := y.2.2 z
        have pne := ptn i i0 i2 z
        obtain ⟨w1, w2, w3, w4, p, p1, p2, p3, p4⟩ := w
        have ei : i ≠ o := fun q => by rw [q] at z; omega
        unfold enO
        rw [a.2.2 ei]
        exact ⟨w1, w2, by rw [(c10 _ (by omega)).1]; exact w3, by rw [(c10 _ (by omega)).2.2 pne]; exact w4, p, p1, p2, by rw [(c10 p (by omega)).1]; exact p3, fun q q1 q2 => by rw [(c10 q (by omega)).1]; exact p4 q q1 q2⟩
  · have r2 : r < D 1 := by
      by_cases e : r = D 1
      · rw [e, c3] at ok; omega
      · omega
    rw [(c10 l (by omega)).1] at lk
    rw [(c10 r r2).1] at ok
    by_cases el : l = o
    · have ro : r ≠ o := by omega
      rw [el, c9, (c10 r r2).2.2 ro]
      exact Or.inr ⟨fun z => by have := hlt r z; omega, (cls r (by omega) r2 ok).2.1⟩
    · have inn : l ∉ o :: st := fun q => by
        rcases List.mem_cons.mp q with q | q
        · exact el q
        · exact ls q
      rw [(c10 l (by omega)).2.2 el]
      rcases hns l r l0 l1 r2 lk ok inn with z | z
      · exact Or.inl z
      · have ro : r ≠ o := fun s => z.1 (by rw [s]; exact List.mem_cons_self)
        rw [(c10 r r2).2.2 ro]
        exact Or.inr ⟨fun q => z.1 (List.mem_cons_of_mem _ q), z.2⟩
  · by_cases e : i = D 1
    · subst e
      rw [c3]
      refine ⟨fun z => by omega, fun z => by omega, fun z => by omega, fun _ => ?_⟩
      rw [c5, hs1, hs _ (by omega), hs _ (by omega)]
      unfold mE
      rw [(c10 o h2).1, (c10 o h2).2.1]
    · have i2 : i < D 1 := by omega
      have a := c10 i i2
      have w := hsu.2 i i0 i2
      have y := hit i i0 i2
      rw [a.1, a.2.1, hs i (by omega), hs (i + 1) (by omega)]
      refine ⟨fun z => by rw [hm _ (y.1.2.1 z).1 (y.1.2.1 z).2]; exact w.1 z, w.2.1, w.2.2.1, fun z => ?_⟩
      have en := y.2.2 z
      have ei : i ≠ o := fun q => by rw [q] at z; omega
      have p1 := en.2.1
      rw [a.2.2 ei, hs _ (by omega)]
      unfold mE
      rw [(c10 (pt D i) (by omega)).1, (c10 (pt D i) (by omega)).2.1]
      exact w.2.2.2 z
  · by_cases e : x = D 1 + 1
    · rw [e]; exact lvl_b hlv' (by omega)
    · rw [hs x (by omega)]; exact hbd x x0 (by omega)
theorem b_tOk (hb : bOk D su []) : tOk D ∧ nOk D := by
  obtain ⟨hsg, hD, hst, hit, hns, hsu, hbd, hlv⟩ := hb
  have cl : ∀ i, 0 ≤ i → i < D 1 → (kd D i = 2 ∨ kd D i = 3) → clO D su i := fun i i0 i1 z => by
    rcases (hit i i0 i1).2.1 z with w | w
    · exact absurd w List.not_mem_nil
    · exact w
  refine ⟨⟨hsg.1, hD, hsg.2.1, hsg.2.2, fun i i0 i1 => ?_⟩, hlv.2.1, fun o o0 o1 z => (cl o o0 o1 z).2.2.2.2.1, fun l o l0 l1 o1 lk ok => ?_⟩
  · have y := hit i i0 i1
    exact ⟨y.1.1, y.1.2.1, y.1.2.2.1, y.1.2.2.2.1, y.1.2.2.2.2, fun z => ⟨(cl i i0 i1 z).1, (cl i i0 i1 z).2.1, (cl i i0 i1 z).2.2.1, (cl i i0 i1 z).2.2.2.1⟩, y.2.2⟩
  · rcases hns l o l0 l1 o1 lk ok List.not_mem_nil with z | z
    · exact Or.inl z
    · exact Or.inr z.2
end A57
