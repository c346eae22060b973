/-! ===== the reference's pool ===== -/
section A54
variable {I : Nat → Int → Int} {b : Bool} {S : Nat}
theorem r_alikeL {s p n : Int} (hs : 0 ≤ s ∧ s < 8) (hn : mn (I 88) s = n) (hn1 : 1 ≤ n ∧ n ≤ 16) (hp : 0 ≤ p ∧ p ≤ 128) (hm : I 87 3 ≤ 128) : ∀ (k : Nat) (a : Int), a + k = n → 0 ≤ a → (a ≤ 0 ∨ p + a ≤ I 87 3) → (∀ i, 0 ≤ i → i < a → p + i < I 87 3 → I 90 (p + i) = lv (I 88) s i) → ∃ t, zX 150 2 [vR 87, vI s, vI p, vI a] [] (I, zRs b, 103, S) = some (some (vI t), (I, zRs b, 103, S)) ∧ ((fit (I 90) (I 87 3) p (lv (I 88) s) n ∧ (p ≤ I 87 3 → t = mi n (I 87 3 - p)) ∧ 0 ≤ t) ∨ (t = -4 ∧ ¬ fit (I 90) (I 87 3) p (lv (I 88) s) n)) := by
  intro k
  induction k with
  | zero =>
    intro a h0 h1 h3 h2
    refine ⟨a, ?_, Or.inl ⟨fun i i0 i1 i2 => h2 i i0 (by omega) i2, fun _ => by unfold mi; split <;> omega, h1⟩⟩
    rw [e150_2, r_mn hs, Option.bind_some]
    simp only [zpush_s]
    rw [e150_8, hn, if_pos (by omega)]
  | succ k ih =>
    intro a h0 h1 h3 h2
    have st := e150_2 (I := I) (b := b) (S := S) (a1 := s) (a2 := p) (a3 := a)
    rw [r_mn hs, Option.bind_some] at st
    simp only [zpush_s] at st
    rw [e150_8, hn, if_neg (by omega), wr_id (a := p + a) (by omega) (by omega)] at st
    by_cases q : I 87 3 ≤ p + a
    · rw [if_pos q] at st
      exact ⟨a, st, Or.inl ⟨fun i i0 i1 i2 => h2 i i0 (by omega) i2, fun _ => by unfold mi; split <;> omega, h1⟩⟩
    · rw [if_neg q, if_pos (by omega), r_lv hs (by omega), Option.bind_some] at st
      simp only [zpush_s] at st
      rw [e150_35] at st
      by_cases e : I 90 (p + a) = lv (I 88) s a
      · rw [if_pos e, wr_id (a := a + 1) (by omega) (by omega)] at st
        obtain ⟨t, t1, t2⟩ := ih (a + 1) (by omega) (by omega) (Or.inr (by omega)) (fun i i0 i1 i2 => by
          by_cases ei : i = a
          · rw [ei]; exact e
          · exact h2 i i0 (by omega) i2)
        exact ⟨t, st.trans t1, t2⟩
      · rw [if_neg e] at st
        exact ⟨-4, st, Or.inr ⟨rfl, fun z => e (z a h1 (by omega) (by omega))⟩⟩
theorem r_alike {s p n : Int} (hs : 0 ≤ s ∧ s < 8) (hn : mn (I 88) s = n) (hn1 : 1 ≤ n ∧ n ≤ 16) (hp : 0 ≤ p ∧ p ≤ I 87 3) (hm : I 87 3 ≤ 128) : ∃ t, zrun 150 [vR 87, vI s, vI p] (I, zRs b, 103, S) = some (some (vI t), (I, zRs b, 103, S)) ∧ ((fit (I 90) (I 87 3) p (lv (I 88) s) n ∧ t = mi n (I 87 3 - p) ∧ 0 ≤ t) ∨ (t = -4 ∧ ¬ fit (I 90) (I 87 3) p (lv (I 88) s) n)) := by
  obtain ⟨t, t1, t2⟩ := r_alikeL (I := I) (b := b) (S := S) hs hn hn1 (p := p) (by omega) hm n.toNat 0 (by omega) (by omega) (Or.inl (by omega)) (fun i i0 i1 _ => by omega)
  refine ⟨t, by rw [run150, e150_0, t1], ?_⟩
  rcases t2 with ⟨a, b, c⟩ | z
  · exact Or.inl ⟨a, b hp.2, c⟩
  · exact Or.inr z
theorem r_pool1 {s n : Int} (hs : 0 ≤ s ∧ s < 8) (hn : mn (I 88) s = n) (hn1 : 1 ≤ n ∧ n ≤ 16) (hm : 0 ≤ I 87 3 ∧ I 87 3 ≤ 128) : ∀ (k : Nat) (a : Int), a + k = I 87 3 → 0 ≤ a → (∀ q, 0 ≤ q → q < a → ¬ fit (I 90) (I 87 3) q (lv (I 88) s) n) → ∃ p, fpl (I 90) (I 87 3) (lv (I 88) s) n p ∧ zX 151 40 [vR 87, vI s, vI a, none] [] (I, zRs b, 103, S) = zX 151 86 [vR 87, vI s, vI p, vI (I 87 3 - p)] [] (sI (sI I 91 s p) 92 s 0, zRs b, 103, S) := by
  intro k
  induction k with
  | zero =>
    intro a h0 h1 h2
    have ea : a = I 87 3 := by omega
    refine ⟨a, ⟨h1, by omega, fun i i0 i1 i2 => by omega, h2⟩, ?_⟩
    rw [e151_40, if_pos (by omega), if_pos hs, if_pos hs, wr_id (by omega) (by omega)]
  | succ k ih =>
    intro a h0 h1 h2
    obtain ⟨t, t1, t2⟩ := r_alike (I := I) (b := b) (S := S) hs hn hn1 (p := a) (by omega) hm.2
    have st := e151_40 (I := I) (b := b) (S := S) (a1 := s) (a2 := a)
    rw [if_neg (by omega), t1, Option.bind_some] at st
    simp only [zpush_s] at st
    rw [e151_54] at st
    rcases t2 with ⟨f1, f2, f3⟩ | ⟨f1, f2⟩
    · rw [if_neg (by omega), if_pos hs, if_pos hs, wr_id (a := I 87 3 - a) (by omega) (by omega)] at st
      exact ⟨a, ⟨h1, by omega, f1, h2⟩, st⟩
    · rw [if_pos f1, wr_id (a := a + 1) (by omega) (by omega)] at st
      obtain ⟨p, p1, p2⟩ := ih (a + 1) (by omega) (by omega) (fun q q0 q1 => by
        by_cases e : q = a
        · rw [e]; exact f2
        · exact h2 q q0 (by omega))
      exact ⟨p, p1, st.trans p2⟩
theorem r_pool2 {s n : Int} (hs : 0 ≤ s ∧ s < 8) (hn : mn (I 88) s = n) (hn1 : 1 ≤ n ∧ n ≤ 16) (hm : 0 ≤ I 87 3 ∧ I 87 3 ≤ 128) : ∀ (k : Nat) (a : Int), a + k = I 87 3 → 0 ≤ a → (∀ q, 0 ≤ q → q < a → ¬ (fit (I 90) (I 87 3) q (lv (I 88) s) n ∧ q + n ≤ I 87 3)) → ∃ p, fpl (I 90) (I 87 3) (lv (I 88) s) n p ∧ zX 151 2 [vR 87, vI s, vI a, none] [] (I, zRs b, 103, S) = zX 151 86 [vR 87, vI s, vI p, vI (I 87 3 - p)] [] (sI (sI I 91 s p) 92 s 0, zRs b, 103, S) := by
  intro k
  induction k with
  | zero =>
    intro a h0 h1 h2
    obtain ⟨p, p1, p2⟩ := r_pool1 (I := I) (b := b) (S := S) hs hn hn1 hm (I 87 3).toNat 0 (by omega) (by omega) (fun q q0 q1 => by omega)
    refine ⟨p, p1, ?_⟩
    rw [e151_2, if_pos (by omega), if_pos (by omega), p2]
  | succ k ih =>
    intro a h0 h1 h2
    obtain ⟨t, t1, t2⟩ := r_alike (I := I) (b := b) (S := S) hs hn hn1 (p := a) (by omega) hm.2
    have st := e151_2 (I := I) (b := b) (S := S) (a1 := s) (a2 := a)
    rw [if_neg (by omega), t1, Option.bind_some] at st
    simp only [zpush_s] at st
    rw [e151_16, r_mn hs, Option.bind_some] at st
    simp only [zpush_s] at st
    rw [e151_21, hn, if_neg (show ¬ a = I 87 3 by omega)] at st
    have mb := mi_b (a := n) (c := I 87 3 - a)
    by_cases et : t = n
    · rw [if_pos et, if_pos hs, if_pos hs, wr_id (a := I 87 3 - a) (by omega) (by omega)] at st
      rcases t2 with ⟨f1, f2, f3⟩ | ⟨f1, f2⟩
      · exact ⟨a, ⟨h1, by omega, f1, fun q q0 q1 z => h2 q q0 q1 ⟨z, by omega⟩⟩, st⟩
      · omega
    · rw [if_neg et, wr_id (a := a + 1) (by omega) (by omega)] at st
      obtain ⟨p, p1, p2⟩ := ih (a + 1) (by omega) (by omega) (fun q q0 q1 z => by
        by_cases e : q = a
        · rw [e] at z
          rcases t2 with ⟨f1, f2, f3⟩ | ⟨f1, f2⟩
          · unfold mi at f2; split at f2 <;> omega
          · exact f2 z.1
        · exact h2 q q0 (by omega) z)
      exact ⟨p, p1, st.trans p2⟩
theorem r_poolA {s n p : Int} (hs : 0 ≤ s ∧ s < 8) (hn1 : 1 ≤ n ∧ n ≤ 16) : ∀ (k : Nat) (I : Nat → Int → Int) (a : Int), a + k = n → 0 ≤ a → mn (I 88) s = n → I 87 3 = p + a → 0 ≤ p → p + n ≤ 128 → 0 ≤ I 92 s → I 92 s ≤ 16 → I 92 s + k ≤ 16 → ∃ I', zX 151 86 [vR 87, vI s, vI p, vI a] [] (I, zRs b, 103, S) = some (none, (I', zRs b, 103, S)) ∧ I' 87 3 = p + n ∧ (∀ j, I' 90 j = if p + a ≤ j ∧ j < p + n then lv (I 88) s (j - p) else I 90 j) ∧ I' 92 = up (I 92) s (I 92 s + k) ∧ (∀ q, q ≠ 87 → q ≠ 90 → q ≠ 92 → I' q = I q) ∧ ∀ j, j ≠ 3 → I' 87 j = I 87 j := by
  intro k
  induction k with
  | zero =>
    intro I a h0 h1 e1 e2 h2 h3 h4 h5 h6
    refine ⟨I, ?_, by omega, fun j => by rw [if_neg (by omega)], ?_, fun _ _ _ _ => rfl, fun _ _ => rfl⟩
    · rw [e151_86, r_mn hs, Option.bind_some]
      simp only [zpush_s]
      rw [e151_92, e1, if_pos (by omega)]
    · rw [show I 92 s + ((0 : Nat) : Int) = I 92 s by omega, up_id]
  | succ k ih =>
    intro I a h0 h1 e1 e2 h2 h3 h4 h5 h6
    have st := e151_86 (I := I) (b := b) (S := S) (a1 := s) (a2 := p) (a3 := a)
    rw [r_mn hs, Option.bind_some] at st
    simp only [zpush_s] at st
    rw [e151_92, e1, if_neg (by omega), r_lv hs (by omega), Option.bind_some] at st
    simp only [zpush_s] at st
    rw [e151_109, e2, if_pos (by omega), if_pos hs, if_pos hs, wr_id (a := a + 1) (by omega) (by omega), wr_id (a := p + a + 1) (by omega) (by omega), wr_id (a := I 92 s + 1) (by omega) (by omega)] at st
    generalize hJ : sI (sI (sI I 90 (p + a) (lv (I 88) s a)) 87 3 (p + a + 1)) 92 s (I 92 s + 1) = J at st
    have j90 : ∀ j, J 90 j = if j = p + a then lv (I 88) s a else I 90 j := fun j => by
      rw [← hJ, sI_p (by decide), sI_p (by decide)]
      split
      · rename_i e; rw [e, sI_s]
      · rename_i e; rw [sI_k e]
    have j92 : J 92 = up (I 92) s (I 92 s + 1) := by
      funext j
      rw [← hJ]
      unfold up
      split
      · rename_i e; rw [e, sI_s]
      · rename_i e; rw [sI_k e, sI_p (by decide), sI_p (by decide)]
    have j87 : J 87 3 = p + a + 1 := by rw [← hJ, sI_p (by decide), sI_s]
    have jo : ∀ q, q ≠ 87 → q ≠ 90 → q ≠ 92 → J q = I q := fun q q1 q2 q3 => by funext j; rw [← hJ, sI_p q3, sI_p q1, sI_p q2]
    have j7 : ∀ j, j ≠ 3 → J 87 j = I 87 j := fun j hj => by rw [← hJ, sI_p (by decide), sI_k hj, sI_p (by decide)]
    have j88 := jo 88 (by decide) (by decide) (by decide)
    have j92s : J 92 s = I 92 s + 1 := by rw [j92, up_s]
    obtain ⟨K, k1, k2, k3, k4, k5, k6⟩ := ih J (a + 1) (by omega) (by omega) (by rw [j88]; exact e1) (by omega) h2 h3 (by omega) (by omega) (by omega)
    refine ⟨K, st.trans k1, k2, fun j => ?_, ?_, fun q q1 q2 q3 => (k5 q q1 q2 q3).trans (jo q q1 q2 q3), fun j hj => (k6 j hj).trans (j7 j hj)⟩
    · rw [k3, j88, j90]
      by_cases c1 : p + (a + 1) ≤ j ∧ j < p + n
      · rw [if_pos c1, if_pos (by omega)]
      · rw [if_neg c1]
        by_cases c2 : j = p + a
        · rw [if_pos c2, if_pos (by omega), c2, show p + a - p = a by omega]
        · rw [if_neg c2, if_neg (by omega)]
    · rw [k4, j92s, j92]
      funext j
      unfold up
      split
      · omega
      · rfl
theorem r_pools {s n : Int} (hs : 0 ≤ s ∧ s < 8) (hn : mn (I 88) s = n) (hn1 : 1 ≤ n ∧ n ≤ 16) (hm : 0 ≤ I 87 3 ∧ I 87 3 + n ≤ 128) : ∃ p c I', fpl (I 90) (I 87 3) (lv (I 88) s) n p ∧ c = n - mi n (I 87 3 - p) ∧ zrun 151 [vR 87, vI s] (I, zRs b, 103, S) = some (none, (I', zRs b, 103, S)) ∧ I' 87 3 = I 87 3 + c ∧ (∀ j, I' 90 j = if I 87 3 ≤ j ∧ j < I 87 3 + c then lv (I 88) s (j - p) else I 90 j) ∧ I' 91 = up (I 91) s p ∧ I' 92 = up (I 92) s c ∧ (∀ q, q ≠ 87 → q ≠ 90 → q ≠ 91 → q ≠ 92 → I' q = I q) ∧ ∀ j, j ≠ 3 → I' 87 j = I 87 j := by
  obtain ⟨p, p1, p2⟩ := r_pool2 (I := I) (b := b) (S := S) hs hn hn1 (by omega) (I 87 3).toNat 0 (by omega) (by omega) (fun q q0 q1 => by omega)
  have q0 := p1.1
  have q1 := p1.2.1
  have mb := mi_b (a := n) (c := I 87 3 - p)
  have st : zrun 151 [vR 87, vI s] (I, zRs b, 103, S) = zX 151 86 [vR 87, vI s, vI p, vI (I 87 3 - p)] [] (sI (sI I 91 s p) 92 s 0, zRs b, 103, S) := by rw [run151, e151_0, p2]
  generalize hA : sI (sI I 91 s p) 92 s 0 = A at st
  have a91 : A 91 = up (I 91) s p := by
    funext j
    rw [← hA, sI_p (by decide)]
    unfold up
    split
    · rename_i e; rw [e, sI_s]
    · rename_i e; rw [sI_k e]
  have a92 : A 92 = up (I 92) s 0 := by
    funext j
    rw [← hA]
    unfold up
    split
    · rename_i e; rw [e, sI_s]
    · rename_i e; rw [sI_k e, sI_p (by decide)]
  have ao : ∀ q, q ≠ 91 → q ≠ 92 → A q = I q := fun q h1 h2 => by funext j; rw [← hA, sI_p h2, sI_p h1]
  have a87 := ao 87 (by decide) (by decide)
  have a88 := ao 88 (by decide) (by decide)
  have a90 := ao 90 (by decide) (by decide)
  have a92s : A 92 s = 0 := by rw [a92, up_s]
  by_cases hf : n ≤ I 87 3 - p
  · have em : mi n (I 87 3 - p) = n := by unfold mi; split <;> omega
    refine ⟨p, 0, A, p1, by omega, ?_, by rw [a87]; omega, fun j => by rw [if_neg (by omega), a90], a91, a92, fun q h1 h2 h3 h4 => ao q h3 h4, fun j _ => by rw [a87]⟩
    rw [st, e151_86, r_mn hs, Option.bind_some]
    simp only [zpush_s]
    rw [e151_92, a88, hn, if_pos hf]
  · have em : mi n (I 87 3 - p) = I 87 3 - p := by unfold mi; split <;> omega
    obtain ⟨K, k1, k2, k3, k4, k5, k6⟩ := r_poolA (b := b) (S := S) (p := p) hs hn1 (n - (I 87 3 - p)).toNat A (I 87 3 - p) (by omega) (by omega) (by rw [a88]; exact hn) (by rw [a87]; omega) q0 (by omega) (by omega) (by omega) (by omega)
    refine ⟨p, n - (I 87 3 - p), K, p1, by omega, st.trans k1, by omega, fun j => ?_, ?_, ?_, fun q h1 h2 h3 h4 => (k5 q h1 h2 h4).trans (ao q h3 h4), fun j hj => by rw [k6 j hj, a87]⟩
    · rw [k3, a88, a90, show p + (I 87 3 - p) = I 87 3 by omega, show I 87 3 + (n - (I 87 3 - p)) = p + n by omega]
    · rw [k5 91 (by decide) (by decide) (by decide), a91]
    · rw [k4, a92s, a92]
      funext j
      unfold up
      split
      · omega
      · rfl
end A54
