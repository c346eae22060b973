/-! ===== the pool: the class's, the reference's ===== -/
section A53
variable {I : Nat → Int → Int} {b : Bool} {S : Nat} {g r : Nat}
theorem c_fitL (hg : isProg g) (hr : isRow r) {p n : Int} (hp : 0 ≤ p ∧ p ≤ 128) (hn : n ≤ 16) (hm : I (g + 1) 4 ≤ 128) : ∀ (k : Nat) (a : Int), a + k = n → 0 ≤ a → (∀ i, 0 ≤ i → i < a → p + i < I (g + 1) 4 → I (g + 2) (p + i) = I r i) → ∃ t, zX 47 3 [vR (g + 1), vI p, vR r, vI n, vI a] [] (I, zRs b, 103, S) = some (some (vI t), (I, zRs b, 103, S)) ∧ ((t = 1 ∧ fit (I (g + 2)) (I (g + 1) 4) p (I r) n) ∨ (t = 0 ∧ ¬ fit (I (g + 2)) (I (g + 1) 4) p (I r) n)) := by
  intro k
  induction k with
  | zero => intro a h0 h1 h2; exact ⟨1, by rw [e47_3 (isProg_pool hg) hr, if_pos (by omega)], Or.inl ⟨rfl, fun i i0 i1 i2 => h2 i i0 (by omega) i2⟩⟩
  | succ k ih =>
    intro a h0 h1 h2
    have st := e47_3 (I := I) (b := b) (S := S) (a1 := p) (a3 := n) (a4 := a) (isProg_pool hg) hr
    rw [if_neg (by omega), wr_id (a := p + a) (by omega) (by omega), show g + 1 + 1 = g + 2 by omega] at st
    by_cases q : I (g + 1) 4 ≤ p + a
    · rw [if_pos q] at st
      exact ⟨1, st, Or.inl ⟨rfl, fun i i0 i1 i2 => h2 i i0 (by omega) i2⟩⟩
    · rw [if_neg q, if_pos (by omega), if_pos (by omega)] at st
      by_cases e : I (g + 2) (p + a) = I r a
      · rw [if_pos e, wr_id (a := a + 1) (by omega) (by omega)] at st
        obtain ⟨t, t1, t2⟩ := ih (a + 1) (by omega) (by omega) (fun i i0 i1 i2 => by
          by_cases ei : i = a
          · rw [ei]; exact e
          · exact h2 i i0 (by omega) i2)
        exact ⟨t, st.trans t1, t2⟩
      · rw [if_neg e] at st
        exact ⟨0, st, Or.inr ⟨rfl, fun z => e (z a h1 (by omega) (by omega))⟩⟩
theorem c_firstL (hg : isProg g) (hr : isRow r) {n : Int} (hn : n ≤ 16) (hn0 : 0 ≤ n) (hm : 0 ≤ I (g + 1) 4 ∧ I (g + 1) 4 ≤ 128) : ∀ (k : Nat) (a : Int), a + k = I (g + 1) 4 → 0 ≤ a → (∀ q, 0 ≤ q → q < a → ¬ fit (I (g + 2)) (I (g + 1) 4) q (I r) n) → ∃ p, zX 46 2 [vR (g + 1), vR r, vI n, vI a] [] (I, zRs b, 103, S) = some (some (vI p), (I, zRs b, 103, S)) ∧ fpl (I (g + 2)) (I (g + 1) 4) (I r) n p := by
  intro k
  induction k with
  | zero =>
    intro a h0 h1 h2
    refine ⟨I (g + 1) 4, by rw [e46_2 (isProg_pool hg) hr, if_pos (by omega)], hm.1, by omega, fun i i0 i1 i2 => by omega, fun q q0 q1 => h2 q q0 (by omega)⟩
  | succ k ih =>
    intro a h0 h1 h2
    have st := e46_2 (I := I) (b := b) (S := S) (a2 := n) (a3 := a) (isProg_pool hg) hr
    obtain ⟨t, t1, t2⟩ := c_fitL (I := I) (b := b) (S := S) hg hr (p := a) (n := n) (by omega) hn hm.2 n.toNat 0 (by omega) (by omega) (fun i i0 i1 _ => by omega)
    rw [if_neg (by omega), run47, e47_0 (isProg_pool hg) hr, t1, Option.bind_some] at st
    simp only [zpush_s] at st
    rw [e46_17 (isProg_pool hg) hr] at st
    rcases t2 with ⟨t2, t3⟩ | ⟨t2, t3⟩
    · rw [if_neg (by omega)] at st
      exact ⟨a, st, h1, by omega, t3, h2⟩
    · rw [if_pos t2, wr_id (a := a + 1) (by omega) (by omega)] at st
      obtain ⟨p, p1, p2⟩ := ih (a + 1) (by omega) (by omega) (fun q q0 q1 => by
        by_cases e : q = a
        · rw [e]; exact t3
        · exact h2 q q0 (by omega))
      exact ⟨p, st.trans p1, p2⟩
theorem c_addSeg (hg : isProg g) (hr : isRow r) {n m pm : Int} (hn : 1 ≤ n ∧ n ≤ 16) (hm : 0 ≤ m ∧ m < 8) (e5 : I (g + 1) 5 = m) (e4 : I (g + 1) 4 = pm) (hpm : 0 ≤ pm ∧ pm + n ≤ 128) : ∃ p c I', fpl (I (g + 2)) pm (I r) n p ∧ c = n - mi n (pm - p) ∧ zrun 45 [vR (g + 1), vR r, vI n] (I, zRs b, 103, S) = some (none, (I', zRs b, 103, S)) ∧ I' (g + 1) 4 = pm + c ∧ I' (g + 1) 5 = m + 1 ∧ (∀ j, I' (g + 2) j = if pm ≤ j ∧ j < pm + c then I r (j - p) else I (g + 2) j) ∧ I' (g + 3) = up (I (g + 3)) m p ∧ I' (g + 4) = up (I (g + 4)) m n ∧ I' (g + 5) = up (I (g + 5)) m c ∧ ∀ q, q < g + 1 ∨ g + 5 < q → I' q = I q := by
  obtain ⟨p, p1, p2⟩ := c_firstL (I := I) (b := b) (S := S) hg hr (n := n) hn.2 (by omega) (by omega) (I (g + 1) 4).toNat 0 (by omega) (by omega) (fun q q0 q1 => by omega)
  rw [e4] at p2
  have q0 := p2.1
  have q1 := p2.2.1
  have mb := mi_b (a := n) (c := pm - p)
  have gb : g ≤ 90 := by rcases hg with rfl | rfl <;> omega
  have cr := fun (q : Nat) (j : Int) (h : q ≠ g + 2) => show zcpy I r (mi n (pm - p)) (g + 2) pm (n - mi n (pm - p)) q j = I q j by unfold zcpy; rw [if_neg (fun z => h z.1)]
  generalize hc : n - mi n (pm - p) = c at *
  have st : zrun 45 [vR (g + 1), vR r, vI n] (I, zRs b, 103, S) = some (none, (sI (sI (sI (sI (sI (zcpy I r (mi n (pm - p)) (g + 2) pm c) (g + 1) 4 (pm + c)) (g + 3) m p) (g + 4) m n) (g + 5) m c) (g + 1) 5 (m + 1), zRs b, 103, S)) := by
    rw [run45, e45_0 (isProg_pool hg) hr, e5, e4, if_neg (by omega), if_neg (by omega), if_neg (by omega), wr_id (a := pm + n) (by omega) (by omega), if_pos (by omega), run46, e46_0 (isProg_pool hg) hr, p1, Option.bind_some]
    simp only [zpush_s]
    rw [e45_41 (isProg_pool hg) hr, e4, wr_id (a := pm - p) (by omega) (by omega), j_min, Option.bind_some]
    simp only [zpush_s]
    rw [e45_52 (isProg_pool hg) hr]
    have em : (if pm - p < n then pm - p else n) = mi n (pm - p) := rfl
    rw [em, wr_id (a := n - mi n (pm - p)) (by omega) (by omega), hc, e4, show g + 1 + 1 = g + 2 by omega, show g + 1 + 2 = g + 3 by omega, show g + 1 + 3 = g + 4 by omega, show g + 1 + 4 = g + 5 by omega, cr _ _ (by omega), cr _ _ (by omega), e5, e4, if_pos (by omega), if_pos (by omega), if_pos (by omega), if_pos (by omega), wr_id (a := pm + c) (by omega) (by omega), wr_id (a := m + 1) (by omega) (by omega)]
  refine ⟨p, c, _, p2, hc.symm ▸ rfl, st, ?_, sI_s, fun j => ?_, ?_, ?_, ?_, fun q hq => ?_⟩
  · rw [sI_k (by decide), sI_p (by omega), sI_p (by omega), sI_p (by omega), sI_s]
  · rw [sI_p (by omega), sI_p (by omega), sI_p (by omega), sI_p (by omega), sI_p (by omega)]
    unfold zcpy
    by_cases h : pm ≤ j ∧ j < pm + c
    · rw [if_pos ⟨rfl, h⟩, if_pos h, show mi n (pm - p) + (j - pm) = j - p by omega]
    · rw [if_neg (fun z => h z.2), if_neg h]
  · funext j
    rw [sI_p (by omega), sI_p (by omega), sI_p (by omega)]
    unfold up
    split
    · rename_i e; rw [e, sI_s]
    · rename_i e; rw [sI_k e, sI_p (by omega), cr _ _ (by omega)]
  · funext j
    rw [sI_p (by omega), sI_p (by omega)]
    unfold up
    split
    · rename_i e; rw [e, sI_s]
    · rename_i e; rw [sI_k e, sI_p (by omega), sI_p (by omega), cr _ _ (by omega)]
  · funext j
    rw [sI_p (by omega)]
    unfold up
    split
    · rename_i e; rw [e, sI_s]
    · rename_i e; rw [sI_k e, sI_p (by omega), sI_p (by omega), sI_p (by omega), cr _ _ (by omega)]
  · funext j
    rw [sI_p (by omega), sI_p (by omega), sI_p (by omega), sI_p (by omega), sI_p (by omega), cr _ _ (by omega)]
end A53
