/-! ===== drawing ends ===== -/
section A61
variable {N : Int}
theorem d_close (hN : 1 ≤ N ∧ N ≤ 8) : ∀ (n : Nat) (s : Int × (Int → Int) × (Int → Int) × List Int), dOk N s → 16 ≤ s.2.1 1 → s.2.2.2.length ≤ n → ∃ f, dLp N n s = some f ∧ dOk N f ∧ f.2.2.2 = [] ∧ ∀ c, c < 138 → c ≠ 1 → f.2.1 c = s.2.1 c := by
  intro n
  induction n with
  | zero =>
    intro s h h16 hl
    refine ⟨s, ?_, h, List.eq_nil_of_length_eq_zero (by omega), fun _ _ _ => rfl⟩
    show (if _ then some s else none) = _
    rw [if_pos ⟨h16, by omega⟩]
  | succ n ih =>
    intro s h h16 hl
    by_cases hs : 16 ≤ s.2.1 1 ∧ (s.2.2.2.length : Int) ≤ 0
    · refine ⟨s, ?_, h, List.eq_nil_of_length_eq_zero (by omega), fun _ _ _ => rfl⟩
      show (if _ then some s else _) = _
      rw [if_pos hs]
    · have stp := d_step hN h (Or.inr (by omega))
      have e : (dSt N s).2.1 1 = s.2.1 1 + 1 ∧ (dSt N s).2.2.2.length + 1 = s.2.2.2.length := by
        obtain ⟨x, D, su, st⟩ := s
        simp only at h16 hs
        have w : dWay x D = 7 := by unfold dWay; rw [if_neg (by omega)]
        unfold dSt
        simp only
        rw [w, if_neg (by decide), if_neg (by decide), if_neg (by decide)]
        cases st with
        | nil => exact absurd ⟨h16, by rw [List.length_nil]; decide⟩ hs
        | cons o st =>
          have om := lvl_mem _ _ h.1.2.2.2.2.2.2.2 o List.mem_cons_self
          exact ⟨(en_f (D := D) (d := st.length) (by omega) ⟨om.1, om.2.1⟩).2.1, rfl⟩
      obtain ⟨f, f1, f2, f3, f4⟩ := ih (dSt N s) stp.1 (by omega) (by omega)
      refine ⟨f, ?_, f2, f3, fun c h1 h2 => (f4 c h1 h2).trans (stp.2 c h1 h2)⟩
      show (if _ then some s else dLp N n (dSt N s)) = _
      rw [if_neg hs, f1]
theorem d_prog {s : Int × (Int → Int) × (Int → Int) × List Int} (h : dOk N s) (h16 : s.2.1 1 < 16) : s.2.1 1 + 1 ≤ (dSt N s).2.1 1 ∨ ((dSt N s).2.1 = s.2.1 ∧ (dSt N s).1 = nS s.1 ∧ ¬ gT (nS s.1) % 8 < 4) := by
  obtain ⟨x, D, su, st⟩ := s
  simp only at h16
  have hD := h.1.2.1
  simp only at hD
  have w : dWay x D = gT (nS x) % 8 := by unfold dWay; rw [if_pos h16]
  unfold dSt
  simp only
  rw [w]
  by_cases c1 : gT (nS x) % 8 < 3
  · rw [if_pos c1]; left; simp only; rw [(ad_c hD.1).2.1]; omega
  · rw [if_neg c1]
    by_cases c2 : gT (nS x) % 8 = 3
    · rw [if_pos c2]; left; simp only; rw [(ad_c hD.1).2.1]; omega
    · rw [if_neg c2]
      by_cases c3 : gT (nS x) % 8 < 6
      · rw [if_pos c3]
        by_cases c4 : (st.length : Int) < 4
        · rw [if_pos c4]; left
          have e := fun k v => (ad_c (D := D) (k := k) (v := v) (p := -4) (d := st.length) hD.1).2.1
          simp only
          rw [(ad_c (by rw [e]; omega)).2.1, e]; omega
        · rw [if_neg c4]; right; exact ⟨rfl, rfl, by omega⟩
      · rw [if_neg c3]
        cases st with
        | nil => right; exact ⟨rfl, rfl, by omega⟩
        | cons o st =>
          left
          have om := lvl_mem _ _ h.1.2.2.2.2.2.2.2 o List.mem_cons_self
          simp only
          rw [(en_f (D := D) (d := st.length) hD.1 ⟨om.1, om.2.1⟩).2.1]; omega
theorem d_run (hN : 1 ≤ N ∧ N ≤ 8) : ∀ (r c n : Nat) (s : Int × (Int → Int) × (Int → Int) × List Int), dOk N s → s.2.1 1 < 16 → 16 - s.2.1 1 ≤ r → chk c (s.1 % 524288).toNat = true → 21 * r + c ≤ n + 16 → ∃ f, dLp N n s = some f ∧ dOk N f ∧ f.2.2.2 = [] ∧ ∀ c, c < 138 → c ≠ 1 → f.2.1 c = s.2.1 c := by
  intro r
  induction r with
  | zero => intro c n s h h1 h2; omega
  | succ r ihr =>
    intro c
    induction c with
    | zero => intro n s h h1 h2 h3; exact absurd h3 (by show ¬ (false = true); decide)
    | succ c ihc =>
      intro n s h h1 h2 h3 h4
      obtain ⟨m, rfl⟩ : ∃ m, n = m + 1 := ⟨n - 1, by omega⟩
      have st := d_step hN h (Or.inl h1)
      have key : ∃ f, dLp N m (dSt N s) = some f ∧ dOk N f ∧ f.2.2.2 = [] ∧ ∀ c, c < 138 → c ≠ 1 → f.2.1 c = (dSt N s).2.1 c := by
        rcases d_prog h h1 with z | ⟨z1, z2, z3⟩
        · by_cases q : (dSt N s).2.1 1 < 16
          · exact ihr 20 m _ st.1 q (by omega) (chk_all (by omega)) (by omega)
          · exact d_close hN m _ st.1 (by omega) (by have := st.1.1.2.2.1; omega)
        · refine ihc m _ st.1 (by rw [z1]; exact h1) (by rw [z1]; exact h2) ?_ (by omega)
          rw [z2, nS_mod]
          rw [gT_8, nS_mod] at z3
          have h3' : (Nat.blt (((s.1 % 524288).toNat * 1103515245 + 12345) % 524288) 262144 || chk c (((s.1 % 524288).toNat * 1103515245 + 12345) % 524288)) = true := h3
          generalize ((s.1 % 524288).toNat * 1103515245 + 12345) % 524288 = y at *
          rw [Bool.or_eq_true] at h3'
          rcases h3' with w | w
          · exact absurd (Nat.blt_eq.mp w) z3
          · exact w
      obtain ⟨f, f1, f2, f3, f4⟩ := key
      refine ⟨f, ?_, f2, f3, fun c h1 h2 => (f4 c h1 h2).trans (st.2 c h1 h2)⟩
      show (if _ then some s else dLp N m (dSt N s)) = _
      rw [if_neg (by omega), f1]
end A61
/-! ===== the class draws items ===== -/
def dR (I : Nat → Int → Int) (g : Nat) (N : Int) (s : Int × (Int → Int) × (Int → Int) × List Int) : Prop := I 6 2 = s.1 ∧ I 6 1 = N ∧ cI I g s.2.1 s.2.2.1 s.2.2.2 ∧ I (g + 1) 5 = N ∧ ∀ v, 0 ≤ v → v < N → I (g + 4) v = mn s.2.1 v
def frD (g : Nat) (I I' : Nat → Int → Int) : Prop := ∀ q, q ≠ 6 → (q < g ∨ (g < q ∧ q < g + 6) ∨ g + 12 < q) → I' q = I q
section B61
variable {I I' : Nat → Int → Int} {b : Bool} {S : Nat} {g : Nat} {D su : Int → Int} {st : List Int} {N x : Int}
theorem stk_fr : ∀ (st : List Int) (x : Int), I' (g + 12) = I (g + 12) → I' (g + 11) = I (g + 11) → stk I g su st x → stk I' g su st x := by
  intro st
  induction st with
  | nil => intro x h1 h2 h; show I' (g + 12) 0 = _; rw [h1]; exact h
  | cons o st ih => intro x h1 h2 h; exact ⟨by rw [h1]; exact h.1, by rw [h2]; exact h.2.1, ih o h1 h2 h.2.2⟩
theorem cI_c (h : ∀ q, g ≤ q → q ≤ g + 12 → I' q = I q) (hc : cI I g D su st) : cI I' g D su st := by
  obtain ⟨h1, h2, h3, h4, h5⟩ := hc
  refine ⟨by rw [h g (by omega) (by omega)]; exact h1, by rw [h g (by omega) (by omega)]; exact h2, fun i i0 i1 => ?_, stk_fr st _ (h _ (by omega) (by omega)) (h _ (by omega) (by omega)) h4, fun o o0 o1 ok os => by rw [h _ (by omega) (by omega)]; exact h5 o o0 o1 ok os⟩
  rw [h (g + 6) (by omega) (by omega), h (g + 7) (by omega) (by omega), h (g + 8) (by omega) (by omega), h (g + 9) (by omega) (by omega)]
  exact h3 i i0 i1
theorem isP_b (hg : isProg g) : g = 25 ∨ g = 38 := hg
theorem c_dItem {s : Int × (Int → Int) × (Int → Int) × List Int} {A : Nat → Int → Int} (hg : isProg g) (hN : 1 ≤ N ∧ N ≤ 8) (h : dOk N s) (ha2 : A 6 2 = nS s.1) (ha1 : A 6 1 = N) (hc : cI A g s.2.1 s.2.2.1 s.2.2.2) (h5 : A (g + 1) 5 = N) (h4 : ∀ v, 0 ≤ v → v < N → A (g + 4) v = mn s.2.1 v) : ∃ I', zrun 18 [vR 6, vR g, vI (dWay s.1 s.2.1)] (A, zRs b, 103, S) = some (none, (I', zRs b, 103, S)) ∧ I' 6 2 = (dSt N s).1 ∧ I' 6 1 = N ∧ cI I' g (dSt N s).2.1 (dSt N s).2.2.1 (dSt N s).2.2.2 ∧ frD g A I' := by
  obtain ⟨x, D, su, st⟩ := s
  obtain ⟨hb, h0, hp, hl, hz⟩ := h
  simp only at hb h0 hp hl hz ha2 ha1 hc h4 ⊢
  have gg := isP_b hg
  have hD := hb.2.1
  have hl4 := hb.2.2.1
  have hn : D 1 < 24 := by omega
  have w8 : 0 ≤ gT (nS x) % 8 ∧ gT (nS x) % 8 < 8 := by have := gT_b (nS x); omega
  have vN : ∀ y, 0 ≤ gT y % N ∧ gT y % N < D 0 := fun y => by
    rw [h0]; exact ⟨Int.emod_nonneg _ (by omega), Int.emod_lt_of_pos _ (by omega)⟩
  unfold dSt
  simp only
  by_cases c1 : dWay x D < 3
  · rw [if_pos c1]
    have w0 : 0 ≤ dWay x D := by unfold dWay; split <;> omega
    generalize hB : sI A 6 2 (nS (nS x)) = B
    have bo : ∀ q, q ≠ 6 → B q = A q := fun q hq => by rw [← hB, sI_o hq]
    have v := vN (nS (nS x))
    obtain ⟨J, j1, j2, j3⟩ := c_play (I := B) (b := b) (S := S) (v := gT (nS (nS x)) % N) hg hb (cI_c (fun q q1 q2 => bo q (by omega)) hc) hn v (by rw [bo _ (by omega), h0]; exact h5) (by rw [bo _ (by omega)]; exact h4 _ v.1 (by omega))
    refine ⟨J, ?_, ?_, ?_, j2, fun q q1 q2 => (j3 q q2).trans (bo q q1)⟩
    · have e : zX 18 0 [vR 6, vR g, vI (dWay x D)] [] (A, zRs b, 103, S) = (zrun 15 [vR 6, vI (A 6 1)] (A, zRs b, 103, S)).bind (fun q => zX 18 49 [vR 6, vR g, vI (dWay x D)] (zpush q.1 [vR g]) q.2) := by
        rw [e18_0 hg]
        by_cases z0 : dWay x D = 0
        · rw [if_pos z0]
        · rw [if_neg z0]
          by_cases z1 : dWay x D = 1
          · rw [if_pos z1]
          · rw [if_neg z1, if_pos (by omega)]
      rw [run18, e, ha1, c_got (by omega), ha2, hB, Option.bind_some]
      simp only [zpush_s]
      rw [e18_49 hg, j1, Option.bind_some]
      simp only [zpush_n]
      rw [e18_52 hg, e18_90 hg]
    · rw [j3 6 (by omega), ← hB, sI_s]
    · rw [j3 6 (by omega), ← hB, sI_k (by decide)]; exact ha1
  · rw [if_neg c1]
    by_cases c2 : dWay x D = 3
    · rw [if_pos c2]
      generalize hB : sI A 6 2 (nS (nS x)) = B
      have bo : ∀ q, q ≠ 6 → B q = A q := fun q hq => by rw [← hB, sI_o hq]
      obtain ⟨J, j1, j2, j3⟩ := c_mark (I := B) (b := b) (S := S) (v := gT (nS (nS x)) % 10) hg hb (cI_c (fun q q1 q2 => bo q (by omega)) hc) hn
      refine ⟨J, ?_, ?_, ?_, j2, fun q q1 q2 => (j3 q q2).trans (bo q q1)⟩
      · rw [run18, c2, e18_0 hg, if_neg (by decide), if_neg (by decide), if_neg (by decide), if_pos rfl, c_got (by omega), ha2, hB, Option.bind_some]
        simp only [zpush_s]
        rw [e18_62 hg, j1, Option.bind_some]
        simp only [zpush_n]
        rw [e18_65 hg, e18_90 hg]
      · rw [j3 6 (by omega), ← hB, sI_s]
      · rw [j3 6 (by omega), ← hB, sI_k (by decide)]; exact ha1
    · rw [if_neg c2]
      by_cases c3 : dWay x D < 6
      · rw [if_pos c3]
        have d16 : D 1 < 16 := by unfold dWay at c3; split at c3 <;> omega
        have w45 : dWay x D = 4 ∨ dWay x D = 5 := by omega
        have top : ∀ r, zrun 19 [vR 6, vR g, vI (if dWay x D = 4 then 2 else 3)] (A, zRs b, 103, S) = some (none, (r, zRs b, 103, S)) → zrun 18 [vR 6, vR g, vI (dWay x D)] (A, zRs b, 103, S) = some (none, (r, zRs b, 103, S)) := fun r hr => by
          rw [run18, e18_0 hg, if_neg (by omega), if_neg (by omega), if_neg (by omega), if_neg (by omega)]
          rcases w45 with z | z
          · rw [if_pos z] at hr
            rw [if_pos z, if_pos z, hr, Option.bind_some]
            simp only [zpush_n]
            rw [e18_83 hg, e18_90 hg]
          · rw [if_neg (by omega)] at hr
            rw [if_neg (by omega), if_pos z, if_neg (by omega), hr, Option.bind_some]
            simp only [zpush_n]
            rw [e18_83 hg, e18_90 hg]
        by_cases c4 : (st.length : Int) < 4
        · rw [if_pos c4]
          generalize hB : sI A 6 2 (nS (nS x)) = B
          have bo : ∀ q, q ≠ 6 → B q = A q := fun q hq => by rw [← hB, sI_o hq]
          have b1 : B 6 1 = N := by rw [← hB, sI_k (by decide)]; exact ha1
          have b2 : B 6 2 = nS (nS x) := by rw [← hB, sI_s]
          have kv : ((if dWay x D = 4 then (2 : Int) else 3) = 2 ∧ 1 ≤ (if dWay x D = 4 then gT (nS (nS x)) % 3 + 1 else gT (nS (nS x)) % 4) ∧ (if dWay x D = 4 then gT (nS (nS x)) % 3 + 1 else gT (nS (nS x)) % 4) ≤ 9) ∨ ((if dWay x D = 4 then (2 : Int) else 3) = 3 ∧ 0 ≤ (if dWay x D = 4 then gT (nS (nS x)) % 3 + 1 else gT (nS (nS x)) % 4) ∧ (if dWay x D = 4 then gT (nS (nS x)) % 3 + 1 else gT (nS (nS x)) % 4) ≤ 3) := by
            have := gT_b (nS (nS x))
            split <;> omega
          have arg : zrun 19 [vR 6, vR g, vI (if dWay x D = 4 then 2 else 3)] (A, zRs b, 103, S) = zX 19 29 [vR 6, vR g, vI (if dWay x D = 4 then 2 else 3)] [vI (if dWay x D = 4 then gT (nS (nS x)) % 3 + 1 else gT (nS (nS x)) % 4), vI (if dWay x D = 4 then 2 else 3), vR g] (B, zRs b, 103, S) := by
            rw [run19, e19_0 hg, c_isDeep hg, hc.2.1, if_pos c4, Option.bind_some]
            simp only [zpush_s]
            rw [e19_4 hg, if_pos rfl]
            rcases w45 with z | z
            · rw [if_pos z, if_pos z, if_pos rfl, c_got (by omega), ha2, hB, Option.bind_some]
              simp only [zpush_s]
              rw [e19_19 hg, wr_id (by have := gT_b (nS (nS x)); omega) (by have := gT_b (nS (nS x)); omega)]
            · simp only [if_neg (show ¬ dWay x D = 4 by omega)]
              rw [if_neg (by decide), c_got (by omega), ha2, hB, Option.bind_some]
              simp only [zpush_s]
          have bs := b_begin (d := st.length) hb hn (by omega) kv
          obtain ⟨a1, a2, _, _, _, _, _, a8⟩ := ad_c (D := D) (k := if dWay x D = 4 then (2 : Int) else 3) (v := if dWay x D = 4 then gT (nS (nS x)) % 3 + 1 else gT (nS (nS x)) % 4) (p := -4) (d := st.length) hD.1
          obtain ⟨J, j1, j2, j3⟩ := c_begins (I := B) (b := b) (S := S) (k := if dWay x D = 4 then (2 : Int) else 3) (v := if dWay x D = 4 then gT (nS (nS x)) % 3 + 1 else gT (nS (nS x)) % 4) hg hb (cI_c (fun q q1 q2 => bo q (by omega)) hc) hn (by omega) (by split <;> omega)
          generalize hE : adI D (if dWay x D = 4 then (2 : Int) else 3) (if dWay x D = 4 then gT (nS (nS x)) % 3 + 1 else gT (nS (nS x)) % 4) (-4) st.length = E at *
          have e0 : E 0 = D 0 := a8 0 (by decide) (by decide)
          have v := vN (nS (nS (nS x)))
          have em : mn E (gT (nS (nS (nS x))) % N) = mn D (gT (nS (nS (nS x))) % N) := by unfold mn; rw [a8 _ (by omega) (by omega)]
          generalize hC : sI J 6 2 (nS (nS (nS x))) = C
          have co : ∀ q, q ≠ 6 → C q = J q := fun q hq => by rw [← hC, sI_o hq]
          have j61 : J 6 1 = N := by rw [j3 6 (by omega)]; exact b1
          have j62 : J 6 2 = nS (nS x) := by rw [j3 6 (by omega)]; exact b2
          obtain ⟨K, k1, k2, k3⟩ := c_play (I := C) (b := b) (S := S) (v := gT (nS (nS (nS x))) % N) hg bs (cI_c (fun q q1 q2 => co q (by omega)) j2) (by omega) (by rw [e0]; exact v) (by rw [co _ (by omega), j3 _ (by omega), bo _ (by omega), e0, h0]; exact h5) (by rw [co _ (by omega), j3 _ (by omega), bo _ (by omega), em]; exact h4 _ v.1 (by omega))
          rw [a2, up_s, em, show D 1 + 1 + 1 = D 1 + 2 by omega, show (((D 1 :: st).length : Nat) : Int) = st.length + 1 by rw [List.length_cons]; omega] at k2
          refine ⟨K, top K ?_, ?_, ?_, k2, fun q q1 q2 => (k3 q q2).trans ((co q q1).trans ((j3 q q2).trans (bo q q1)))⟩
          · rw [arg, e19_29 hg, j1, Option.bind_some]
            simp only [zpush_n]
            rw [e19_32 hg, j61, c_got (by omega), j62, hC, Option.bind_some]
            simp only [zpush_s]
            rw [e19_41 hg, k1, Option.bind_some]
            simp only [zpush_n]
            rw [e19_44 hg]
          · rw [k3 6 (by omega), ← hC, sI_s]
          · rw [k3 6 (by omega), ← hC, sI_k (by decide)]; exact j61
        · rw [if_neg c4]
          refine ⟨A, top A ?_, ha2, ha1, hc, fun _ _ _ => rfl⟩
          rw [run19, e19_0 hg, c_isDeep hg, hc.2.1, if_neg c4, Option.bind_some]
          simp only [zpush_s]
          rw [e19_4 hg, if_neg (by decide), e19_44 hg]
      · rw [if_neg c3]
        have top : ∀ r, zrun 59 [vR g] (A, zRs b, 103, S) = some (none, (r, zRs b, 103, S)) → zrun 18 [vR 6, vR g, vI (dWay x D)] (A, zRs b, 103, S) = some (none, (r, zRs b, 103, S)) := fun r hr => by
          rw [run18, e18_0 hg, if_neg (by omega), if_neg (by omega), if_neg (by omega), if_neg (by omega), if_neg (by omega), if_neg (by omega), hr, Option.bind_some]
          simp only [zpush_n]
          rw [e18_90 hg]
        cases st with
        | nil =>
          refine ⟨A, top A ?_, ha2, ha1, hc, fun _ _ _ => rfl⟩
          rw [run59, e59_0 hg, c_isFull hg, hc.1, if_pos hn, Option.bind_some]
          simp only [zpush_s]
          rw [e59_4 hg, if_pos rfl, hc.2.1, if_neg (by rw [List.length_nil]; decide)]
        | cons o st =>
          obtain ⟨J, j1, j2, j3⟩ := c_ends (I := A) (b := b) (S := S) hg hb hc hn hp.1
          exact ⟨J, top J j1, (by rw [j3 6 (by omega)]; exact ha2), (by rw [j3 6 (by omega)]; exact ha1), j2, fun q _ q2 => j3 q q2⟩
theorem c_dLoop (hg : isProg g) (hN : 1 ≤ N ∧ N ≤ 8) {a2 a3 : Int} {f : Int × (Int → Int) × (Int → Int) × List Int} : ∀ (n : Nat) (s : Int × (Int → Int) × (Int → Int) × List Int) (k : Int) (w : zV) (I : Nat → Int → Int), dOk N s → dR I g N s → dLp N n s = some f → 0 ≤ k → k + n < 1000000 → ∃ I', zX 14 25 [vR 6, vR g, vI a2, vI a3, vI k, w] [] (I, zRs b, 103, S) = some (none, (I', zRs b, 103, S)) ∧ dR I' g N f ∧ frD g I I' := by
  have gg := isP_b hg
  have enough : ∀ I : Nat → Int → Int, zrun 17 [vR g] (I, zRs b, 103, S) = some (some (vI (if I g 6 < 16 then 0 else 1)), (I, zRs b, 103, S)) := fun I => by
    rw [run17, e17_0 hg]; split <;> rfl
  have fin : ∀ (s : Int × (Int → Int) × (Int → Int) × List Int) (k : Int) (w : zV) (I : Nat → Int → Int), dR I g N s → k < 1000000 → 16 ≤ s.2.1 1 ∧ (s.2.2.2.length : Int) ≤ 0 → zX 14 25 [vR 6, vR g, vI a2, vI a3, vI k, w] [] (I, zRs b, 103, S) = some (none, (I, zRs b, 103, S)) := fun s k w I hr hk hs => by
    rw [e14_25 hg, if_neg (by omega), enough, hr.2.2.1.1, if_neg (by omega), Option.bind_some]
    simp only [zpush_s]
    rw [e14_36 hg, if_neg (by decide), hr.2.2.1.2.1, if_pos hs.2]
  intro n
  induction n with
  | zero =>
    intro s k w I h hr hl h0 h1
    have hl' : (if 16 ≤ s.2.1 1 ∧ (s.2.2.2.length : Int) ≤ 0 then some s else none) = some f := hl
    split at hl'
    · rename_i hs
      cases hl'
      exact ⟨I, fin _ k w I hr (by omega) hs, hr, fun _ _ _ => rfl⟩
    · cases hl'
  | succ n ih =>
    intro s k w I h hr hl h0 h1
    have hl' : (if 16 ≤ s.2.1 1 ∧ (s.2.2.2.length : Int) ≤ 0 then some s else dLp N n (dSt N s)) = some f := hl
    split at hl'
    · rename_i hs
      cases hl'
      exact ⟨I, fin _ k w I hr (by omega) hs, hr, fun _ _ _ => rfl⟩
    · rename_i hs
      have st := d_step hN h (by omega)
      obtain ⟨r1, r2, r3, r4, r5⟩ := hr
      generalize hA : sI I 6 2 (nS s.1) = A
      have ao : ∀ q, q ≠ 6 → A q = I q := fun q hq => by rw [← hA, sI_o hq]
      obtain ⟨J, j1, j2, j3, j4, j5⟩ := c_dItem (b := b) (S := S) (A := A) hg hN h (by rw [← hA, sI_s]) (by rw [← hA, sI_k (by decide)]; exact r2) (cI_c (fun q q1 q2 => ao q (by omega)) r3) (by rw [ao _ (by omega)]; exact r4) (fun v v0 v1 => by rw [ao _ (by omega)]; exact r5 v v0 v1)
      have D0 : s.2.1 0 = N := h.2.1
      obtain ⟨K, k1, k2, k3⟩ := ih (dSt N s) (k + 1) (vI (gT (nS s.1) % 8)) J st.1 ⟨j2, j3, j4, by rw [j5 _ (by omega) (by omega), ao _ (by omega)]; exact r4, fun v v0 v1 => by
        rw [j5 _ (by omega) (by omega), ao _ (by omega), r5 v v0 v1]
        unfold mn
        rw [st.2 _ (by omega) (by omega)]⟩ hl' (by omega) (by omega)
      refine ⟨K, ?_, k2, fun q q1 q2 => (k3 q q1 q2).trans ((j5 q q1 q2).trans (ao q q1))⟩
      have got8 : (zrun 15 [vR 6, vI 8] (I, zRs b, 103, S)).bind (fun q => zX 14 52 [vR 6, vR g, vI a2, vI a3, vI k, w] (zpush q.1 []) q.2) = some (none, (K, zRs b, 103, S)) := by
        rw [c_got (by omega), r1, hA, Option.bind_some]
        simp only [zpush_s]
        rw [e14_52 hg, enough, Option.bind_some]
        simp only [zpush_s]
        have a6 : A g 6 = s.2.1 1 := by rw [ao g (by omega)]; exact r3.1
        have it : zX 14 60 [vR 6, vR g, vI a2, vI a3, vI k, vI (gT (nS s.1) % 8)] [vI (if A g 6 < 16 then 0 else 1), vR g, vR 6] (A, zRs b, 103, S) = (zrun 18 [vR 6, vR g, vI (dWay s.1 s.2.1)] (A, zRs b, 103, S)).bind (fun q => zX 14 73 [vR 6, vR g, vI a2, vI a3, vI k, vI (gT (nS s.1) % 8)] (zpush q.1 []) q.2) := by
          rw [e14_60 hg, a6]
          unfold dWay
          by_cases c : s.2.1 1 < 16
          · rw [if_pos c, if_pos rfl, if_pos c]
          · rw [if_neg c, if_neg (by decide), if_neg c]
        rw [it, j1, Option.bind_some]
        simp only [zpush_n]
        rw [e14_73 hg, wr_id (by omega) (by omega), k1]
      rw [e14_25 hg, if_neg (by omega), enough, r3.1, Option.bind_some]
      simp only [zpush_s]
      rw [e14_36 hg, r3.2.1]
      by_cases c : s.2.1 1 < 16
      · rw [if_pos c, if_pos rfl, got8]
      · rw [if_neg c, if_neg (by decide), if_neg (by omega), got8]
end B61
