theorem zkd_0 : zkd 0 = (9, 0) := by decide +kernel
theorem zkd_lo : ∀ p : Nat, p ≤ 103 → (zkd p).1 = 0 → (zkd p).2 < 12 := by decide +kernel
theorem zkd_lo2 : ∀ p : Nat, p ≤ 103 → (zkd p).1 ≤ 6 ∨ (zkd p).1 = 9 := by decide +kernel
theorem zkd_hi {p : Nat} (hp : 104 ≤ p) : zkd p = (9, 0) ∨ (p = 899 ∧ zkd p = (1, 0)) ∨ ((p = 900 ∨ p = 901 ∨ p = 902) ∧ zkd p = (1, 5)) ∨ (∃ j, j < 6 ∧ p = 1000 + j ∧ zkd p = (0, 20)) ∨ ∃ j, j < 6 ∧ p = 1100 + j ∧ zkd p = (2, zslen.getD j 0) := by
  have e : zkd p = if p ≤ 103 then zkL.getD p (9, 0) else if p = 899 then (1, 0) else if p = 900 ∨ p = 901 ∨ p = 902 then (1, 5) else if 1000 ≤ p ∧ p < 1000 + 6 then (0, 20) else if 1100 ≤ p ∧ p < 1100 + 6 then (2, zslen.getD (p - 1100) 0) else (9, 0) := rfl
  rw [if_neg (by omega)] at e
  by_cases h1 : p = 899
  · rw [if_pos h1] at e; exact Or.inr (Or.inl ⟨h1, e⟩)
  rw [if_neg h1] at e
  by_cases h2 : p = 900 ∨ p = 901 ∨ p = 902
  · rw [if_pos h2] at e; exact Or.inr (Or.inr (Or.inl ⟨h2, e⟩))
  rw [if_neg h2] at e
  by_cases h3 : 1000 ≤ p ∧ p < 1000 + 6
  · rw [if_pos h3] at e; exact Or.inr (Or.inr (Or.inr (Or.inl ⟨p - 1000, by omega, by omega, e⟩)))
  rw [if_neg h3] at e
  by_cases h4 : 1100 ≤ p ∧ p < 1100 + 6
  · rw [if_pos h4] at e; exact Or.inr (Or.inr (Or.inr (Or.inr ⟨p - 1100, by omega, by omega, e⟩)))
  rw [if_neg h4] at e
  exact Or.inl e
theorem zcv_p {ad : Nat → Nat} {sv : Value} {x : Nat} (h0 : x ≠ 0) (h1 : x ≠ 1200) : zcv ad sv (vR x) = .ref (ad x) := by
  unfold zcv zrfo
  simp only
  rw [if_neg h1, if_neg h0]
  rfl
theorem zcv_rf {ad : Nat → Nat} {sv : Value} {x : Nat} (h1 : x ≠ 1200) : zcv ad sv (vR x) = va_rf (zrfo ad x) := by
  unfold zcv
  simp only
  rw [if_neg h1]
theorem zcell_o {cs : Nat → ClassId} {ad : Nat → Nat} {h : zH} {p ci : Nat} (e : zkd p = (0, ci)) : zcell cs ad h p = .inr (ci, (List.range (znF ci)).map (fun k => zfv ad h p ci k)) := by
  unfold zcell
  rw [e, if_pos rfl]
theorem zcell_i {cs : Nat → ClassId} {ad : Nat → Nat} {h : zH} {p : Nat} (e0 : (zkd p).1 ≠ 0) (e : (zkd p).1 ≤ 3) : zcell cs ad h p = .inl (cs (zkd p).1, (zkd p).2, .inl (fun j => Int32.ofInt (h.1 p j))) := by
  unfold zcell
  rw [if_neg e0, if_pos e]
theorem zcell_l {cs : Nat → ClassId} {ad : Nat → Nat} {h : zH} {p : Nat} (e : (zkd p).1 = 4) : zcell cs ad h p = .inl (cs 4, (zkd p).2, .inr (.inl (fun j => Int64.ofInt (h.1 p j)))) := by
  unfold zcell
  rw [if_neg (by omega), if_neg (by omega), if_pos e]
theorem zcell_r {cs : Nat → ClassId} {ad : Nat → Nat} {h : zH} {p : Nat} (e : 5 ≤ (zkd p).1) : zcell cs ad h p = .inl (cs (zkd p).1, (zkd p).2, .inr (.inr (.inr (.inr (fun j => zrfo ad (h.2.1 p j)))))) := by
  unfold zcell
  rw [if_neg (by omega), if_neg (by omega), if_neg (by omega)]
section ZS3
variable {p : Program} {l : Launch} {e : Env} {R : Room} {s : State} {mi : MethodId} {args : Array Value} {below : List Frame} {meth : Method} {c : Code} {Q : State → Prop} {D : va_G} {cs : Nat → ClassId} {A : Nat → Prop} {sv : Value} {m n0 nf : Nat} {ad0 : Nat → Nat}
variable {pc len : Nat} {L st : List zV} {h : zH} {q : Nat × List zV × List zV × zH}
theorem zs_getfield {a : Nat} (cx : zCx p R s mi args meth c D cs A sv m n0 nf) (hd : decode (zb m) pc = .ok (.getfield a, len)) (hlen : ziln (.getfield a) = 0 ∨ ziln (.getfield a) = len) (ha : zac0 m (.getfield a) pc len L st h = .inl q) (K : zG p l e R s mi args below meth c Q D cs A sv m n0 ad0 q.1 q.2.1 q.2.2.1 q.2.2.2) : zG p l e R s mi args below meth c Q D cs A sv m n0 ad0 pc L st h := by
  obtain rfl := zl3 rfl hlen
  simp only [zac0, zget] at ha
  split at ha
  · rename_i ci k t x s1 hf
    split at ha
    · rename_i hc
      obtain ⟨hk, hz⟩ := hc
      obtain ⟨hin, hcase⟩ := zfl_ok hf
      have hlk := cx.2.2.2.2.1 _ hin
      have key : ∀ (v : zV), (v.isSome = true) → (zokI h → zokR h → zvo h.2.2.1 v) → zG p l e R s mi args below meth c Q D cs A sv m n0 ad0 (pc + 3) L (v :: s1) h → (∀ (ad : Nat → Nat) (H : Heap) (locs : List Loc) (ls : Array Slot) (cells slots : Nat) (rest : List Value), zWd D cs A s sv H locs ad h → W p l e R s mi args below meth c H locs cells slots Q (F0 mi (pc + 3) ls (zcv ad sv v :: rest)) → W p l e R s mi args below meth c H locs cells slots Q (F0 mi pc ls (zcv ad sv (vR x) :: rest))) → zG p l e R s mi args below meth c Q D cs A sv m n0 ad0 pc L (vR x :: s1) h := by
        intro v h1 h2 K' row
        exact zG_st K' (fun i1 i2 _ hs => zcons ⟨h1, h2 i1 i2⟩ (List.forall_mem_cons.mp hs).2) (fun ad H locs ls hw _ _ hs k => row ad H locs ls _ _ _ hw k)
      have hx0 : x ≠ 0 := fun z => by rw [z, zkd_0] at hk; cases hk
      rcases hcase with ⟨rfl, hkt⟩ | ⟨hci, hkN, ht⟩
      · have hx : ∃ j, j < 6 ∧ x = 1000 + j := by
          by_cases hxl : x ≤ 103
          · have := zkd_lo x hxl (by rw [hk])
            rw [hk] at this
            exact absurd this (by decide)
          · rcases zkd_hi (p := x) (by omega) with z | ⟨_, z⟩ | ⟨_, z⟩ | ⟨j, hj, e1, _⟩ | ⟨j, _, _, z⟩
            · rw [z] at hk; cases hk
            · rw [z] at hk; cases hk
            · rw [z] at hk; cases hk
            · exact ⟨j, hj, e1⟩
            · rw [z] at hk; cases hk
        obtain ⟨j, hj, rfl⟩ := hx
        rcases hkt with ⟨rfl, rfl⟩ | ⟨rfl, rfl⟩
        · rw [if_pos rfl] at ha
          cases Sum.inl.inj ha
          refine key (vR (h.2.1 (1000 + j) (0 : Nat))) rfl ?_ K (fun ad H locs ls _ _ rest hw k => ?_)
          · intro _ i2
            have a5 := i2.2 j hj
            show h.2.1 (1000 + j) ((0 : Nat) : Int) ≤ h.2.2.1 ∨ 899 ≤ h.2.1 (1000 + j) ((0 : Nat) : Int)
            have a6 : h.2.1 (1000 + j) ((0 : Nat) : Int) = 1100 + j := a5
            omega
          · obtain ⟨_, _, hS, _, _, _, hro⟩ := hw
            obtain ⟨_, _, a3, _, a5, _⟩ := hro.2.2.2.2.1 j hj
            rw [zcv_p hx0 (by omega)]
            have a5' : h.2.1 (1000 + j) ((0 : Nat) : Int) = 1100 + j := a5
            rw [a5', zcv_p (by omega) (by omega)] at k
            exact vk_getf cx.1 cx.2.1 a3 hS cx.2.2.2.1 hlk (fun _ z => z) hd k
        · rw [if_neg (by omega)] at ha
          cases Sum.inl.inj ha
          refine key (vI (h.1 (1000 + j) (1 : Nat))) rfl (fun i1 _ => i1 _ _) K (fun ad H locs ls _ _ rest hw k => ?_)
          obtain ⟨_, _, hS, _, _, _, hro⟩ := hw
          obtain ⟨_, a2, _, _, a5, _⟩ := hro.2.2.2.2.1 j hj
          rw [zcv_p hx0 (by omega)]
          exact vk_getf cx.1 cx.2.1 a2 hS cx.2.2.2.1 hlk (fun _ z => z) hd k
      · have hxn : x ≤ 103 := by
          rcases Nat.lt_or_ge x 104 with z | z
          · omega
          · rcases zkd_hi z with z | ⟨_, z⟩ | ⟨_, z⟩ | ⟨j, hj, e1, z⟩ | ⟨j, _, _, z⟩ <;> rw [z] at hk <;> cases hk
            omega
        have hxh : x ≤ h.2.2.1 := by
          rcases hz with z | z
          · exact z
          · omega
        obtain ⟨hvc, hu⟩ := zcls hci
        have hne : ci ≠ 20 := by omega
        have hlk' : (Cond.fieldLink (zon (zo m)) a (zT ci k).1 (zT ci k).2.1 (zT ci k).2.2.1).before args s = true := by
          have e1 : zflC (zo m, a, ci, k, t) = Cond.fieldLink (zon (zo m)) a (zT ci k).1 (zT ci k).2.1 (zT ci k).2.2.1 := by unfold zflC; simp only; rw [if_neg hne]
          rw [← e1]; exact hlk
        have row : ∀ (ad : Nat → Nat) (H : Heap) (locs : List Loc) (ls : Array Slot) (cells slots : Nat) (rest : List Value), zWd D cs A s sv H locs ad h → W p l e R s mi args below meth c H locs cells slots Q (F0 mi (pc + 3) ls (zfv ad h x ci k :: rest)) → W p l e R s mi args below meth c H locs cells slots Q (F0 mi pc ls (zcv ad sv (vR x) :: rest)) := by
          intro ad H locs ls cells slots rest hw kk
          rw [zcv_p hx0 (by omega)]
          have he := zws_at cs ad (h := h) (p := x) (by omega) hxh
          rw [zcell_o hk] at he
          exact va_get cx.1 cx.2.1 cx.2.2.2.2.1 hu cx.2.2.2.1 cx.2.2.2.2.2.2.2.2.2.2.2.1 hw.1 (x - 1) he hvc k hkN hlk' (fun _ z => z) (by rw [List.getElem?_map, List.getElem?_range hkN]; rfl) hd kk
        subst ht
        by_cases h2 : zft ci k = 2
        · rw [if_pos h2] at ha
          cases Sum.inl.inj ha
          refine key (vR (h.2.1 x k)) rfl (fun _ i2 => Or.inl (i2.1 x k hxh)) K (fun ad H locs ls _ _ rest hw kk => row ad H locs ls _ _ rest hw ?_)
          have hr := hw.2.2.2.2.1.1 x k hxh
          have hn := hw.2.2.2.2.2.1
          rw [zcv_rf (by show h.2.1 x k ≠ 1200; have : zNP = 103 := rfl; omega)] at kk
          unfold zfv
          rw [if_pos h2]
          exact kk
        · rw [if_neg h2] at ha
          cases Sum.inl.inj ha
          refine key (vI (h.1 x k)) rfl (fun i1 _ => i1 _ _) K (fun ad H locs ls _ _ rest hw kk => row ad H locs ls _ _ rest hw ?_)
          unfold zfv
          rw [if_neg h2]
          exact kk
    · cases ha
  · cases ha
theorem zal_w {x : Nat} (hx : x ≤ 103) : zal h x = (zkd x).2 := by
  unfold zal
  rw [if_neg (by omega)]
theorem zs_arr {x : Nat} {i : Int} {s1 : List zV} {v : zV} {pc' : Nat} (h1 : v.isSome = true) (h2 : zokI h → zokR h → zvo h.2.2.1 v) (K : zG p l e R s mi args below meth c Q D cs A sv m n0 ad0 pc' L (v :: s1) h)
    (row : ∀ (ad : Nat → Nat) (H : Heap) (locs : List Loc) (ls : Array Slot) (cells slots : Nat) (rest : List Value), zWd D cs A s sv H locs ad h → zRI i → W p l e R s mi args below meth c H locs cells slots Q (F0 mi pc' ls (zcv ad sv v :: rest)) → W p l e R s mi args below meth c H locs cells slots Q (F0 mi pc ls (.int (Int32.ofInt i) :: zcv ad sv (vR x) :: rest))) : zG p l e R s mi args below meth c Q D cs A sv m n0 ad0 pc L (vI i :: vR x :: s1) h :=
  zG_st K (fun i1 i2 _ hs => zcons ⟨h1, h2 i1 i2⟩ (List.forall_mem_cons.mp (List.forall_mem_cons.mp hs).2).2) (fun ad H locs ls hw _ _ hs k => row ad H locs ls _ _ _ hw (List.forall_mem_cons.mp hs).1.2 k)
theorem zi_gt {i : Int} (ri : zRI i) (h0 : 0 ≤ i) : (((Int32.ofInt i).toNatClampNeg : Nat) : Int) = i := by
  rw [zi_nat ri h0]
  omega
theorem zs_ald {ks : List Nat} (hks : ∀ k ∈ ks, 1 ≤ k ∧ k ≤ 6) {pc' : Nat} (ha : zald ks pc' L st h = .inl q) (K : zG p l e R s mi args below meth c Q D cs A sv m n0 ad0 q.1 q.2.1 q.2.2.1 q.2.2.2)
    (r1 : 1 ∈ ks → (∀ (ad : Nat → Nat) (H : Heap) (locs : List Loc) (ls : Array Slot) (cells slots : Nat) (rest : List Value) (x : Nat) (i : Int), zWd D cs A s sv H locs ad h → zRI i → 0 ≤ i → i < (zkd x).2 → (zkd x).1 = 1 → 1 ≤ x → x ≤ h.2.2.1 → W p l e R s mi args below meth c H locs cells slots Q (F0 mi pc' ls (.int (Int32.ofInt (h.1 x i)) :: rest)) → W p l e R s mi args below meth c H locs cells slots Q (F0 mi pc ls (.int (Int32.ofInt i) :: .ref (ad x) :: rest))) ∧
      ∀ (ad : Nat → Nat) (H : Heap) (locs : List Loc) (ls : Array Slot) (cells slots : Nat) (rest : List Value) (t N : Nat) (f : Int → Int) (i : Int), va_S A s.heap H locs → va_T .int t N (fun j => .int (Int32.ofInt (f j))) A s s.heap → zRI i → 0 ≤ i → i < N → W p l e R s mi args below meth c H locs cells slots Q (F0 mi pc' ls (.int (Int32.ofInt (f i)) :: rest)) → W p l e R s mi args below meth c H locs cells slots Q (F0 mi pc ls (.int (Int32.ofInt i) :: .ref t :: rest)))
    (r2 : 2 ∈ ks ∨ 3 ∈ ks → (∀ (ad : Nat → Nat) (H : Heap) (locs : List Loc) (ls : Array Slot) (cells slots : Nat) (rest : List Value) (x : Nat) (i : Int), zWd D cs A s sv H locs ad h → zRI i → 0 ≤ i → i < (zkd x).2 → (zkd x).1 = 2 ∨ (zkd x).1 = 3 → 1 ≤ x → x ≤ h.2.2.1 → W p l e R s mi args below meth c H locs cells slots Q (F0 mi pc' ls (.int (Int32.ofInt (h.1 x i)) :: rest)) → W p l e R s mi args below meth c H locs cells slots Q (F0 mi pc ls (.int (Int32.ofInt i) :: .ref (ad x) :: rest))) ∧
      ∀ (ad : Nat → Nat) (H : Heap) (locs : List Loc) (ls : Array Slot) (cells slots : Nat) (rest : List Value) (t N : Nat) (f : Int → Int) (i : Int), va_S A s.heap H locs → va_T .byte t N (fun j => .int (Int32.ofInt (f j))) A s s.heap → zRI i → 0 ≤ i → i < N → W p l e R s mi args below meth c H locs cells slots Q (F0 mi pc' ls (.int (Int32.ofInt (f i)) :: rest)) → W p l e R s mi args below meth c H locs cells slots Q (F0 mi pc ls (.int (Int32.ofInt i) :: .ref t :: rest)))
    (r4 : 4 ∈ ks → ∀ (ad : Nat → Nat) (H : Heap) (locs : List Loc) (ls : Array Slot) (cells slots : Nat) (rest : List Value) (x : Nat) (i : Int), zWd D cs A s sv H locs ad h → zRI i → 0 ≤ i → i < (zkd x).2 → (zkd x).1 = 4 → 1 ≤ x → x ≤ h.2.2.1 → W p l e R s mi args below meth c H locs cells slots Q (F0 mi pc' ls (.long (Int64.ofInt (h.1 x i)) :: rest)) → W p l e R s mi args below meth c H locs cells slots Q (F0 mi pc ls (.int (Int32.ofInt i) :: .ref (ad x) :: rest)))
    (r5 : 5 ∈ ks ∨ 6 ∈ ks → ∀ (ad : Nat → Nat) (H : Heap) (locs : List Loc) (ls : Array Slot) (cells slots : Nat) (rest : List Value) (x : Nat) (i : Int), zWd D cs A s sv H locs ad h → zRI i → 0 ≤ i → i < (zkd x).2 → (zkd x).1 = 5 ∨ (zkd x).1 = 6 → 1 ≤ x → x ≤ h.2.2.1 → W p l e R s mi args below meth c H locs cells slots Q (F0 mi pc' ls (va_rf (zrfo ad (h.2.1 x i)) :: rest)) → W p l e R s mi args below meth c H locs cells slots Q (F0 mi pc ls (.int (Int32.ofInt i) :: .ref (ad x) :: rest))) : zG p l e R s mi args below meth c Q D cs A sv m n0 ad0 pc L st h := by
  unfold zald at ha
  split at ha
  · rename_i i x s1
    split at ha
    · rename_i hc
      obtain ⟨hk, hz, hi0, hi1⟩ := hc
      by_cases hx0 : x = 0
      · subst hx0
        rw [zkd_0] at ha
        simp only at ha
        rw [if_neg (by omega), if_neg (by omega)] at ha
        have : zal h 0 = 0 := by rw [zal_w (by omega), zkd_0]
        rw [this] at hi1
        exact absurd hi1 (by omega)
      by_cases hxl : x ≤ 103
      · have hxh : x ≤ h.2.2.1 := by
          rcases hz with z | z
          · exact z
          · omega
        rw [zal_w hxl] at hi1
        rcases zkd_lo2 x hxl with hk6 | hk9
        · have hz0 : (zkd x).1 ≠ 0 ∨ (zkd x).1 = 0 := by omega
          by_cases k3 : (zkd x).1 ≤ 3
          · rw [if_pos k3] at ha
            cases Sum.inl.inj ha
            refine zs_arr (v := vI (h.1 x i)) rfl (fun i1 _ => i1 _ _) K (fun ad H locs ls _ _ rest hw ri k => ?_)
            rw [zcv_p hx0 (by omega)]
            by_cases k1 : (zkd x).1 = 1
            · exact (r1 (k1 ▸ hk)).1 ad H locs ls _ _ rest x i hw ri hi0 hi1 k1 (by omega) hxh k
            · by_cases k0 : (zkd x).1 = 0
              · have := hks _ hk
                omega
              · have k23 : (zkd x).1 = 2 ∨ (zkd x).1 = 3 := by omega
                exact (r2 (k23.elim (fun z => Or.inl (z ▸ hk)) (fun z => Or.inr (z ▸ hk)))).1 ad H locs ls _ _ rest x i hw ri hi0 hi1 k23 (by omega) hxh k
          · rw [if_neg k3] at ha
            by_cases k4 : (zkd x).1 = 4
            · rw [if_pos k4] at ha
              cases Sum.inl.inj ha
              refine zs_arr (v := vL (h.1 x i)) rfl (fun i1 _ => ?_) K (fun ad H locs ls _ _ rest hw ri k => ?_)
              · have := i1 x i
                exact ⟨by omega, by omega⟩
              · rw [zcv_p hx0 (by omega)]
                exact r4 (k4 ▸ hk) ad H locs ls _ _ rest x i hw ri hi0 hi1 k4 (by omega) hxh k
            · rw [if_neg k4] at ha
              cases Sum.inl.inj ha
              have k56 : (zkd x).1 = 5 ∨ (zkd x).1 = 6 := by omega
              refine zs_arr (v := vR (h.2.1 x i)) rfl (fun _ i2 => Or.inl (i2.1 x i hxh)) K (fun ad H locs ls _ _ rest hw ri k => ?_)
              rw [zcv_p hx0 (by omega)]
              have hr := hw.2.2.2.2.1.1 x i hxh
              have hn := hw.2.2.2.2.2.1
              rw [zcv_rf (by show h.2.1 x i ≠ 1200; have : zNP = 103 := rfl; omega)] at k
              exact r5 (k56.elim (fun z => Or.inl (z ▸ hk)) (fun z => Or.inr (z ▸ hk))) ad H locs ls _ _ rest x i hw ri hi0 hi1 k56 (by omega) hxh k
        · have := hks _ hk
          omega
      · rcases zkd_hi (p := x) (by omega) with z | ⟨rfl, z⟩ | ⟨hx9, z⟩ | ⟨j, hj, e1, z⟩ | ⟨j, hj, rfl, z⟩
        · have := hks _ hk
          rw [z] at this
          exact absurd this.2 (by decide)
        · have k1 : (zkd 899).1 = 1 := by rw [z]
          rw [if_pos (by omega)] at ha
          cases Sum.inl.inj ha
          refine zs_arr (v := vI (h.1 899 i)) rfl (fun i1 _ => i1 _ _) K (fun ad H locs ls _ _ rest hw ri k => ?_)
          rw [zcv_p (by omega) (by omega)]
          exact (r1 (k1 ▸ hk)).2 ad H locs ls _ _ rest (ad 899) h.2.2.2 (h.1 899) i hw.2.2.1 hw.2.2.2.2.2.2.1 ri hi0 (by unfold zal at hi1; rw [if_pos rfl] at hi1; exact hi1) k
        · have k1 : (zkd x).1 = 1 := by rw [z]
          rw [if_pos (by omega)] at ha
          cases Sum.inl.inj ha
          refine zs_arr (v := vI (h.1 x i)) rfl (fun i1 _ => i1 _ _) K (fun ad H locs ls _ _ rest hw ri k => ?_)
          rw [zcv_p (by omega) (by omega)]
          refine (r1 (k1 ▸ hk)).2 ad H locs ls _ _ rest (ad x) 5 (h.1 x) i hw.2.2.1 (hw.2.2.2.2.2.2.2.1 x hx9).1 ri hi0 ?_ k
          unfold zal at hi1
          rw [if_neg (by omega), z] at hi1
          exact hi1
        · have := hks _ hk
          rw [z] at this
          exact absurd this.1 (by decide)
        · have k2 : (zkd (1100 + j)).1 = 2 := by rw [z]
          rw [if_pos (by omega)] at ha
          cases Sum.inl.inj ha
          refine zs_arr (v := vI (h.1 (1100 + j) i)) rfl (fun i1 _ => i1 _ _) K (fun ad H locs ls _ _ rest hw ri k => ?_)
          rw [zcv_p (by omega) (by omega)]
          refine (r2 (Or.inl (k2 ▸ hk))).2 ad H locs ls _ _ rest (ad (1100 + j)) _ (h.1 (1100 + j)) i hw.2.2.1 (hw.2.2.2.2.2.2.2.2.2.2.1 j hj).2.2.2.1 ri hi0 ?_ k
          unfold zal at hi1
          rw [if_neg (by omega), z] at hi1
          exact hi1
    · cases ha
  · cases ha
theorem zs_iaload (cx : zCx p R s mi args meth c D cs A sv m n0 nf) (hd : decode (zb m) pc = .ok (.iaload, len)) (hlen : ziln .iaload = 0 ∨ ziln .iaload = len) (ha : zac0 m .iaload pc len L st h = .inl q) (K : zG p l e R s mi args below meth c Q D cs A sv m n0 ad0 q.1 q.2.1 q.2.2.1 q.2.2.2) : zG p l e R s mi args below meth c Q D cs A sv m n0 ad0 pc L st h := by
  obtain rfl := zl1 rfl hlen
  simp only [zac0] at ha
  refine zs_ald (by decide) ha K (fun _ => ⟨fun ad H locs ls _ _ rest x i hw ri h0 h1 hk hx1 hxh k => ?_, fun ad H locs ls _ _ rest t N f i hS hT ri h0 h1 k => ?_⟩) (fun z => absurd z (by decide)) (fun z => absurd z (by decide)) (fun z => absurd z (by decide))
  · have he := zws_at cs ad (h := h) (p := x) hx1 hxh
    rw [zcell_i (by omega) (by omega), hk] at he
    refine va_iald cx.1 cx.2.1 cx.2.2.2.2.2.2.2.2.2.2.2.1 hw.1 (x - 1) 0 he rfl (zi_in ri h0 h1) hd ?_
    rw [zi_gt ri h0]; exact k
  · exact va_ti cx.1 cx.2.1 hT hS (zi_in ri h0 h1) (by show Value.int _ = Value.int _; rw [zi_gt ri h0]) hd k
theorem zs_baload (cx : zCx p R s mi args meth c D cs A sv m n0 nf) (hd : decode (zb m) pc = .ok (.baload, len)) (hlen : ziln .baload = 0 ∨ ziln .baload = len) (ha : zac0 m .baload pc len L st h = .inl q) (K : zG p l e R s mi args below meth c Q D cs A sv m n0 ad0 q.1 q.2.1 q.2.2.1 q.2.2.2) : zG p l e R s mi args below meth c Q D cs A sv m n0 ad0 pc L st h := by
  obtain rfl := zl1 rfl hlen
  simp only [zac0] at ha
  refine zs_ald (by decide) ha K (fun z => absurd z (by decide)) (fun _ => ⟨fun ad H locs ls _ _ rest x i hw ri h0 h1 hk hx1 hxh k => ?_, fun ad H locs ls _ _ rest t N f i hS hT ri h0 h1 k => ?_⟩) (fun z => absurd z (by decide)) (fun z => absurd z (by decide))
  · have he := zws_at cs ad (h := h) (p := x) hx1 hxh
    rw [zcell_i (by omega) (by omega)] at he
    rcases hk with hk | hk
    · rw [hk] at he
      refine va_bald cx.1 cx.2.1 cx.2.2.2.2.2.2.2.2.2.2.2.1 hw.1 (x - 1) 1 he rfl (zi_in ri h0 h1) hd ?_
      rw [zi_gt ri h0]; exact k
    · rw [hk] at he
      refine va_zald cx.1 cx.2.1 cx.2.2.2.2.2.2.2.2.2.2.2.1 hw.1 (x - 1) 2 he rfl (zi_in ri h0 h1) hd ?_
      rw [zi_gt ri h0]; exact k
  · exact va_tb cx.1 cx.2.1 hT hS (zi_in ri h0 h1) (by show Value.int _ = Value.int _; rw [zi_gt ri h0]) hd k
theorem zs_laload (cx : zCx p R s mi args meth c D cs A sv m n0 nf) (hd : decode (zb m) pc = .ok (.laload, len)) (hlen : ziln .laload = 0 ∨ ziln .laload = len) (ha : zac0 m .laload pc len L st h = .inl q) (K : zG p l e R s mi args below meth c Q D cs A sv m n0 ad0 q.1 q.2.1 q.2.2.1 q.2.2.2) : zG p l e R s mi args below meth c Q D cs A sv m n0 ad0 pc L st h := by
  obtain rfl := zl1 rfl hlen
  simp only [zac0] at ha
  refine zs_ald (by decide) ha K (fun z => absurd z (by decide)) (fun z => absurd z (by decide)) (fun _ ad H locs ls _ _ rest x i hw ri h0 h1 hk hx1 hxh k => ?_) (fun z => absurd z (by decide))
  have he := zws_at cs ad (h := h) (p := x) hx1 hxh
  rw [zcell_l hk] at he
  refine va_lald cx.1 cx.2.1 cx.2.2.2.2.2.2.2.2.2.2.2.1 hw.1 (x - 1) 3 he rfl (zi_in ri h0 h1) hd ?_
  rw [zi_gt ri h0]; exact k
theorem zs_aaload (cx : zCx p R s mi args meth c D cs A sv m n0 nf) (hd : decode (zb m) pc = .ok (.aaload, len)) (hlen : ziln .aaload = 0 ∨ ziln .aaload = len) (ha : zac0 m .aaload pc len L st h = .inl q) (K : zG p l e R s mi args below meth c Q D cs A sv m n0 ad0 q.1 q.2.1 q.2.2.1 q.2.2.2) : zG p l e R s mi args below meth c Q D cs A sv m n0 ad0 pc L st h := by
  obtain rfl := zl1 rfl hlen
  simp only [zac0] at ha
  refine zs_ald (by decide) ha K (fun z => absurd z (by decide)) (fun z => absurd z (by decide)) (fun z => absurd z (by decide)) (fun _ ad H locs ls _ _ rest x i hw ri h0 h1 hk hx1 hxh k => ?_)
  have he := zws_at cs ad (h := h) (p := x) hx1 hxh
  rw [zcell_r (by omega)] at he
  rcases hk with hk | hk
  · rw [hk] at he
    refine va_aldq cx.1 cx.2.1 cx.2.2.2.2.2.2.2.2.2.2.2.1 hw.1 (x - 1) 4 he rfl (zi_in ri h0 h1) hd ?_
    rw [zi_gt ri h0]; exact k
  · rw [hk] at he
    refine va_aldq cx.1 cx.2.1 cx.2.2.2.2.2.2.2.2.2.2.2.1 hw.1 (x - 1) 5 he rfl (zi_in ri h0 h1) hd ?_
    rw [zi_gt ri h0]; exact k
theorem zty_at (cs : Nat → ClassId) {k : Nat} (h1 : 1 ≤ k) (h6 : k ≤ 6) : ∃ t, (ztys cs)[k - 1]? = some (cs k, t) := by
  have h : k = 1 ∨ k = 2 ∨ k = 3 ∨ k = 4 ∨ k = 5 ∨ k = 6 := by omega
  rcases h with rfl | rfl | rfl | rfl | rfl | rfl <;> exact ⟨_, rfl⟩
theorem zs_alen (cx : zCx p R s mi args meth c D cs A sv m n0 nf) (hd : decode (zb m) pc = .ok (.arraylength, len)) (hlen : ziln .arraylength = 0 ∨ ziln .arraylength = len) (ha : zac0 m .arraylength pc len L st h = .inl q) (K : zG p l e R s mi args below meth c Q D cs A sv m n0 ad0 q.1 q.2.1 q.2.2.1 q.2.2.2) : zG p l e R s mi args below meth c Q D cs A sv m n0 ad0 pc L st h := by
  obtain rfl := zl1 rfl hlen
  simp only [zac0, zlen] at ha
  split at ha
  · rename_i x s1
    split at ha
    · rename_i hc
      obtain ⟨hk1, hk6, hz, hb⟩ := hc
      cases Sum.inl.inj ha
      have hx0 : x ≠ 0 := fun z => by rw [z, zkd_0] at hk6; exact absurd hk6 (by decide)
      refine zG_st K (fun _ _ _ hs => zcons ⟨rfl, show zRI (zal h x) from ⟨by omega, by omega⟩⟩ (List.forall_mem_cons.mp hs).2) (fun ad H locs ls hw _ _ hs k => ?_)
      have k' : W p l e R s mi args below meth c H locs (h.2.2.1 - n0) (zsl h.2.2.1 - zsl n0) Q (F0 mi (pc + 1) ls (.int (Int32.ofNat (zal h x)) :: s1.map (zcv ad sv))) := by
        rw [← Int32.ofInt_eq_ofNat]; exact k
      show W p l e R s mi args below meth c H locs (h.2.2.1 - n0) (zsl h.2.2.1 - zsl n0) Q (F0 mi pc ls (zcv ad sv (vR x) :: s1.map (zcv ad sv)))
      by_cases hxl : x ≤ 103
      · have hxh : x ≤ h.2.2.1 := by
          rcases hz with z | z
          · exact z
          · omega
        rw [zcv_p hx0 (by omega)]
        rw [zal_w hxl] at k'
        have he := zws_at cs ad (h := h) (p := x) (by omega) hxh
        obtain ⟨t, ht⟩ := zty_at cs hk1 hk6
        by_cases k3 : (zkd x).1 ≤ 3
        · rw [zcell_i (by omega) k3] at he
          exact va_alen cx.1 cx.2.1 cx.2.2.2.2.2.2.2.2.2.2.2.1 hw.1 (x - 1) _ he ht rfl hd k'
        · by_cases k4 : (zkd x).1 = 4
          · rw [zcell_l k4] at he
            rw [k4] at ht
            exact va_alen cx.1 cx.2.1 cx.2.2.2.2.2.2.2.2.2.2.2.1 hw.1 (x - 1) _ he ht rfl hd k'
          · rw [zcell_r (by omega)] at he
            exact va_alen cx.1 cx.2.1 cx.2.2.2.2.2.2.2.2.2.2.2.1 hw.1 (x - 1) _ he ht rfl hd k'
      · rcases zkd_hi (p := x) (by omega) with z | ⟨rfl, z⟩ | ⟨hx9, z⟩ | ⟨j, hj, e1, z⟩ | ⟨j, hj, rfl, z⟩
        · rw [z] at hk6; exact absurd hk6 (by decide)
        · rw [zcv_p (by omega) (by omega)]
          exact va_tlen cx.1 cx.2.1 hw.2.2.2.2.2.2.1 hw.2.2.1 (by unfold zal; rw [if_pos rfl]) hd k'
        · rw [zcv_p (by omega) (by omega)]
          exact va_tlen cx.1 cx.2.1 (hw.2.2.2.2.2.2.2.1 x hx9).1 hw.2.2.1 (by unfold zal; rw [if_neg (by omega), z]) hd k'
        · rw [z] at hk1; exact absurd hk1 (by decide)
        · rw [zcv_p (by omega) (by omega)]
          exact va_tlen cx.1 cx.2.1 (hw.2.2.2.2.2.2.2.2.2.2.1 j hj).2.2.2.1 hw.2.2.1 (by unfold zal; rw [if_neg (by omega), z]) hd k'
    · cases ha
  · cases ha
end ZS3
