theorem zkd_0 : zkd 0 = (9, 0) := by decide +kernel
theorem zkd_lo : ∀ p : Nat, p ≤ 103 → (zkd p).1 = 0 → (zkd p).2 < 12 := by decide +kernel
theorem zkd_lo2 : ∀ p : Nat, p ≤ 103 → (zkd p).1 ≤ 6 ∨ (zkd p).1 = 9 := by decide +kernel
theorem zkd_hi {p : Nat} (hp : 104 ≤ p) : zkd p = (9, 0) ∨ (p = 899 ∧ zkd p = (1, 0)) ∨ ((p = 900 ∨ p = 901 ∨ p = 902) ∧ zkd p = (1, 5)) ∨ (∃ j, j < 6 ∧ p = 1000 + j ∧ zkd p = (0, 20)) ∨ ∃ j, j < 6 ∧ p = 1100 + j ∧ zkd p = (2, zslen.getD j 0) := by
  have e : zkd p = if p ≤ 103 then zkL.getD p (9, 0) else if p = 899 then (1, 0) else if p = 900 ∨ p = 901 ∨ p = 902 then (1, 5) else if 1000 ≤ p ∧ p < 1000 + 6 then (0, 20) else if 1100 ≤ p ∧ p < 1100 + 6 then (2, zslen.getD (p - 1100) 0) else (9, 0) := rfl
  rw [if_neg (by omega)] at e
  by_cases h1 : p = 899
  · rw [if_pos h1] at e; exact Or.inr (Or.inl ⟨h1, e⟩)
  rw [if_neg h1] at e
  by_cases h2 : p = 900 ∨ p = 901 ∨ p = 902
  · rw [if_pos h2] at e; exact Or.inr (Or.inr (Or.inl ⟨h2, e⟩))
  rw [if_neg h2] at e
  by_cases h3 : 1000 ≤ p ∧ p < 1000 + 6
  · rw [if_pos h3] at e; exact Or.inr (Or.inr (Or.inr (Or.inl ⟨p - 1000, by omega, by omega, e⟩)))
  rw [if_neg h3] at e
  by_cases h4 : 1100 ≤ p ∧ p < 1100 + 6
  · rw [if_pos h4] at e; exact Or.inr (Or.inr (Or.inr (Or.inr ⟨p - 1100, by omega, by omega, e⟩)))
  rw [if_neg h4] at e
  exact Or.inl e
theorem zcv_p {ad : Nat → Nat} {sv : Value} {x : Nat} (h0 : x ≠ 0) (h1 : x ≠ 1200) : zcv ad sv (vR x) = .ref (ad x) := by
  unfold zcv zrfo
  simp only
  rw [if_neg h1, if_neg h0]
  rfl
theorem zcv_rf {ad : Nat → Nat} {sv : Value} {x : Nat} (h1 : x ≠ 1200) : zcv ad sv (vR x) = va_rf (zrfo ad x) := by
  unfold zcv
  simp only
  rw [if_neg h1]
theorem zcell_o {cs : Nat → ClassId} {ad : Nat → Nat} {h : zH} {p ci : Nat} (e : zkd p = (0, ci)) : zcell cs ad h p = .inr (ci, (List.range (znF ci)).map (fun k => zfv ad h p ci k)) := by
  unfold zcell
  rw [e, if_pos rfl]
theorem zcell_i {cs : Nat → ClassId} {ad : Nat → Nat} {h : zH} {p : Nat} (e0 : (zkd p).1 ≠ 0) (e : (zkd p).1 ≤ 3) : zcell cs ad h p = .inl (cs (zkd p).1, (zkd p).2, .inl (fun j => Int32.ofInt (h.1 p j))) := by
  unfold zcell
  rw [if_neg e0, if_pos e]
theorem zcell_l {cs : Nat → ClassId} {ad : Nat → Nat} {h : zH} {p : Nat} (e : (zkd p).1 = 4) : zcell cs ad h p = .inl (cs 4, (zkd p).2, .inr (.inl (fun j => Int64.ofInt (h.1 p j)))) := by
  unfold zcell
  rw [if_neg (by omega), if_neg (by omega), if_pos e]
theorem zcell_r {cs : Nat → ClassId} {ad : Nat → Nat} {h : zH} {p : Nat} (e : 5 ≤ (zkd p).1) : zcell cs ad h p = .inl (cs (zkd p).1, (zkd p).2, .inr (.inr (.inr (.inr (fun j => zrfo ad (h.2.1 p j)))))) := by
  unfold zcell
  rw [if_neg (by omega), if_neg (by omega), if_neg (by omega)]
section ZS3
variable {p : Program} {l : Launch} {e : Env} {R : Room} {s : State} {mi : MethodId} {args : Array Value} {below : List Frame} {meth : Method} {c : Code} {Q : State → Prop} {D : va_G} {cs : Nat → ClassId} {A : Nat → Prop} {sv : Value} {m n0 nf : Nat} {ad0 : Nat → Nat}
variable {pc len : Nat} {L st : List zV} {h : zH} {q : Nat × List zV × List zV × zH}
theorem zs_getfield {a : Nat} (cx : zCx p R s mi args meth c D cs A sv m n0 nf) (hd : decode (zb m) pc = .ok (.getfield a, len)) (hlen : ziln (.getfield a) = 0 ∨ ziln (.getfield a) = len) (ha : zac0 m (.getfield a) pc len L st h = .inl q) (K : zG p l e R s mi args below meth c Q D cs A sv m n0 ad0 q.1 q.2.1 q.2.2.1 q.2.2.2) : zG p l e R s mi args below meth c Q D cs A sv m n0 ad0 pc L st h := by
  obtain rfl := zl3 rfl hlen
  simp only [zac0, zget] at ha
  split at ha
  · rename_i ci k t x s1 hf
    split at ha
    · rename_i hc
      obtain ⟨hk, hz⟩ := hc
      obtain ⟨hin, hcase⟩ := zfl_ok hf
      have hlk := cx.2.2.2.2.1 _ hin
      have key : ∀ (v : zV), (v.isSome = true) → (zokI h → zokR h → zvo h.2.2.1 v) → zG p l e R s mi args below meth c Q D cs A sv m n0 ad0 (pc + 3) L (v :: s1) h → (∀ (ad : Nat → Nat) (H : Heap) (locs : List Loc) (ls : Array Slot) (cells slots : Nat) (rest : List Value), zWd D cs A s sv H locs ad h → W p l e R s mi args below meth c H locs cells slots Q (F0 mi (pc + 3) ls (zcv ad sv v :: rest)) → W p l e R s mi args below meth c H locs cells slots Q (F0 mi pc ls (zcv ad sv (vR x) :: rest))) → zG p l e R s mi args below meth c Q D cs A sv m n0 ad0 pc L (vR x :: s1) h := by
        intro v h1 h2 K' row
        exact zG_st K' (fun i1 i2 _ hs => zcons ⟨h1, h2 i1 i2⟩ (List.forall_mem_cons.mp hs).2) (fun ad H locs ls hw _ _ hs k => row ad H locs ls _ _ _ hw k)
      have hx0 : x ≠ 0 := fun z => by rw [z, zkd_0] at hk; cases hk
      rcases hcase with ⟨rfl, hkt⟩ | ⟨hci, hkN, ht⟩
      · have hx : ∃ j, j < 6 ∧ x = 1000 + j := by
          by_cases hxl : x ≤ 103
          · have := zkd_lo x hxl (by rw [hk])
            rw [hk] at this
            exact absurd this (by decide)
          · rcases zkd_hi (p := x) (by omega) with z | ⟨_, z⟩ | ⟨_, z⟩ | ⟨j, hj, e1, _⟩ | ⟨j, _, _, z⟩
            · rw [z] at hk; cases hk
            · rw [z] at hk; cases hk
            · rw [z] at hk; cases hk
            · exact ⟨j, hj, e1⟩
            · rw [z] at hk; cases hk
        obtain ⟨j, hj, rfl⟩ := hx
        rcases hkt with ⟨rfl, rfl⟩ | ⟨rfl, rfl⟩
        · rw [if_pos rfl] at ha
          cases Sum.inl.inj ha
          refine key (vR (h.2.1 (1000 + j) (0 : Nat))) rfl ?_ K (fun ad H locs ls _ _ rest hw k => ?_)
          · sorry
          · obtain ⟨_, _, hS, _, _, _, hro⟩ := hw
            obtain ⟨_, _, a3, _, a5, _⟩ := hro.2.2.2.2.1 j hj
            rw [zcv_p hx0 (by omega)]
            have a5' : h.2.1 (1000 + j) ((0 : Nat) : Int) = 1100 + j := a5
            rw [a5', zcv_p (by omega) (by omega)] at k
            exact vk_getf cx.1 cx.2.1 a3 hS cx.2.2.2.1 hlk (fun _ z => z) hd k
        · rw [if_neg (by omega)] at ha
          cases Sum.inl.inj ha
          refine key (vI (h.1 (1000 + j) (1 : Nat))) rfl (fun i1 _ => i1 _ _) K (fun ad H locs ls _ _ rest hw k => ?_)
          obtain ⟨_, _, hS, _, _, _, hro⟩ := hw
          obtain ⟨_, a2, _, _, a5, _⟩ := hro.2.2.2.2.1 j hj
          rw [zcv_p hx0 (by omega)]
          exact vk_getf cx.1 cx.2.1 a2 hS cx.2.2.2.1 hlk (fun _ z => z) hd k
      · have hxn : x ≤ 103 := by
          rcases Nat.lt_or_ge x 104 with z | z
          · omega
          · rcases zkd_hi z with z | ⟨_, z⟩ | ⟨_, z⟩ | ⟨j, hj, e1, z⟩ | ⟨j, _, _, z⟩ <;> rw [z] at hk <;> cases hk
            omega
        have hxh : x ≤ h.2.2.1 := by
          rcases hz with z | z
          · exact z
          · omega
        obtain ⟨hvc, hu⟩ := zcls hci
        have hne : ci ≠ 20 := by omega
        have hlk' : (Cond.fieldLink (zon (zo m)) a (zT ci k).1 (zT ci k).2.1 (zT ci k).2.2.1).before args s = true := by
          have e1 : zflC (zo m, a, ci, k, t) = Cond.fieldLink (zon (zo m)) a (zT ci k).1 (zT ci k).2.1 (zT ci k).2.2.1 := by unfold zflC; simp only; rw [if_neg hne]
          rw [← e1]; exact hlk
        have row : ∀ (ad : Nat → Nat) (H : Heap) (locs : List Loc) (ls : Array Slot) (cells slots : Nat) (rest : List Value), zWd D cs A s sv H locs ad h → W p l e R s mi args below meth c H locs cells slots Q (F0 mi (pc + 3) ls (zfv ad h x ci k :: rest)) → W p l e R s mi args below meth c H locs cells slots Q (F0 mi pc ls (zcv ad sv (vR x) :: rest)) := by
          intro ad H locs ls cells slots rest hw kk
          rw [zcv_p hx0 (by omega)]
          have he := zws_at cs ad (h := h) (p := x) (by omega) hxh
          rw [zcell_o hk] at he
          exact va_get cx.1 cx.2.1 cx.2.2.2.2.1 hu cx.2.2.2.1 cx.2.2.2.2.2.2.2.2.2.2.2.1 hw.1 (x - 1) he hvc k hkN hlk' (fun _ z => z) (by rw [List.getElem?_map, List.getElem?_range hkN]; rfl) hd kk
        subst ht
        by_cases h2 : zft ci k = 2
        · rw [if_pos h2] at ha
          cases Sum.inl.inj ha
          refine key (vR (h.2.1 x k)) rfl (fun _ i2 => Or.inl (i2 x k hxh)) K (fun ad H locs ls _ _ rest hw kk => row ad H locs ls _ _ rest hw ?_)
          have hr := hw.2.2.2.2.1 x k hxh
          have hn := hw.2.2.2.2.2.1
          rw [zcv_rf (by show h.2.1 x k ≠ 1200; have : zNP = 103 := rfl; omega)] at kk
          unfold zfv
          rw [if_pos h2]
          exact kk
        · rw [if_neg h2] at ha
          cases Sum.inl.inj ha
          refine key (vI (h.1 x k)) rfl (fun i1 _ => i1 _ _) K (fun ad H locs ls _ _ rest hw kk => row ad H locs ls _ _ rest hw ?_)
          unfold zfv
          rw [if_neg h2]
          exact kk
    · cases ha
  · cases ha
end ZS3
