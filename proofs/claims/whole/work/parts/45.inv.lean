/-! ===== what always holds between the class's cells and the reference's ===== -/
def nxt (T : Int → Int) (p : Int) : Int := if kd T p = 2 ∨ kd T p = 3 then pt T p + 1 else p + 1
def rc (T : Int → Int) : Nat → Int → Int → Prop
  | 0, p, q => p = q
  | n + 1, p, q => p < q ∧ kd T p ≠ 4 ∧ rc T n (nxt T p) q
def RC (T : Int → Int) (p q : Int) : Prop := ∃ n, rc T n p q
def nst (T : Int → Int) : Prop := ∀ l o, 0 ≤ l → l < o → o < T 1 → (kd T l = 2 ∨ kd T l = 3) → (kd T o = 2 ∨ kd T o = 3) → pt T l < o ∨ pt T o < pt T l
def nOk (T : Int → Int) : Prop := RC T 0 (T 1) ∧ (∀ o, 0 ≤ o → o < T 1 → (kd T o = 2 ∨ kd T o = 3) → RC T (o + 1) (pt T o)) ∧ nst T
def aE (a c : Int) : Int := if a = 2147483647 ∨ c = 2147483647 then 2147483647 else a + c
def mE (T : Int → Int) (o t : Int) : Int := if kd T o = 3 ∨ t = 2147483647 then 2147483647 else nb T o * t
def suOk (T su : Int → Int) : Prop := su 0 = 0 ∧ ∀ i, 0 ≤ i → i < T 1 → (kd T i = 0 → su (i + 1) = aE (su i) (mn T (nb T i))) ∧ (kd T i = 1 → su (i + 1) = su i) ∧ (kd T i = 2 ∨ kd T i = 3 → su (i + 1) = 0) ∧ (kd T i = 4 → su (i + 1) = aE (su (pt T i)) (mE T (pt T i) (su i)))
def uR (I : Nat → Int → Int) (g : Nat) (T : Int → Int) : Prop := ∃ su, suOk T su ∧ (∀ o, 0 ≤ o → o < T 1 → (kd T o = 2 ∨ kd T o = 3) → I (g + 10) o = su (pt T o)) ∧ I (g + 12) 0 = su (T 1) ∧ (∀ x, 0 ≤ x → x ≤ T 1 → su x = 2147483647 ∨ (0 ≤ su x ∧ su x ≤ 2519424)) ∧ ∀ o, 0 ≤ o → o < T 1 → (kd T o = 2 ∨ kd T o = 3) → 0 < su (pt T o)
def iTape (I : Nat → Int → Int) : Prop := I 2 1 = I 87 10 ∧ (0 ≤ I 87 10 ∧ I 87 10 ≤ 300) ∧ ∀ j, 0 ≤ j → j < I 87 10 → I 3 j = I 96 j ∧ 0 ≤ I 96 j ∧ I 96 j ≤ 127
def iProg (I : Nat → Int → Int) (g : Nat) : Prop := tOk (I 88) ∧ poolOk (I 88) (I 91) (I 90) (I 87 3) ∧ pgm I g (I 88) (I 91) (I 90) (I 87 3) ∧ (∀ s, 0 ≤ s → s < I 88 0 → I (g + 5) s = I 92 s) ∧ nOk (I 88) ∧ uR I g (I 88)
def iPlay (I : Nat → Int → Int) (N : Int) : Prop := PR I 8 (I 93) ∧ pOk (I 88) (I 87 3) N (I 93) ∧ Z0 (I 99)
def kpt (I : Nat → Int → Int) (k : Int) : Int → Int := fun c => if 0 ≤ c ∧ c < 392 then I 94 (392 * k + c) else 0
def iImg1 (I : Nat → Int → Int) (N : Int) (p : Nat) (k : Int) : Prop := I 23 k = I 95 k ∧ (I 95 k = 0 ∨ I 95 k = 1) ∧ (I 95 k = 1 → PR I p (kpt I k) ∧ pOk (I 88) (I 87 3) N (kpt I k))
def iSh1 (I : Nat → Int → Int) (s : Nat) (k : Int) : Prop := (I 101 k = -4 ∧ I s 2 = -4) ∨ ((I 101 k = 0 ∨ I 101 k = 1) ∧ I s 1 = I 101 k ∧ I s 2 = I 102 k ∧ (0 ≤ I 102 k ∧ I 102 k ≤ 30) ∧ ∀ j, 0 ≤ j → j < 30 → I (s + 1) j = I 103 (30 * k + j))
def iSh (I : Nat → Int → Int) : Prop := iSh1 I 79 0 ∧ iSh1 I 81 1 ∧ iSh1 I 83 2 ∧ iSh1 I 85 3
def Z4 (f : Int → Int) : Prop := ∀ c, ¬ (0 ≤ c ∧ c < 234) → f c = 0
def iMis (I : Nat → Int → Int) : Prop := I 4 1 = I 87 15 ∧ I 1 9 = I 87 28 ∧ Z4 (I 88) ∧ Z4 (I 89)
def Inv (I : Nat → Int → Int) (b : Bool) (N : Int) (J0 : Nat → Int → Int) : Prop := iTape I ∧ iProg I (zg b) ∧ iPlay I N ∧ (iImg1 I N 51 0 ∧ iImg1 I N 65 1) ∧ iSh I ∧ iMis I ∧ ∀ q, 103 < q → I q = J0 q
def opOk (mc mr : Nat) (as : List zV) (I : Nat → Int → Int) (b : Bool) (S : Nat) (N : Int) (J0 : Nat → Int → Int) : Prop := ∃ r I1 b' I2, zrun mc (vR 1 :: as) (I, zRs b, 103, S) = some (some (vI r), (I1, zRs b', 103, S)) ∧ zrun mr (vR 87 :: as) (I1, zRs b', 103, S) = some (some (vI r), (I2, zRs b', 103, S)) ∧ Inv I2 b' (N + 30000) J0
section A45
variable {I I' : Nat → Int → Int} {b : Bool} {S : Nat} {N M : Int} {J0 : Nat → Int → Int}
theorem zg_or (b : Bool) : zg b = 25 ∨ zg b = 38 := zg_ok b
theorem PR_c {p : Nat} {f f' : Int → Int} (h : ∀ q, p ≤ q → q ≤ p + 11 → I' q = I q) (hf : ∀ c, 0 ≤ c → c < 392 → f' c = f c) (h7 : f 7 ≤ 6) (h8 : f 8 ≤ 16) (hR : PR I p f) : PR I' p f' := by
  obtain ⟨hu, hpg, hmk, hpl⟩ := hR
  exact ⟨cuR_c (h _ (by omega) (by omega)) (h _ (by omega) (by omega)) (fun x hx => hf x (by omega) (by omega)) hu, pgR_c (fun q q1 q2 => h q (by omega) (by omega)) h8 h7 (fun x hx => hf x (by omega) (by omega)) hpg, mkR_c (h _ (by omega) (by omega)) (h _ (by omega) (by omega)) (h _ (by omega) (by omega)) (hf 6 (by omega) (by omega)) (fun x x1 x2 => hf x (by omega) x2) hmk, plR_c (h _ (by omega) (by omega)) (h _ (by omega) (by omega)) (h _ (by omega) (by omega)) (fun x hx => hf x (by omega) (by omega)) hpl⟩
theorem pOk_m {T f : Int → Int} {pm : Int} (h : pOk T pm N f) (hm : N ≤ M) : pOk T pm M f := ⟨pvB_m h.1 hm, h.2⟩
theorem pOk_78 {T f : Int → Int} {pm : Int} (h : pOk T pm N f) : f 7 ≤ 6 ∧ f 8 ≤ 16 := by
  obtain ⟨⟨_, _, _, _, h15, _, _, h7, h8, _⟩, _⟩ := h
  omega
theorem iTape_c (h2 : I' 2 1 = I 2 1) (h3 : I' 3 = I 3) (h9 : I' 96 = I 96) (h8 : I' 87 10 = I 87 10) (h : iTape I) : iTape I' := by
  unfold iTape; rw [h2, h3, h9, h8]; exact h
theorem iProg_c {g : Nat} (hg : ∀ q, g ≤ q → q ≤ g + 12 → I' q = I q) (h8 : I' 88 = I 88) (h0 : I' 90 = I 90) (h1 : I' 91 = I 91) (h2 : I' 92 = I 92) (h7 : I' 87 3 = I 87 3) (h : iProg I g) : iProg I' g := by
  unfold iProg uR
  rw [h8, h0, h1, h2, h7, hg (g + 5) (by omega) (by omega), hg (g + 10) (by omega) (by omega), hg (g + 12) (by omega) (by omega)]
  exact ⟨h.1, h.2.1, pgm_fr hg h.2.2.1, h.2.2.2.1, h.2.2.2.2⟩
theorem iPlay_c (hq : ∀ q, 8 ≤ q → q ≤ 19 → I' q = I q) (h8 : I' 88 = I 88) (h7 : I' 87 3 = I 87 3) (h3 : I' 93 = I 93) (h9 : Z0 (I' 99)) (hm : N ≤ M) (h : iPlay I N) : iPlay I' M := by
  unfold iPlay
  rw [h8, h7, h3]
  have z := pOk_78 h.2.1
  exact ⟨PR_c hq (fun _ _ _ => rfl) z.1 z.2 h.1, pOk_m h.2.1 hm, h9⟩
theorem kpt_c (h : I' 94 = I 94) (k : Int) : kpt I' k = kpt I k := by unfold kpt; rw [h]
theorem iImg_c {p : Nat} {k : Int} (hq : ∀ q, p ≤ q → q ≤ p + 11 → I' q = I q) (h3 : I' 23 k = I 23 k) (h4 : I' 94 = I 94) (h5 : I' 95 k = I 95 k) (h8 : I' 88 = I 88) (h7 : I' 87 3 = I 87 3) (hm : N ≤ M) (h : iImg1 I N p k) : iImg1 I' M p k := by
  unfold iImg1
  rw [h3, h5, h8, h7, kpt_c h4]
  refine ⟨h.1, h.2.1, fun z => ?_⟩
  have a := h.2.2 z
  have y := pOk_78 a.2
  exact ⟨PR_c hq (fun _ _ _ => rfl) y.1 y.2 a.1, pOk_m a.2 hm⟩
theorem iSh_c {s : Nat} {k : Int} (h0 : I' s = I s) (h1 : I' (s + 1) = I (s + 1)) (h2 : I' 101 = I 101) (h3 : I' 102 = I 102) (h4 : I' 103 = I 103) (h : iSh1 I s k) : iSh1 I' s k := by
  unfold iSh1; rw [h0, h1, h2, h3, h4]; exact h
theorem Inv_m (h : Inv I b N J0) (hm : N ≤ M) : Inv I b M J0 := by
  obtain ⟨a1, a2, a3, a4, a5, a6, a7⟩ := h
  exact ⟨a1, a2, iPlay_c (fun _ _ _ => rfl) rfl rfl rfl a3.2.2 hm a3, ⟨iImg_c (fun _ _ _ => rfl) rfl rfl rfl rfl rfl hm a4.1, iImg_c (fun _ _ _ => rfl) rfl rfl rfl rfl rfl hm a4.2⟩, a5, a6, a7⟩
theorem op_ro {mc mr : Nat} {as : List zV} (r : Int) (hI : Inv I b N J0) (h1 : zrun mc (vR 1 :: as) (I, zRs b, 103, S) = some (some (vI r), (I, zRs b, 103, S))) (h2 : zrun mr (vR 87 :: as) (I, zRs b, 103, S) = some (some (vI r), (I, zRs b, 103, S))) : opOk mc mr as I b S N J0 := ⟨r, I, b, I, h1, h2, Inv_m hI (by omega)⟩
theorem Inv_tape (hI : Inv I b N J0) (hm : N ≤ M) (f : ∀ q, q ≠ 2 → q ≠ 3 → q ≠ 87 → q ≠ 96 → I' q = I q) (f7 : ∀ j, j ≠ 10 → I' 87 j = I 87 j) (ht : iTape I') : Inv I' b M J0 := by
  obtain ⟨a1, a2, a3, a4, a5, a6, a7⟩ := hI
  have zb := zg_or b
  have f' : ∀ q, q = 1 ∨ (3 < q ∧ q < 87) ∨ (87 < q ∧ q ≠ 96) → I' q = I q := fun q hq => f q (by omega) (by omega) (by omega) (by omega)
  refine ⟨ht, iProg_c (fun q q1 q2 => f' q (by omega)) (f' 88 (by omega)) (f' 90 (by omega)) (f' 91 (by omega)) (f' 92 (by omega)) (f7 3 (by omega)) a2, iPlay_c (fun q q1 q2 => f' q (by omega)) (f' 88 (by omega)) (f7 3 (by omega)) (f' 93 (by omega)) (by rw [f' 99 (by omega)]; exact a3.2.2) hm a3, ⟨iImg_c (fun q q1 q2 => f' q (by omega)) (by rw [f' 23 (by omega)]) (f' 94 (by omega)) (by rw [f' 95 (by omega)]) (f' 88 (by omega)) (f7 3 (by omega)) hm a4.1, iImg_c (fun q q1 q2 => f' q (by omega)) (by rw [f' 23 (by omega)]) (f' 94 (by omega)) (by rw [f' 95 (by omega)]) (f' 88 (by omega)) (f7 3 (by omega)) hm a4.2⟩, ⟨iSh_c (f' 79 (by omega)) (f' 80 (by omega)) (f' 101 (by omega)) (f' 102 (by omega)) (f' 103 (by omega)) a5.1, iSh_c (f' 81 (by omega)) (f' 82 (by omega)) (f' 101 (by omega)) (f' 102 (by omega)) (f' 103 (by omega)) a5.2.1, iSh_c (f' 83 (by omega)) (f' 84 (by omega)) (f' 101 (by omega)) (f' 102 (by omega)) (f' 103 (by omega)) a5.2.2.1, iSh_c (f' 85 (by omega)) (f' 86 (by omega)) (f' 101 (by omega)) (f' 102 (by omega)) (f' 103 (by omega)) a5.2.2.2⟩, ⟨?_, ?_, by rw [f' 88 (by omega), f' 89 (by omega)]; exact a6.2.2⟩, fun q hq => by rw [f' q (by omega)]; exact a7 q hq⟩
  · rw [f' 4 (by omega), f7 15 (by omega)]; exact a6.1
  · rw [f' 1 (by omega), f7 28 (by omega)]; exact a6.2.1
theorem Inv_play (hI : Inv I b N J0) (hm : N ≤ M) (f : ∀ q, (1 < q ∧ q < 8) ∨ (21 < q ∧ q ≠ 87 ∧ q ≠ 93 ∧ q ≠ 99 ∧ q ≠ 100) → I' q = I q) (f7 : ∀ j, j ≠ 21 → j ≠ 23 → j ≠ 28 → I' 87 j = I 87 j) (h28 : I' 1 9 = I' 87 28) (hp : iPlay I' M) : Inv I' b M J0 := by
  obtain ⟨a1, a2, a3, a4, a5, a6, a7⟩ := hI
  have zb := zg_or b
  refine ⟨iTape_c (by rw [f 2 (by omega)]) (f 3 (by omega)) (f 96 (by omega)) (f7 10 (by omega) (by omega) (by omega)) a1, iProg_c (fun q q1 q2 => f q (by omega)) (f 88 (by omega)) (f 90 (by omega)) (f 91 (by omega)) (f 92 (by omega)) (f7 3 (by omega) (by omega) (by omega)) a2, hp, ⟨iImg_c (fun q q1 q2 => f q (by omega)) (by rw [f 23 (by omega)]) (f 94 (by omega)) (by rw [f 95 (by omega)]) (f 88 (by omega)) (f7 3 (by omega) (by omega) (by omega)) hm a4.1, iImg_c (fun q q1 q2 => f q (by omega)) (by rw [f 23 (by omega)]) (f 94 (by omega)) (by rw [f 95 (by omega)]) (f 88 (by omega)) (f7 3 (by omega) (by omega) (by omega)) hm a4.2⟩, ⟨iSh_c (f 79 (by omega)) (f 80 (by omega)) (f 101 (by omega)) (f 102 (by omega)) (f 103 (by omega)) a5.1, iSh_c (f 81 (by omega)) (f 82 (by omega)) (f 101 (by omega)) (f 102 (by omega)) (f 103 (by omega)) a5.2.1, iSh_c (f 83 (by omega)) (f 84 (by omega)) (f 101 (by omega)) (f 102 (by omega)) (f 103 (by omega)) a5.2.2.1, iSh_c (f 85 (by omega)) (f 86 (by omega)) (f 101 (by omega)) (f 102 (by omega)) (f 103 (by omega)) a5.2.2.2⟩, ⟨?_, h28, by rw [f 88 (by omega), f 89 (by omega)]; exact a6.2.2⟩, fun q hq => by rw [f q (by omega)]; exact a7 q hq⟩
  rw [f 4 (by omega), f7 15 (by omega) (by omega) (by omega)]; exact a6.1
theorem Inv_img (hI : Inv I b N J0) (hm : N ≤ M) (f : ∀ q, q ≠ 23 → q ≠ 94 → q ≠ 95 → (q < 51 ∨ 78 < q) → I' q = I q) (hp : iImg1 I' M 51 0 ∧ iImg1 I' M 65 1) : Inv I' b M J0 := by
  obtain ⟨a1, a2, a3, a4, a5, a6, a7⟩ := hI
  have zb := zg_or b
  have f' : ∀ q, q < 23 ∨ (23 < q ∧ q < 51) ∨ (78 < q ∧ q < 94) ∨ 95 < q → I' q = I q := fun q hq => f q (by omega) (by omega) (by omega) (by omega)
  refine ⟨iTape_c (by rw [f' 2 (by omega)]) (f' 3 (by omega)) (f' 96 (by omega)) (by rw [f' 87 (by omega)]) a1, iProg_c (fun q q1 q2 => f' q (by omega)) (f' 88 (by omega)) (f' 90 (by omega)) (f' 91 (by omega)) (f' 92 (by omega)) (by rw [f' 87 (by omega)]) a2, iPlay_c (fun q q1 q2 => f' q (by omega)) (f' 88 (by omega)) (by rw [f' 87 (by omega)]) (f' 93 (by omega)) (by rw [f' 99 (by omega)]; exact a3.2.2) hm a3, hp, ⟨iSh_c (f' 79 (by omega)) (f' 80 (by omega)) (f' 101 (by omega)) (f' 102 (by omega)) (f' 103 (by omega)) a5.1, iSh_c (f' 81 (by omega)) (f' 82 (by omega)) (f' 101 (by omega)) (f' 102 (by omega)) (f' 103 (by omega)) a5.2.1, iSh_c (f' 83 (by omega)) (f' 84 (by omega)) (f' 101 (by omega)) (f' 102 (by omega)) (f' 103 (by omega)) a5.2.2.1, iSh_c (f' 85 (by omega)) (f' 86 (by omega)) (f' 101 (by omega)) (f' 102 (by omega)) (f' 103 (by omega)) a5.2.2.2⟩, ⟨?_, ?_, by rw [f' 88 (by omega), f' 89 (by omega)]; exact a6.2.2⟩, fun q hq => by rw [f' q (by omega)]; exact a7 q hq⟩
  · rw [f' 4 (by omega), f' 87 (by omega)]; exact a6.1
  · rw [f' 1 (by omega), f' 87 (by omega)]; exact a6.2.1
theorem Inv_sheet (hI : Inv I b N J0) (hm : N ≤ M) (f : ∀ q, q < 79 ∨ (86 < q ∧ q < 101) ∨ 103 < q → I' q = I q) (hp : iSh I') : Inv I' b M J0 := by
  obtain ⟨a1, a2, a3, a4, a5, a6, a7⟩ := hI
  have zb := zg_or b
  refine ⟨iTape_c (by rw [f 2 (by omega)]) (f 3 (by omega)) (f 96 (by omega)) (by rw [f 87 (by omega)]) a1, iProg_c (fun q q1 q2 => f q (by omega)) (f 88 (by omega)) (f 90 (by omega)) (f 91 (by omega)) (f 92 (by omega)) (by rw [f 87 (by omega)]) a2, iPlay_c (fun q q1 q2 => f q (by omega)) (f 88 (by omega)) (by rw [f 87 (by omega)]) (f 93 (by omega)) (by rw [f 99 (by omega)]; exact a3.2.2) hm a3, ⟨iImg_c (fun q q1 q2 => f q (by omega)) (by rw [f 23 (by omega)]) (f 94 (by omega)) (by rw [f 95 (by omega)]) (f 88 (by omega)) (by rw [f 87 (by omega)]) hm a4.1, iImg_c (fun q q1 q2 => f q (by omega)) (by rw [f 23 (by omega)]) (f 94 (by omega)) (by rw [f 95 (by omega)]) (f 88 (by omega)) (by rw [f 87 (by omega)]) hm a4.2⟩, hp, ⟨?_, ?_, by rw [f 88 (by omega), f 89 (by omega)]; exact a6.2.2⟩, fun q hq => by rw [f q (by omega)]; exact a7 q hq⟩
  · rw [f 4 (by omega), f 87 (by omega)]; exact a6.1
  · rw [f 1 (by omega), f 87 (by omega)]; exact a6.2.1
/-! ops on the tape -/
theorem op_feed {c : Int} (hI : Inv I b N J0) : opOk 92 127 [vI c] I b S N J0 := by
  have a1 := hI.1
  have t1 := a1.1
  have t2 := a1.2.1
  by_cases h : 0 ≤ c ∧ c ≤ 127
  · by_cases h3 : I 87 10 = 300
    · refine op_ro (-3) hI ?_ ?_
      · rw [c_feed (by omega), if_pos h, if_pos (by omega)]
      · rw [r_feed (by omega), if_pos h, if_pos h3]
    · refine ⟨I 87 10 + 1, sI (sI I 3 (I 87 10) c) 2 1 (I 87 10 + 1), b, sI (sI (sI (sI I 3 (I 87 10) c) 2 1 (I 87 10 + 1)) 96 (I 87 10) c) 87 10 (I 87 10 + 1), by rw [c_feed (by omega), if_pos h, if_neg (by omega), t1], ?_, ?_⟩
      · rw [r_feed (by rw [sI_p (by decide), sI_p (by decide)]; exact t2), if_pos h, sI_p (by decide), sI_p (by decide), if_neg h3]
      · generalize hK : sI (sI (sI (sI I 3 (I 87 10) c) 2 1 (I 87 10 + 1)) 96 (I 87 10) c) 87 10 (I 87 10 + 1) = K
        have f10 : K 87 10 = I 87 10 + 1 := by rw [← hK, sI_s]
        have k96 : ∀ j, K 96 j = if j = I 87 10 then c else I 96 j := fun j => by
          rw [← hK, sI_p (by decide)]
          split
          · rename_i e; rw [e, sI_s]
          · rename_i e; rw [sI_k e, sI_p (by decide), sI_p (by decide)]
        have k3 : ∀ j, K 3 j = if j = I 87 10 then c else I 3 j := fun j => by
          rw [← hK, sI_p (by decide), sI_p (by decide), sI_p (by decide)]
          split
          · rename_i e; rw [e, sI_s]
          · rename_i e; rw [sI_k e]
        have k2 : K 2 1 = I 87 10 + 1 := by rw [← hK, sI_p (by decide), sI_p (by decide), sI_s]
        refine Inv_tape hI (by omega) (fun q q1 q2 q3 q4 => by rw [← hK]; funext j; rw [sI_p q3, sI_p q4, sI_p q1, sI_p q2]) (fun j hj => by rw [← hK, sI_k hj, sI_p (by decide), sI_p (by decide), sI_p (by decide)]) ⟨by omega, by omega, fun j j0 j1 => ?_⟩
        rw [k3, k96]
        by_cases e : j = I 87 10
        · rw [if_pos e, if_pos e]; exact ⟨rfl, h⟩
        · rw [if_neg e, if_neg e]; exact a1.2.2 j j0 (by omega)
  · refine op_ro (-1) hI ?_ ?_
    · rw [c_feed (by omega), if_neg h]
    · rw [r_feed (by omega), if_neg h]
theorem op_end {n : Int} (hI : Inv I b N J0) : opOk 93 128 [vI n] I b S N J0 := by
  have a1 := hI.1
  have t1 := a1.1
  have t2 := a1.2.1
  by_cases h : 0 ≤ n ∧ n ≤ I 87 10
  · refine ⟨I 87 10, sI I 2 1 n, b, sI (sI I 2 1 n) 87 10 n, by rw [c_end, if_pos (by omega), t1], ?_, ?_⟩
    · rw [r_end (by rw [sI_p (by decide)]; exact t2), sI_p (by decide), if_pos h]
    · refine Inv_tape hI (by omega) (fun q q1 q2 q3 q4 => by funext j; rw [sI_p q3, sI_p q1]) (fun j hj => by rw [sI_k hj, sI_p (by decide)]) ⟨by rw [sI_p (by decide), sI_s, sI_s], by rw [sI_s]; omega, fun j j0 j1 => ?_⟩
      rw [sI_s] at j1
      rw [sI_p (by decide), sI_p (by decide), sI_p (by decide), sI_p (by decide)]
      exact a1.2.2 j j0 (by omega)
  · refine op_ro (-1) hI ?_ ?_
    · rw [c_end, if_neg (by omega)]
    · rw [r_end t2, if_neg h]
theorem op_fault (hI : Inv I b N J0) : opOk 95 147 [] I b S N J0 := op_ro (I 87 15) hI (by rw [c_fault, hI.2.2.2.2.2.1.1]) r_fault
theorem op_torn (hI : Inv I b N J0) : opOk 117 205 [] I b S N J0 := op_ro (I 87 28) hI (by rw [c_torn, hI.2.2.2.2.2.1.2.1]) r_torn
end A45
