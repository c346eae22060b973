/-! ===== tokens: the reference's; the words of both ===== -/
def bA (t : Int → Int) (n x : Int) : Int := if n ≤ x then -1 else t x
def sor (k : Int) : Int := if k = 0 then 1 else if k = 1 then 2 else if k = 2 then 3 else 0
def rT (I : Nat → Int → Int) (t : Int → Int) (n p : Int) : Prop := I 87 12 = tS t n p ∧ I 87 11 = tE t n p ∧ (tK t n p ≠ 4 → I 87 15 = 0 ∧ I 87 13 = sor (tK t n p) ∧ (tK t n p = 1 → I 87 14 = tV t n p)) ∧ (tK t n p = 4 → I 87 15 = 1 ∧ I 87 16 = tS t n p)
def frK (I I' : Nat → Int → Int) : Prop := (∀ q, q ≠ 87 → I' q = I q) ∧ ∀ j, (j < 11 ∨ 16 < j) → I' 87 j = I 87 j
def tpR (I : Nat → Int → Int) (t : Int → Int) (n : Int) : Prop := I 87 10 = n ∧ ∀ j, 0 ≤ j → j < n → I 96 j = t j
def tpT (t : Int → Int) (n : Int) : Prop := (0 ≤ n ∧ n ≤ 300) ∧ ∀ j, 0 ≤ j → j < n → 0 ≤ t j ∧ t j ≤ 127
section A65
variable {I I' : Nat → Int → Int} {b : Bool} {S : Nat} {t : Int → Int} {n p k s e : Int}
theorem frK_t {J : Nat → Int → Int} (h1 : frK I I') (h2 : frK I' J) : frK I J := ⟨fun q hq => (h2.1 q hq).trans (h1.1 q hq), fun j hj => (h2.2 j hj).trans (h1.2 j hj)⟩
theorem frK_s {j v : Int} (hj : 11 ≤ j ∧ j ≤ 16) : frK I (sI I 87 j v) := ⟨fun q hq => sI_o hq, fun i hi => sI_k (by omega)⟩
theorem frK_r : frK I I := ⟨fun _ _ => rfl, fun _ _ => rfl⟩
theorem tpR_c (h : tpR I t n) (hf : frK I I') : tpR I' t n := ⟨by rw [hf.2 10 (by omega)]; exact h.1, fun j j0 j1 => by rw [hf.1 96 (by decide)]; exact h.2 j j0 j1⟩
theorem r_byte {x : Int} (ht : tpT t n) (hI : tpR I t n) (hx : 0 ≤ x) : zrun 130 [vR 87, vI x] (I, zRs b, 103, S) = some (some (vI (bA t n x)), (I, zRs b, 103, S)) := by
  have := ht.1
  rw [run130, e130_0, hI.1]
  unfold bA
  by_cases h : n ≤ x
  · rw [if_pos h, if_pos h]
  · rw [if_neg h, if_neg h, if_pos (by omega), hI.2 x hx (by omega)]
theorem r_reqN {x c : Int} (h : x ≠ 0 ∨ I 87 15 ≠ 0) : zrun 129 [vR 87, vI x, vI c] (I, zRs b, 103, S) = some (none, (I, zRs b, 103, S)) := by
  rw [run129, e129_0]
  by_cases h1 : x = 0
  · rw [if_pos h1, if_neg (by omega)]
  · rw [if_neg h1]
theorem r_reqF {c : Int} (h : I 87 15 = 0) : zrun 129 [vR 87, vI 0, vI c] (I, zRs b, 103, S) = some (none, (sI (sI I 87 15 c) 87 16 (I 87 12), zRs b, 103, S)) := by
  rw [run129, e129_0, if_pos rfl, if_pos h]
theorem r_dead (h : 0 < I 87 15) : zrun 135 [vR 87] (I, zRs b, 103, S) = some (none, (I, zRs b, 103, S)) := by
  rw [run135, e135_0, if_neg (by omega)]
theorem r_skip (ht : tpT t n) : ∀ (m : Nat) (p : Int) (I : Nat → Int → Int), (n - p).toNat = m → 0 ≤ p → p ≤ n → tpR I t n → I 87 11 = p → zX 135 8 [vR 87, none] [] (I, zRs b, 103, S) = zX 135 8 [vR 87, none] [] (sI I 87 11 (tS t n p), zRs b, 103, S) := by
  have hn := ht.1
  intro m
  induction m with
  | zero => intro p I h0 h1 h2 h3 h4; rw [tS_no (by omega), sI_id h4]
  | succ m ih =>
    intro p I h0 h1 h2 h3 h4
    by_cases h : p < n ∧ t p = 32
    · have := ih (p + 1) (sI I 87 11 (p + 1)) (by omega) (by omega) (by omega) (tpR_c h3 (frK_s (by omega))) sI_s
      rw [e135_8, h4, r_byte ht h3 h1, Option.bind_some]
      simp only [zpush_s]
      have ev : bA t n p = 32 := by unfold bA; rw [if_neg (by omega)]; exact h.2
      rw [e135_16, if_pos ev, h4, wr_id (by omega) (by omega), this, sI_2, tS_go h]
    · rw [tS_no h, sI_id h4]
theorem in_01 {P : Prop} {inst : Decidable P} : ((if P then (1 : Int) else 0) = 0) ↔ ¬ P := by by_cases h : P <;> simp [h]
theorem r_nmL (ht : tpT t n) {a1 : Int} : ∀ (m : Nat) (e : Int) (I : Nat → Int → Int), (n - e).toNat = m → 0 ≤ e → e ≤ n → tpR I t n → I 87 11 = e → zX 135 82 [vR 87, vI a1] [] (I, zRs b, 103, S) = some (none, (sI I 87 11 (enT t n 0 e), zRs b, 103, S)) := by
  have hn := ht.1
  intro m
  induction m with
  | zero =>
    intro e I h0 h1 h2 h3 h4
    rw [e135_82, h4, r_byte ht h3 h1, Option.bind_some]
    simp only [zpush_s]
    rw [e135_90, r_in, Option.bind_some]
    simp only [zpush_s]
    have ev : bA t n e = -1 := by unfold bA; rw [if_pos (by omega)]
    rw [e135_100, ev, if_pos (by decide), enT_no (by omega), sI_id h4]
  | succ m ih =>
    intro e I h0 h1 h2 h3 h4
    rw [e135_82, h4, r_byte ht h3 h1, Option.bind_some]
    simp only [zpush_s]
    rw [e135_90, r_in, Option.bind_some]
    simp only [zpush_s]
    have ev : bA t n e = t e := by unfold bA; rw [if_neg (by omega)]
    rw [e135_100, ev]
    by_cases h : kO (t e) = 0
    · rw [if_pos (kO_0.mp h), if_neg (by decide), h4, wr_id (by omega) (by omega), ih (e + 1) _ (by omega) (by omega) (by omega) (tpR_c h3 (frK_s (by omega))) sI_s, sI_2, enT_go ⟨by omega, h⟩]
    · rw [if_neg (fun z => h (kO_0.mpr z)), if_pos rfl, enT_no (fun z => h z.2), sI_id h4]
theorem r_fgL (ht : tpT t n) {a1 : Int} (hs : 0 ≤ s) : ∀ (m : Nat) (e : Int) (I : Nat → Int → Int), (n - e).toNat = m → s ≤ e → e ≤ n → tpR I t n → I 87 11 = e → I 87 12 = s → I 87 15 = 0 → I 87 14 = vlT t s e → (∀ j, s ≤ j → j < e → 48 ≤ t j ∧ t j ≤ 57) → ∃ I', zX 135 140 [vR 87, vI a1] [] (I, zRs b, 103, S) = some (none, (I', zRs b, 103, S)) ∧ I' 87 11 = enT t n 1 e ∧ I' 87 12 = s ∧ I' 87 13 = I 87 13 ∧ I' 87 14 = vlT t s (enT t n 1 e) ∧ (2 < enT t n 1 e - s → I' 87 15 = 1 ∧ I' 87 16 = s) ∧ (enT t n 1 e - s ≤ 2 → I' 87 15 = 0) ∧ frK I I' := by
  have hn := ht.1
  have fin : ∀ (e : Int) (I : Nat → Int → Int), s ≤ e → e ≤ n → I 87 11 = e → I 87 12 = s → I 87 15 = 0 → I 87 14 = vlT t s e → ∃ I', zX 135 158 [vR 87, vI a1] [vI 0] (I, zRs b, 103, S) = some (none, (I', zRs b, 103, S)) ∧ I' 87 11 = e ∧ I' 87 12 = s ∧ I' 87 13 = I 87 13 ∧ I' 87 14 = vlT t s e ∧ (2 < e - s → I' 87 15 = 1 ∧ I' 87 16 = s) ∧ (e - s ≤ 2 → I' 87 15 = 0) ∧ frK I I' := by
    intro e I h1 h2 h3 h4 h5 h6
    rw [e135_158, if_pos rfl, h3, h4, wr_id (by omega) (by omega)]
    by_cases c : 2 < e - s
    · rw [if_pos c, r_reqF h5, Option.bind_some]
      simp only [zpush_n]
      rw [e135_240]
      refine ⟨_, rfl, by rw [sI_k (by decide), sI_k (by decide)]; exact h3, by rw [sI_k (by decide), sI_k (by decide)]; exact h4, by rw [sI_k (by decide), sI_k (by decide)], by rw [sI_k (by decide), sI_k (by decide)]; exact h6, fun _ => ⟨by rw [sI_k (by decide), sI_s], by rw [sI_s]; exact h4⟩, fun z => by omega, frK_t (frK_s (by decide)) (frK_s (by decide))⟩
    · rw [if_neg c, r_reqN (Or.inl (by decide)), Option.bind_some]
      simp only [zpush_n]
      rw [e135_240]
      exact ⟨I, rfl, h3, h4, rfl, h6, fun z => absurd z c, fun _ => h5, frK_r⟩
  intro m
  induction m with
  | zero =>
    intro e I h0 h1 h2 h3 h4 h5 h6 h7 h8
    rw [e135_140, h4, r_byte ht h3 (by omega), Option.bind_some]
    simp only [zpush_s]
    rw [e135_148, r_in, Option.bind_some]
    simp only [zpush_s]
    have ev : bA t n e = -1 := by unfold bA; rw [if_pos (by omega)]
    rw [ev, if_neg (by decide), enT_no (by omega)]
    exact fin e I h1 h2 h4 h5 h6 h7
  | succ m ih =>
    intro e I h0 h1 h2 h3 h4 h5 h6 h7 h8
    rw [e135_140, h4, r_byte ht h3 (by omega), Option.bind_some]
    simp only [zpush_s]
    rw [e135_148, r_in, Option.bind_some]
    simp only [zpush_s]
    have ev : bA t n e = t e := by unfold bA; rw [if_neg (by omega)]
    rw [ev]
    by_cases h : kO (t e) = 1
    · have d := kO_1 h
      have hx8 : ∀ j, s ≤ j → j < e + 1 → 48 ≤ t j ∧ t j ≤ 57 := fun j j0 j1 => by
        by_cases q : j = e
        · rw [q]; exact d
        · exact h8 j j0 (by omega)
      rw [if_pos d, e135_158, if_neg (by decide), h4, h5, wr_id (a := e - s) (by omega) (by omega), enT_go ⟨by omega, h⟩]
      by_cases c : 2 ≤ e - s
      · rw [if_pos c, sI_id rfl, wr_id (by omega) (by omega)]
        have ev2 : vlT t s (e + 1) = vlT t s e := by unfold vlT; rw [if_neg (by omega), if_neg (by omega), if_neg (by omega), if_neg (by omega)]
        obtain ⟨J, j1, j2, j3, j4, j5, j6, j7, j8⟩ := ih (e + 1) (sI I 87 11 (e + 1)) (by omega) (by omega) (by omega) (tpR_c h3 (frK_s (by decide))) sI_s (by rw [sI_k (by decide)]; exact h5) (by rw [sI_k (by decide)]; exact h6) (by rw [sI_k (by decide), h7, ev2]) hx8
        exact ⟨J, j1, j2, j3, by rw [j4, sI_k (by decide)], j5, j6, j7, frK_t (frK_s (by decide)) j8⟩
      · rw [if_neg c, r_byte ht h3 (by omega), Option.bind_some]
        simp only [zpush_s]
        have vb : 0 ≤ vlT t s e ∧ vlT t s e ≤ 9 ∧ 10 * vlT t s e + t e - 48 = vlT t s (e + 1) := by
          unfold vlT
          by_cases q : e = s
          · rw [if_pos (by omega), if_neg (by omega), if_pos (by omega), q]; omega
          · have := h8 s (by omega) (by omega)
            have e1 : e = s + 1 := by omega
            rw [if_neg (by omega), if_pos e1, if_neg (by omega), if_neg (by omega), e1]; omega
        rw [e135_190, ev, h7, h4, wr_id (a := 10 * vlT t s e) (by omega) (by omega), wr_id (a := 10 * vlT t s e + t e) (by omega) (by omega), wr_id (a := 10 * vlT t s e + t e - 48) (by omega) (by omega), wr_id (a := e + 1) (by omega) (by omega), vb.2.2]
        obtain ⟨J, j1, j2, j3, j4, j5, j6, j7, j8⟩ := ih (e + 1) (sI (sI I 87 14 (vlT t s (e + 1))) 87 11 (e + 1)) (by omega) (by omega) (by omega) (tpR_c h3 (frK_t (frK_s (by decide)) (frK_s (by decide)))) sI_s (by rw [sI_k (by decide), sI_k (by decide)]; exact h5) (by rw [sI_k (by decide), sI_k (by decide)]; exact h6) (by rw [sI_k (by decide), sI_s]) hx8
        exact ⟨J, j1, j2, j3, by rw [j4, sI_k (by decide), sI_k (by decide)], j5, j6, j7, frK_t (frK_t (frK_s (by decide)) (frK_s (by decide))) j8⟩
    · rw [if_neg (fun z => h (kO_1'.mpr z)), enT_no (fun z => h z.2)]
      exact fin e I h1 h2 h4 h5 h6 h7
theorem r_tok (ht : tpT t n) (hp : 0 ≤ p ∧ p ≤ n) (hI : tpR I t n) (h11 : I 87 11 = p) (h15 : I 87 15 = 0) : ∃ I', zrun 135 [vR 87] (I, zRs b, 103, S) = some (none, (I', zRs b, 103, S)) ∧ rT I' t n p ∧ frK I I' := by
  have hn := ht.1
  have a := tS_b (t := t) (n - p).toNat p rfl hp.2
  have st : zrun 135 [vR 87] (I, zRs b, 103, S) = zX 135 8 [vR 87, none] [] (sI I 87 11 (tS t n p), zRs b, 103, S) := by
    rw [run135, e135_0, if_pos (by omega), r_skip ht (n - p).toNat p I rfl hp.1 hp.2 hI h11]
  generalize hA : sI I 87 11 (tS t n p) = A at st
  have fA : frK I A := by rw [← hA]; exact frK_s (by decide)
  have tA := tpR_c hI fA
  have a11 : A 87 11 = tS t n p := by rw [← hA, sI_s]
  have nsp : bA t n (tS t n p) ≠ 32 := by
    unfold bA
    by_cases c : n ≤ tS t n p
    · rw [if_pos c]; decide
    · rw [if_neg c]; exact a.2.2 (by omega)
  generalize hB : sI A 87 12 (tS t n p) = B
  have fB : frK I B := frK_t fA (by rw [← hB]; exact frK_s (by decide))
  have tB := tpR_c hI fB
  have b11 : B 87 11 = tS t n p := by rw [← hB, sI_k (by decide)]; exact a11
  have b12 : B 87 12 = tS t n p := by rw [← hB, sI_s]
  have b15 : B 87 15 = 0 := by rw [← hB, sI_k (by decide), ← hA, sI_k (by decide)]; exact h15
  have st2 : zrun 135 [vR 87] (I, zRs b, 103, S) = zX 135 50 [vR 87, none] [vI (bA t n (tS t n p))] (B, zRs b, 103, S) := by
    rw [st, e135_8, a11, r_byte ht tA (by omega), Option.bind_some]
    simp only [zpush_s]
    rw [e135_16, if_neg nsp, a11, hB, r_byte ht tB (by omega), Option.bind_some]
    simp only [zpush_s]
  by_cases h : n ≤ tS t n p
  · have k3 : tK t n p = 3 := by unfold tK; rw [if_neg (by omega)]
    have eE : tE t n p = tS t n p := by unfold tE; rw [if_neg (by omega)]
    have ev : bA t n (tS t n p) = -1 := by unfold bA; rw [if_pos h]
    refine ⟨sI B 87 13 0, ?_, ⟨by rw [sI_k (by decide)]; exact b12, by rw [sI_k (by decide), eE]; exact b11, fun _ => ⟨by rw [sI_k (by decide)]; exact b15, by rw [sI_s, k3]; rfl, fun z => by omega⟩, fun z => by omega⟩, frK_t fB (frK_s (by decide))⟩
    rw [st2, e135_50, ev, if_neg (by decide)]
  · have lt : tS t n p < n := by omega
    have ev : bA t n (tS t n p) = t (tS t n p) := by unfold bA; rw [if_neg h]
    have tb := ht.2 (tS t n p) (by omega) lt
    have st3 : zrun 135 [vR 87] (I, zRs b, 103, S) = zX 135 74 [vR 87, vI (t (tS t n p))] [vI (if 97 ≤ t (tS t n p) ∧ t (tS t n p) ≤ 122 then 1 else 0)] (B, zRs b, 103, S) := by
      rw [st2, e135_50, ev, if_pos tb.1, r_in, Option.bind_some]
      simp only [zpush_s]
    by_cases c0 : kO (t (tS t n p)) = 0
    · have eE : tE t n p = enT t n 0 (tS t n p) := by unfold tE; rw [if_pos lt, if_pos (Or.inl c0), c0]
      have eK : tK t n p = 0 := by unfold tK; rw [if_pos lt, if_neg (by omega), c0]
      refine ⟨sI (sI B 87 13 1) 87 11 (enT t n 0 (tS t n p)), ?_, ⟨by rw [sI_k (by decide), sI_k (by decide)]; exact b12, by rw [sI_s, eE], fun _ => ⟨by rw [sI_k (by decide), sI_k (by decide)]; exact b15, by rw [sI_k (by decide), sI_s, eK]; rfl, fun z => by omega⟩, fun z => by omega⟩, frK_t fB (frK_t (frK_s (by decide)) (frK_s (by decide)))⟩
      rw [st3, e135_74, if_pos (kO_0.mp c0), if_neg (by decide), r_nmL ht (n - tS t n p).toNat (tS t n p) _ rfl (by omega) (by omega) (tpR_c tB (frK_s (by decide))) (by rw [sI_k (by decide)]; exact b11)]
    · have st4 : zrun 135 [vR 87] (I, zRs b, 103, S) = zX 135 127 [vR 87, vI (t (tS t n p))] [vI (if 48 ≤ t (tS t n p) ∧ t (tS t n p) ≤ 57 then 1 else 0)] (B, zRs b, 103, S) := by
        rw [st3, e135_74, if_neg (fun z => c0 (kO_0.mpr z)), if_pos rfl, r_in, Option.bind_some]
        simp only [zpush_s]
      by_cases c1 : kO (t (tS t n p)) = 1
      · have eE : tE t n p = enT t n 1 (tS t n p) := by unfold tE; rw [if_pos lt, if_pos (Or.inr c1), c1]
        have eK : tK t n p = if 2 < enT t n 1 (tS t n p) - tS t n p then 4 else 1 := by
          unfold tK
          rw [if_pos lt, eE, c1]
          by_cases c : 2 < enT t n 1 (tS t n p) - tS t n p
          · rw [if_pos ⟨rfl, c⟩, if_pos c]
          · rw [if_neg (fun z => c z.2), if_neg c]
        generalize hC : sI (sI B 87 13 2) 87 14 0 = C
        have fC : frK B C := by rw [← hC]; exact frK_t (frK_s (by decide)) (frK_s (by decide))
        have c13 : C 87 13 = 2 := by rw [← hC, sI_k (by decide), sI_s]
        obtain ⟨J, j1, j2, j3, j4, j5, j6, j7, j8⟩ := r_fgL (b := b) (S := S) ht (a1 := t (tS t n p)) (s := tS t n p) (by omega) (n - tS t n p).toNat (tS t n p) C rfl (by omega) (by omega) (tpR_c tB fC) (by rw [← hC, sI_k (by decide), sI_k (by decide)]; exact b11) (by rw [← hC, sI_k (by decide), sI_k (by decide)]; exact b12) (by rw [← hC, sI_k (by decide), sI_k (by decide)]; exact b15) (by rw [← hC, sI_s]; unfold vlT; rw [if_pos (by omega)]) (fun j q0 q1 => by omega)
        refine ⟨J, ?_, ⟨j3, by rw [j2, eE], fun z => ?_, fun z => ?_⟩, frK_t fB (frK_t fC j8)⟩
        · rw [st4, e135_127, if_pos (kO_1 c1), if_neg (by decide), hC, j1]
        · rw [eK] at z ⊢
          split at z
          · omega
          · rename_i w
            rw [if_neg w]
            exact ⟨j7 (by omega), by rw [j4, c13]; rfl, fun _ => by unfold tV; rw [j5, eE]⟩
        · rw [eK] at z
          split at z
          · rename_i w; exact j6 w
          · omega
      · have eE : tE t n p = tS t n p + 1 := by unfold tE; rw [if_pos lt, if_neg (by omega)]
        have eK : tK t n p = kO (t (tS t n p)) := by unfold tK; rw [if_pos lt, if_neg (by omega)]
        have kb := kO_b (t (tS t n p))
        have c2 : kO (t (tS t n p)) = 2 ↔ (t (tS t n p) = 40 ∨ t (tS t n p) = 41 ∨ t (tS t n p) = 59) := by
          have n0 : ¬ (97 ≤ t (tS t n p) ∧ t (tS t n p) ≤ 122) := fun z => c0 (kO_0.mpr z)
          have n1 : ¬ (48 ≤ t (tS t n p) ∧ t (tS t n p) ≤ 57) := fun z => c1 (kO_1'.mpr z)
          unfold kO
          rw [if_neg n0, if_neg n1]
          by_cases q : t (tS t n p) = 40 ∨ t (tS t n p) = 41 ∨ t (tS t n p) = 59
          · rw [if_pos q]; exact ⟨fun _ => q, fun _ => rfl⟩
          · rw [if_neg q]; exact ⟨fun z => absurd z (by decide), fun z => absurd z q⟩
        generalize hC : sI B 87 13 3 = C
        have fC : frK B C := by rw [← hC]; exact frK_s (by decide)
        have c15 : C 87 15 = 0 := by rw [← hC, sI_k (by decide)]; exact b15
        have c12 : C 87 12 = tS t n p := by rw [← hC, sI_k (by decide)]; exact b12
        have c11 : C 87 11 = tS t n p := by rw [← hC, sI_k (by decide)]; exact b11
        have c13 : C 87 13 = 3 := by rw [← hC, sI_s]
        have n1 : ¬ (48 ≤ t (tS t n p) ∧ t (tS t n p) ≤ 57) := fun z => c1 (kO_1'.mpr z)
        by_cases q : kO (t (tS t n p)) = 2
        · have ch := c2.mp q
          refine ⟨sI C 87 11 (tS t n p + 1), ?_, ⟨by rw [sI_k (by decide)]; exact c12, by rw [sI_s, eE], fun _ => ⟨by rw [sI_k (by decide)]; exact c15, by rw [sI_k (by decide), c13, eK, q]; rfl, fun z => by omega⟩, fun z => by omega⟩, frK_t fB (frK_t fC (frK_s (by decide)))⟩
          have go : (zrun 129 [vR 87, vI 1, vI 1] (C, zRs b, 103, S)).bind (fun q => zX 135 276 [vR 87, vI (t (tS t n p))] (zpush q.1 []) q.2) = some (none, (sI C 87 11 (tS t n p + 1), zRs b, 103, S)) := by
            rw [r_reqN (Or.inl (by decide)), Option.bind_some]
            simp only [zpush_n]
            rw [e135_276, c11, wr_id (by omega) (by omega)]
          rw [st4, e135_127, if_neg n1, if_pos rfl, hC]
          by_cases q1 : t (tS t n p) = 59
          · rw [if_pos q1, go]
          · rw [if_neg q1]
            by_cases q2 : t (tS t n p) = 40
            · rw [if_pos q2, go]
            · rw [if_neg q2, if_pos (by omega), go]
        · have k4 : tK t n p = 4 := by omega
          have nch : ¬ (t (tS t n p) = 40 ∨ t (tS t n p) = 41 ∨ t (tS t n p) = 59) := fun z => q (c2.mpr z)
          refine ⟨sI (sI (sI C 87 15 1) 87 16 (tS t n p)) 87 11 (tS t n p + 1), ?_, ⟨by rw [sI_k (by decide), sI_k (by decide), sI_k (by decide)]; exact c12, by rw [sI_s, eE], fun z => absurd k4 z, fun _ => ⟨by rw [sI_k (by decide), sI_k (by decide), sI_s], by rw [sI_k (by decide), sI_s]⟩⟩, frK_t fB (frK_t fC (frK_t (frK_s (by decide)) (frK_t (frK_s (by decide)) (frK_s (by decide)))))⟩
          rw [st4, e135_127, if_neg n1, if_pos rfl, if_neg (by omega), if_neg (by omega), if_neg (by omega), hC, r_reqF c15, Option.bind_some]
          simp only [zpush_n]
          rw [e135_276, sI_k (by decide), sI_k (by decide), c11, c12, wr_id (by omega) (by omega)]
end A65
abbrev nmG (t : Int → Int) (n p : Int) : Prop := tK t n p = 0 ∧ tE t n p - tS t n p = 2 ∧ t (tS t n p) = 103 ∧ t (tS t n p + 1) = 111
abbrev nmS (t : Int → Int) (n p : Int) : Prop := tK t n p = 0 ∧ tE t n p - tS t n p = 3 ∧ t (tS t n p) = 115 ∧ t (tS t n p + 1) = 101 ∧ t (tS t n p + 2) = 103
abbrev nmP (t : Int → Int) (n p : Int) : Prop := tK t n p = 0 ∧ tE t n p - tS t n p = 4 ∧ t (tS t n p) = 112 ∧ t (tS t n p + 1) = 108 ∧ t (tS t n p + 2) = 97 ∧ t (tS t n p + 3) = 121
abbrev nmM (t : Int → Int) (n p : Int) : Prop := tK t n p = 0 ∧ tE t n p - tS t n p = 4 ∧ t (tS t n p) = 109 ∧ t (tS t n p + 1) = 97 ∧ t (tS t n p + 2) = 114 ∧ t (tS t n p + 3) = 107
abbrev nmL (t : Int → Int) (n p : Int) : Prop := tK t n p = 0 ∧ tE t n p - tS t n p = 4 ∧ t (tS t n p) = 108 ∧ t (tS t n p + 1) = 111 ∧ t (tS t n p + 2) = 111 ∧ t (tS t n p + 3) = 112
abbrev nmU (t : Int → Int) (n p : Int) : Prop := tK t n p = 0 ∧ tE t n p - tS t n p = 5 ∧ t (tS t n p) = 117 ∧ t (tS t n p + 1) = 110 ∧ t (tS t n p + 2) = 116 ∧ t (tS t n p + 3) = 105 ∧ t (tS t n p + 4) = 108
def kN (t : Int → Int) (n p : Int) : Int := if nmP t n p then 0 else if nmM t n p then 1 else if nmL t n p then 2 else if nmU t n p then 3 else -4
abbrev sgT (t : Int → Int) (n p c : Int) : Prop := tK t n p = 2 ∧ t (tS t n p) = c
section B65
variable {I I' : Nat → Int → Int} {b : Bool} {S : Nat} {t : Int → Int} {n p k s e : Int} {J0 : Nat → Int → Int}
theorem tok_lt (hp : 0 ≤ p ∧ p ≤ n) (h : tK t n p ≠ 3) : 0 ≤ tS t n p ∧ tS t n p < n := by
  have a := tok_b (t := t) hp
  refine ⟨a.1, ?_⟩
  by_cases c : tS t n p < n
  · exact c
  · exact absurd (a.2.2.2.2.1.mpr c) h
theorem sor_1 (h : sor k = 1) : k = 0 := by
  unfold sor at h
  split at h
  · assumption
  · split at h
    · omega
    · split at h <;> omega
theorem sor_2 : sor k = 2 ↔ k = 1 := by
  unfold sor
  constructor
  · intro h
    split at h
    · omega
    · split at h
      · assumption
      · split at h <;> omega
  · intro h; rw [if_neg (by omega), if_pos h]
theorem sor_3 : sor k = 3 ↔ k = 2 := by
  unfold sor
  constructor
  · intro h
    split at h
    · omega
    · split at h
      · omega
      · split at h <;> omega
  · intro h; rw [if_neg (by omega), if_neg (by omega), if_pos h]
theorem r_sign {c : Int} (ht : tpT t n) (hp : 0 ≤ p ∧ p ≤ n) (hI : tpR I t n) (hT : rT I t n p) (h4 : tK t n p ≠ 4) : zrun 136 [vR 87, vI c] (I, zRs b, 103, S) = some (some (vI (if sgT t n p c then 1 else 0)), (I, zRs b, 103, S)) := by
  rw [run136, e136_0, (hT.2.2.1 h4).2.1]
  by_cases h : tK t n p = 2
  · have lt := tok_lt (t := t) hp (by omega)
    rw [if_pos (sor_3.mpr h), hT.1, r_byte ht hI lt.1, Option.bind_some]
    simp only [zpush_s]
    have ev : bA t n (tS t n p) = t (tS t n p) := by unfold bA; rw [if_neg (by omega)]
    rw [e136_16, ev]
    by_cases q : t (tS t n p) = c
    · rw [if_pos q, if_pos ⟨h, q⟩]
    · rw [if_neg q, if_neg (fun z => q z.2)]
  · rw [if_neg (fun z => h (sor_3.mp z)), if_neg (fun z => h z.1)]
theorem r_is {w f x y : Int} (ht : tpT t n) (hp : 0 ≤ p ∧ p ≤ n) (hI : tpR I t n) (hT : rT I t n p) (h4 : tK t n p ≠ 4) (hf : 0 ≤ f ∧ f + 1 < w) : zrun 131 [vR 87, vI w, vI f, vI x, vI y] (I, zRs b, 103, S) = some (some (vI (if tK t n p = 0 ∧ tE t n p - tS t n p = w ∧ t (tS t n p + f) = x ∧ t (tS t n p + (f + 1)) = y then 1 else 0)), (I, zRs b, 103, S)) := by
  have tb := tok_b (t := t) hp
  have hn := ht.1
  rw [run131, e131_0, (hT.2.2.1 h4).2.1, hT.1, hT.2.1]
  by_cases h : tK t n p = 0
  · rw [show sor (tK t n p) = 1 by rw [h]; rfl, if_pos rfl, wr_id (by omega) (by omega)]
    by_cases q : tE t n p - tS t n p = w
    · rw [if_pos q, wr_id (a := tS t n p + f) (by omega) (by omega), r_byte ht hI (by omega), Option.bind_some]
      simp only [zpush_s]
      have ev : bA t n (tS t n p + f) = t (tS t n p + f) := by unfold bA; rw [if_neg (by omega)]
      have ev2 : bA t n (tS t n p + f + 1) = t (tS t n p + (f + 1)) := by unfold bA; rw [if_neg (by omega), Int.add_assoc]
      rw [e131_31, ev, hT.1, wr_id (a := tS t n p + f) (by omega) (by omega)]
      by_cases q1 : t (tS t n p + f) = x
      · rw [if_pos q1, wr_id (by omega) (by omega), r_byte ht hI (by omega), Option.bind_some]
        simp only [zpush_s]
        rw [e131_47, ev2]
        by_cases q2 : t (tS t n p + (f + 1)) = y
        · rw [if_pos q2, if_pos ⟨h, q, q1, q2⟩]
        · rw [if_neg q2, if_neg (fun z => q2 z.2.2.2)]
      · rw [if_neg q1, if_neg (fun z => q1 z.2.2.1)]
    · rw [if_neg q, if_neg (fun z => q z.2.1)]
  · rw [if_neg (fun z => h (sor_1 z)), if_neg (fun z => h z.1)]
theorem r_isSeg (ht : tpT t n) (hp : 0 ≤ p ∧ p ≤ n) (hI : tpR I t n) (hT : rT I t n p) (h4 : tK t n p ≠ 4) : zrun 132 [vR 87] (I, zRs b, 103, S) = some (some (vI (if nmS t n p then 1 else 0)), (I, zRs b, 103, S)) := by
  rw [run132, e132_0, r_is ht hp hI hT h4 (by decide), Option.bind_some]
  simp only [zpush_s]
  rw [e132_10]
  by_cases h : tK t n p = 0 ∧ tE t n p - tS t n p = 3 ∧ t (tS t n p + 0) = 115 ∧ t (tS t n p + (0 + 1)) = 101
  · rw [if_pos h, if_neg (by decide), r_is ht hp hI hT h4 (by decide), Option.bind_some]
    simp only [zpush_s]
    rw [e132_23]
    rw [Int.add_zero] at h
    by_cases h2 : tK t n p = 0 ∧ tE t n p - tS t n p = 3 ∧ t (tS t n p + 1) = 101 ∧ t (tS t n p + (1 + 1)) = 103
    · rw [if_pos h2, if_neg (by decide), if_pos ⟨h.1, h.2.1, h.2.2.1, h2.2.2.1, h2.2.2.2⟩]
    · rw [if_neg h2, if_pos rfl, if_neg (fun z => h2 ⟨z.1, z.2.1, z.2.2.2.1, z.2.2.2.2⟩)]
  · rw [if_neg h, if_pos rfl, if_neg (fun z => h ⟨z.1, z.2.1, by rw [Int.add_zero]; exact z.2.2.1, z.2.2.2.1⟩)]
theorem r_isGo (ht : tpT t n) (hp : 0 ≤ p ∧ p ≤ n) (hI : tpR I t n) (hT : rT I t n p) (h4 : tK t n p ≠ 4) : zrun 133 [vR 87] (I, zRs b, 103, S) = some (some (vI (if nmG t n p then 1 else 0)), (I, zRs b, 103, S)) := by
  rw [run133, e133_0, r_is ht hp hI hT h4 (by decide), Option.bind_some]
  simp only [zpush_s]
  rw [e133_10]
  by_cases h : nmG t n p
  · rw [if_pos (show tK t n p = 0 ∧ tE t n p - tS t n p = 2 ∧ t (tS t n p + 0) = 103 ∧ t (tS t n p + (0 + 1)) = 111 from ⟨h.1, h.2.1, by rw [Int.add_zero]; exact h.2.2.1, h.2.2.2⟩), if_pos (by decide), if_pos h]
  · rw [if_neg (show ¬ (tK t n p = 0 ∧ tE t n p - tS t n p = 2 ∧ t (tS t n p + 0) = 103 ∧ t (tS t n p + (0 + 1)) = 111) from fun z => h ⟨z.1, z.2.1, by rw [← Int.add_zero (tS t n p)]; exact z.2.2.1, z.2.2.2⟩), if_pos (by decide), if_neg h]
theorem r_kind (ht : tpT t n) (hp : 0 ≤ p ∧ p ≤ n) (hI : tpR I t n) (hT : rT I t n p) (h4 : tK t n p ≠ 4) : zrun 134 [vR 87] (I, zRs b, 103, S) = some (some (vI (kN t n p)), (I, zRs b, 103, S)) := by
  have is := fun (w f x y : Int) (hf : 0 ≤ f ∧ f + 1 < w) => r_is (b := b) (S := S) (w := w) (f := f) (x := x) (y := y) ht hp hI hT h4 hf
  have U : ∀ st : Unit, (zrun 131 [vR 87, vI 5, vI 0, vI 117, vI 110] (I, zRs b, 103, S)).bind (fun q => zX 134 94 [vR 87] (zpush q.1 []) q.2) = some (some (vI (if nmU t n p then 3 else -4)), (I, zRs b, 103, S)) := fun _ => by
    rw [is 5 0 117 110 (by decide), Option.bind_some]
    simp only [zpush_s]
    rw [e134_94]
    by_cases h : tK t n p = 0 ∧ tE t n p - tS t n p = 5 ∧ t (tS t n p + 0) = 117 ∧ t (tS t n p + (0 + 1)) = 110
    · rw [if_pos h, if_neg (by decide), is 5 2 116 105 (by decide), Option.bind_some]
      simp only [zpush_s]
      rw [e134_107]
      by_cases h2 : tK t n p = 0 ∧ tE t n p - tS t n p = 5 ∧ t (tS t n p + 2) = 116 ∧ t (tS t n p + (2 + 1)) = 105
      · rw [if_pos h2, if_neg (by decide), is 5 3 105 108 (by decide), Option.bind_some]
        simp only [zpush_s]
        rw [e134_120]
        by_cases h3 : tK t n p = 0 ∧ tE t n p - tS t n p = 5 ∧ t (tS t n p + 3) = 105 ∧ t (tS t n p + (3 + 1)) = 108
        · rw [if_pos h3, if_neg (by decide), if_pos ⟨h.1, h.2.1, by rw [← Int.add_zero (tS t n p)]; exact h.2.2.1, h.2.2.2, h2.2.2.1, h3.2.2.1, h3.2.2.2⟩]
        · rw [if_neg h3, if_pos rfl, if_neg (fun z => h3 ⟨z.1, z.2.1, z.2.2.2.2.2.1, z.2.2.2.2.2.2⟩)]
      · rw [if_neg h2, if_pos rfl, if_neg (fun z => h2 ⟨z.1, z.2.1, z.2.2.2.2.1, z.2.2.2.2.2.1⟩)]
    · rw [if_neg h, if_pos rfl, if_neg (fun z => h ⟨z.1, z.2.1, by rw [Int.add_zero]; exact z.2.2.1, z.2.2.2.1⟩)]
  have L : ∀ st : Unit, (zrun 131 [vR 87, vI 4, vI 0, vI 108, vI 111] (I, zRs b, 103, S)).bind (fun q => zX 134 66 [vR 87] (zpush q.1 []) q.2) = some (some (vI (if nmL t n p then 2 else if nmU t n p then 3 else -4)), (I, zRs b, 103, S)) := fun _ => by
    rw [is 4 0 108 111 (by decide), Option.bind_some]
    simp only [zpush_s]
    rw [e134_66]
    by_cases h : tK t n p = 0 ∧ tE t n p - tS t n p = 4 ∧ t (tS t n p + 0) = 108 ∧ t (tS t n p + (0 + 1)) = 111
    · rw [if_pos h, if_neg (by decide), is 4 2 111 112 (by decide), Option.bind_some]
      simp only [zpush_s]
      rw [e134_79]
      by_cases h2 : tK t n p = 0 ∧ tE t n p - tS t n p = 4 ∧ t (tS t n p + 2) = 111 ∧ t (tS t n p + (2 + 1)) = 112
      · rw [if_pos h2, if_neg (by decide), if_pos ⟨h.1, h.2.1, by rw [← Int.add_zero (tS t n p)]; exact h.2.2.1, h.2.2.2, h2.2.2.1, h2.2.2.2⟩]
      · rw [if_neg h2, if_pos rfl, U (), if_neg (show ¬ nmL t n p from fun z => h2 ⟨z.1, z.2.1, z.2.2.2.2.1, z.2.2.2.2.2⟩)]
    · rw [if_neg h, if_pos rfl, U (), if_neg (show ¬ nmL t n p from fun z => h ⟨z.1, z.2.1, by rw [Int.add_zero]; exact z.2.2.1, z.2.2.2.1⟩)]
  have M : ∀ st : Unit, (zrun 131 [vR 87, vI 4, vI 0, vI 109, vI 97] (I, zRs b, 103, S)).bind (fun q => zX 134 38 [vR 87] (zpush q.1 []) q.2) = some (some (vI (if nmM t n p then 1 else if nmL t n p then 2 else if nmU t n p then 3 else -4)), (I, zRs b, 103, S)) := fun _ => by
    rw [is 4 0 109 97 (by decide), Option.bind_some]
    simp only [zpush_s]
    rw [e134_38]
    by_cases h : tK t n p = 0 ∧ tE t n p - tS t n p = 4 ∧ t (tS t n p + 0) = 109 ∧ t (tS t n p + (0 + 1)) = 97
    · rw [if_pos h, if_neg (by decide), is 4 2 114 107 (by decide), Option.bind_some]
      simp only [zpush_s]
      rw [e134_51]
      by_cases h2 : tK t n p = 0 ∧ tE t n p - tS t n p = 4 ∧ t (tS t n p + 2) = 114 ∧ t (tS t n p + (2 + 1)) = 107
      · rw [if_pos h2, if_neg (by decide), if_pos ⟨h.1, h.2.1, by rw [← Int.add_zero (tS t n p)]; exact h.2.2.1, h.2.2.2, h2.2.2.1, h2.2.2.2⟩]
      · rw [if_neg h2, if_pos rfl, L (), if_neg (show ¬ nmM t n p from fun z => h2 ⟨z.1, z.2.1, z.2.2.2.2.1, z.2.2.2.2.2⟩)]
    · rw [if_neg h, if_pos rfl, L (), if_neg (show ¬ nmM t n p from fun z => h ⟨z.1, z.2.1, by rw [Int.add_zero]; exact z.2.2.1, z.2.2.2.1⟩)]
  have P : ∀ st : Unit, (zrun 131 [vR 87, vI 4, vI 0, vI 112, vI 108] (I, zRs b, 103, S)).bind (fun q => zX 134 10 [vR 87] (zpush q.1 []) q.2) = some (some (vI (if nmP t n p then 0 else if nmM t n p then 1 else if nmL t n p then 2 else if nmU t n p then 3 else -4)), (I, zRs b, 103, S)) := fun _ => by
    rw [is 4 0 112 108 (by decide), Option.bind_some]
    simp only [zpush_s]
    rw [e134_10]
    by_cases h : tK t n p = 0 ∧ tE t n p - tS t n p = 4 ∧ t (tS t n p + 0) = 112 ∧ t (tS t n p + (0 + 1)) = 108
    · rw [if_pos h, if_neg (by decide), is 4 2 97 121 (by decide), Option.bind_some]
      simp only [zpush_s]
      rw [e134_23]
      by_cases h2 : tK t n p = 0 ∧ tE t n p - tS t n p = 4 ∧ t (tS t n p + 2) = 97 ∧ t (tS t n p + (2 + 1)) = 121
      · rw [if_pos h2, if_neg (by decide), if_pos ⟨h.1, h.2.1, by rw [← Int.add_zero (tS t n p)]; exact h.2.2.1, h.2.2.2, h2.2.2.1, h2.2.2.2⟩]
      · rw [if_neg h2, if_pos rfl, M (), if_neg (show ¬ nmP t n p from fun z => h2 ⟨z.1, z.2.1, z.2.2.2.2.1, z.2.2.2.2.2⟩)]
    · rw [if_neg h, if_pos rfl, M (), if_neg (show ¬ nmP t n p from fun z => h ⟨z.1, z.2.1, by rw [Int.add_zero]; exact z.2.2.1, z.2.2.2.1⟩)]
  rw [run134, e134_0, P ()]
  rfl
/-! the class's words -/
theorem c_sign {c : Int} (hn : n ≤ 300) (hp : 0 ≤ p ∧ p ≤ n) (h2 : I 2 2 = tK t n p) (h3 : I 2 3 = tS t n p) (ht : ∀ j, 0 ≤ j → j < n → I 3 j = t j) : zrun 89 [vR 2, vI c] (I, zRs b, 103, S) = some (some (vI (if sgT t n p c then 1 else 0)), (I, zRs b, 103, S)) := by
  rw [run89, e89_0, h2, h3]
  by_cases h : tK t n p = 2
  · have lt := tok_lt (t := t) hp (by omega)
    rw [if_pos h, if_pos (by omega), ht _ lt.1 lt.2]
    by_cases q : t (tS t n p) = c
    · rw [if_pos q, if_pos ⟨h, q⟩]
    · rw [if_neg q, if_neg (fun z => q z.2)]
  · rw [if_neg h, if_neg (fun z => h z.1)]
theorem ch127 : ∀ x : Nat, x < 128 → wc (w2 (· &&& ·) (x : Int) 255) = x := by decide +kernel
theorem j_ci {i L : Int} (h : 0 ≤ i ∧ i < L) : zrun 214 [vI i, vI L] (I, zRs b, 103, S) = some (none, (I, zRs b, 103, S)) := by
  rw [run214, e214_0, run216, e216_0, if_neg (by omega), if_pos h.2, Option.bind_some]
  simp only [zpush_s]
  rw [e214_8]
theorem nm_gen {w : Nat} {L : Int} {c : Int → Int} (h27 : ∀ a : Int, 0 ≤ a → a ≤ L → zX 90 27 [vR 2, vR w, vI a] [] (I, zRs b, 103, S) = if L ≤ a then some (some (vI 1), (I, zRs b, 103, S)) else if t (s + a) = c a then zX 90 27 [vR 2, vR w, vI (a + 1)] [] (I, zRs b, 103, S) else some (some (vI 0), (I, zRs b, 103, S))) : ∀ (m : Nat) (a : Int), a + m = L → 0 ≤ a → (∀ i, 0 ≤ i → i < a → t (s + i) = c i) → ∃ r : Int, zX 90 27 [vR 2, vR w, vI a] [] (I, zRs b, 103, S) = some (some (vI r), (I, zRs b, 103, S)) ∧ ((r = 1 ∧ ∀ i, 0 ≤ i → i < L → t (s + i) = c i) ∨ (r = 0 ∧ ¬ ∀ i, 0 ≤ i → i < L → t (s + i) = c i)) := by
  intro m
  induction m with
  | zero => intro a h0 h1 h2; exact ⟨1, by rw [h27 a h1 (by omega), if_pos (by omega)], Or.inl ⟨rfl, fun i i0 i1 => h2 i i0 (by omega)⟩⟩
  | succ m ih =>
    intro a h0 h1 h2
    have st := h27 a h1 (by omega)
    rw [if_neg (by omega)] at st
    by_cases h : t (s + a) = c a
    · rw [if_pos h] at st
      obtain ⟨r, r1, r2⟩ := ih (a + 1) (by omega) (by omega) (fun i i0 i1 => by
        by_cases e : i = a
        · rw [e]; exact h
        · exact h2 i i0 (by omega))
      exact ⟨r, st.trans r1, r2⟩
    · rw [if_neg h] at st
      exact ⟨0, st, Or.inr ⟨rfl, fun z => h (z a h1 (by omega))⟩⟩
theorem c_nmG (hJ : stJ J0) (hro : ∀ q, 103 < q → I q = J0 q) (hn : n ≤ 300) (hp : 0 ≤ p ∧ p ≤ n) (h2 : I 2 2 = tK t n p) (h3 : I 2 3 = tS t n p) (h4 : I 2 4 = tE t n p) (ht : ∀ j, 0 ≤ j → j < n → I 3 j = t j) : zrun 90 [vR 2, vR 1000] (I, zRs b, 103, S) = some (some (vI (if nmG t n p then 1 else 0)), (I, zRs b, 103, S)) := by
  have tb := tok_b (t := t) hp
  have z1 : I 1000 1 = 0 := by rw [hro _ (by decide), hJ _ _ (by decide)]; rfl
  have by' : ∀ j : Nat, j < 2 → I 1100 j = ((([103, 111] : List Nat).getD j 0 : Nat) : Int) := fun j hj => by
    rw [hro _ (by decide), hJ _ _ (by decide), if_pos (by omega)]
    have : ∀ j : Fin 2, (zroL 1100).getD ((j.val : Int)).toNat 0 = ((([103, 111] : List Nat).getD j.val 0 : Nat) : Int) := by decide
    exact this ⟨j, hj⟩
  have bb : ∀ a : Int, 0 ≤ a → a < 2 → 0 ≤ I 1100 a ∧ I 1100 a < 128 := fun a a0 a1 => by
    have y := by' a.toNat (by omega)
    rw [show ((a.toNat : Nat) : Int) = a by omega] at y
    rw [y]
    have : ∀ j : Fin 2, ([103, 111] : List Nat).getD j.val 0 < 128 := by decide
    have q := this ⟨a.toNat, by omega⟩
    simp only at q
    omega
  have len : zrun 210 [vR 1000] (I, zRs b, 103, S) = some (some (vI 2), (I, zRs b, 103, S)) := by
    rw [run210_w0, e210_0_w0, run212_w0, e212_0_w0, z1, if_pos (by decide), Option.bind_some]
    simp only [zpush_s]
    rw [e210_9_w0]
    rfl
  have chr : ∀ a : Int, 0 ≤ a → a < 2 → zrun 211 [vR 1000, vI a] (I, zRs b, 103, S) = some (some (vI (I 1100 a)), (I, zRs b, 103, S)) := fun a a0 a1 => by
    have q := bb a a0 a1
    have cv : wc (w2 (· &&& ·) (I 1100 a) 255) = I 1100 a := by
      have := ch127 (I 1100 a).toNat (by omega)
      rw [show (((I 1100 a).toNat : Nat) : Int) = I 1100 a by omega] at this
      exact this
    rw [run211_w0, e211_0_w0, run213_w0, e213_0_w0, z1, if_pos rfl, Option.bind_some]
    simp only [zpush_s]
    rw [e211_4_w0, if_neg (by decide), run215_w0, e215_0_w0, j_ci ⟨a0, a1⟩, Option.bind_some]
    simp only [zpush_n]
    rw [e215_6_w0, if_pos ⟨a0, a1⟩, cv, if_pos (by omega), Option.bind_some]
    simp only [zpush_s]
    rw [e211_15_w0, if_pos (by omega)]
  rw [run90_w0, e90_0_w0, h2]
  by_cases k0 : tK t n p = 0
  · rw [if_pos k0, len, Option.bind_some]
    simp only [zpush_s]
    rw [e90_20_w0, h4, h3, wr_id (by omega) (by omega)]
    by_cases q : tE t n p - tS t n p = 2
    · rw [if_pos q]
      obtain ⟨r, r1, r2⟩ := nm_gen (I := I) (b := b) (S := S) (t := t) (s := tS t n p) (w := 1000) (L := 2) (c := I 1100) (fun a a0 a1 => by
        rw [e90_27_w0, len, Option.bind_some]
        simp only [zpush_s]
        rw [e90_32_w0, h3]
        by_cases c : (2 : Int) ≤ a
        · rw [if_pos c, if_pos c]
        · rw [if_neg c, if_neg c, wr_id (a := tS t n p + a) (by omega) (by omega), if_pos (by omega), chr a a0 (by omega), Option.bind_some]
          simp only [zpush_s]
          rw [e90_51_w0, ht _ (by omega) (by omega), wr_id (by omega) (by omega)]) 2 0 (by decide) (by decide) (fun i i0 i1 => by omega)
      rw [r1]
      have b0 := by' 0 (by decide)
      have b1 := by' 1 (by decide)
      rcases r2 with ⟨e, z⟩ | ⟨e, z⟩
      · rw [e, if_pos ⟨k0, q, (by have y := z 0 (by decide) (by decide); rw [Int.add_zero] at y; rw [y]; exact b0), ((z 1 (by decide) (by decide)).trans b1)⟩]
      · rw [e, if_neg (fun w => z (fun i i0 i1 => ?_))]
        have ci : i = 0 ∨ i = 1 := by omega
        rcases ci with rfl | rfl
        · rw [Int.add_zero]; exact (w.2.2.1).trans b0.symm
        · exact (w.2.2.2).trans b1.symm
    · rw [if_neg q, if_neg (fun z => q z.2.1)]
  · rw [if_neg k0, if_neg (fun z => k0 z.1)]
theorem c_nmS (hJ : stJ J0) (hro : ∀ q, 103 < q → I q = J0 q) (hn : n ≤ 300) (hp : 0 ≤ p ∧ p ≤ n) (h2 : I 2 2 = tK t n p) (h3 : I 2 3 = tS t n p) (h4 : I 2 4 = tE t n p) (ht : ∀ j, 0 ≤ j → j < n → I 3 j = t j) : zrun 90 [vR 2, vR 1001] (I, zRs b, 103, S) = some (some (vI (if nmS t n p then 1 else 0)), (I, zRs b, 103, S)) := by
  have tb := tok_b (t := t) hp
  have z1 : I 1001 1 = 0 := by rw [hro _ (by decide), hJ _ _ (by decide)]; rfl
  have by' : ∀ j : Nat, j < 3 → I 1101 j = ((([115, 101, 103] : List Nat).getD j 0 : Nat) : Int) := fun j hj => by
    rw [hro _ (by decide), hJ _ _ (by decide), if_pos (by omega)]
    have : ∀ j : Fin 3, (zroL 1101).getD ((j.val : Int)).toNat 0 = ((([115, 101, 103] : List Nat).getD j.val 0 : Nat) : Int) := by decide
    exact this ⟨j, hj⟩
  have bb : ∀ a : Int, 0 ≤ a → a < 3 → 0 ≤ I 1101 a ∧ I 1101 a < 128 := fun a a0 a1 => by
    have y := by' a.toNat (by omega)
    rw [show ((a.toNat : Nat) : Int) = a by omega] at y
    rw [y]
    have : ∀ j : Fin 3, ([115, 101, 103] : List Nat).getD j.val 0 < 128 := by decide
    have q := this ⟨a.toNat, by omega⟩
    simp only at q
    omega
  have len : zrun 210 [vR 1001] (I, zRs b, 103, S) = some (some (vI 3), (I, zRs b, 103, S)) := by
    rw [run210_w1, e210_0_w1, run212_w1, e212_0_w1, z1, if_pos (by decide), Option.bind_some]
    simp only [zpush_s]
    rw [e210_9_w1]
    rfl
  have chr : ∀ a : Int, 0 ≤ a → a < 3 → zrun 211 [vR 1001, vI a] (I, zRs b, 103, S) = some (some (vI (I 1101 a)), (I, zRs b, 103, S)) := fun a a0 a1 => by
    have q := bb a a0 a1
    have cv : wc (w2 (· &&& ·) (I 1101 a) 255) = I 1101 a := by
      have := ch127 (I 1101 a).toNat (by omega)
      rw [show (((I 1101 a).toNat : Nat) : Int) = I 1101 a by omega] at this
      exact this
    rw [run211_w1, e211_0_w1, run213_w1, e213_0_w1, z1, if_pos rfl, Option.bind_some]
    simp only [zpush_s]
    rw [e211_4_w1, if_neg (by decide), run215_w1, e215_0_w1, j_ci ⟨a0, a1⟩, Option.bind_some]
    simp only [zpush_n]
    rw [e215_6_w1, if_pos ⟨a0, a1⟩, cv, if_pos (by omega), Option.bind_some]
    simp only [zpush_s]
    rw [e211_15_w1, if_pos (by omega)]
  rw [run90_w1, e90_0_w1, h2]
  by_cases k0 : tK t n p = 0
  · rw [if_pos k0, len, Option.bind_some]
    simp only [zpush_s]
    rw [e90_20_w1, h4, h3, wr_id (by omega) (by omega)]
    by_cases q : tE t n p - tS t n p = 3
    · rw [if_pos q]
      obtain ⟨r, r1, r2⟩ := nm_gen (I := I) (b := b) (S := S) (t := t) (s := tS t n p) (w := 1001) (L := 3) (c := I 1101) (fun a a0 a1 => by
        rw [e90_27_w1, len, Option.bind_some]
        simp only [zpush_s]
        rw [e90_32_w1, h3]
        by_cases c : (3 : Int) ≤ a
        · rw [if_pos c, if_pos c]
        · rw [if_neg c, if_neg c, wr_id (a := tS t n p + a) (by omega) (by omega), if_pos (by omega), chr a a0 (by omega), Option.bind_some]
          simp only [zpush_s]
          rw [e90_51_w1, ht _ (by omega) (by omega), wr_id (by omega) (by omega)]) 3 0 (by decide) (by decide) (fun i i0 i1 => by omega)
      rw [r1]
      have b0 := by' 0 (by decide)
      have b1 := by' 1 (by decide)
      have b2 := by' 2 (by decide)
      rcases r2 with ⟨e, z⟩ | ⟨e, z⟩
      · rw [e, if_pos ⟨k0, q, (by have y := z 0 (by decide) (by decide); rw [Int.add_zero] at y; rw [y]; exact b0), ((z 1 (by decide) (by decide)).trans b1), ((z 2 (by decide) (by decide)).trans b2)⟩]
      · rw [e, if_neg (fun w => z (fun i i0 i1 => ?_))]
        have ci : i = 0 ∨ i = 1 ∨ i = 2 := by omega
        rcases ci with rfl | rfl | rfl
        · rw [Int.add_zero]; exact (w.2.2.1).trans b0.symm
        · exact (w.2.2.2.1).trans b1.symm
        · exact (w.2.2.2.2).trans b2.symm
    · rw [if_neg q, if_neg (fun z => q z.2.1)]
  · rw [if_neg k0, if_neg (fun z => k0 z.1)]
theorem c_nmP (hJ : stJ J0) (hro : ∀ q, 103 < q → I q = J0 q) (hn : n ≤ 300) (hp : 0 ≤ p ∧ p ≤ n) (h2 : I 2 2 = tK t n p) (h3 : I 2 3 = tS t n p) (h4 : I 2 4 = tE t n p) (ht : ∀ j, 0 ≤ j → j < n → I 3 j = t j) : zrun 90 [vR 2, vR 1002] (I, zRs b, 103, S) = some (some (vI (if nmP t n p then 1 else 0)), (I, zRs b, 103, S)) := by
  have tb := tok_b (t := t) hp
  have z1 : I 1002 1 = 0 := by rw [hro _ (by decide), hJ _ _ (by decide)]; rfl
  have by' : ∀ j : Nat, j < 4 → I 1102 j = ((([112, 108, 97, 121] : List Nat).getD j 0 : Nat) : Int) := fun j hj => by
    rw [hro _ (by decide), hJ _ _ (by decide), if_pos (by omega)]
    have : ∀ j : Fin 4, (zroL 1102).getD ((j.val : Int)).toNat 0 = ((([112, 108, 97, 121] : List Nat).getD j.val 0 : Nat) : Int) := by decide
    exact this ⟨j, hj⟩
  have bb : ∀ a : Int, 0 ≤ a → a < 4 → 0 ≤ I 1102 a ∧ I 1102 a < 128 := fun a a0 a1 => by
    have y := by' a.toNat (by omega)
    rw [show ((a.toNat : Nat) : Int) = a by omega] at y
    rw [y]
    have : ∀ j : Fin 4, ([112, 108, 97, 121] : List Nat).getD j.val 0 < 128 := by decide
    have q := this ⟨a.toNat, by omega⟩
    simp only at q
    omega
  have len : zrun 210 [vR 1002] (I, zRs b, 103, S) = some (some (vI 4), (I, zRs b, 103, S)) := by
    rw [run210_w2, e210_0_w2, run212_w2, e212_0_w2, z1, if_pos (by decide), Option.bind_some]
    simp only [zpush_s]
    rw [e210_9_w2]
    rfl
  have chr : ∀ a : Int, 0 ≤ a → a < 4 → zrun 211 [vR 1002, vI a] (I, zRs b, 103, S) = some (some (vI (I 1102 a)), (I, zRs b, 103, S)) := fun a a0 a1 => by
    have q := bb a a0 a1
    have cv : wc (w2 (· &&& ·) (I 1102 a) 255) = I 1102 a := by
      have := ch127 (I 1102 a).toNat (by omega)
      rw [show (((I 1102 a).toNat : Nat) : Int) = I 1102 a by omega] at this
      exact this
    rw [run211_w2, e211_0_w2, run213_w2, e213_0_w2, z1, if_pos rfl, Option.bind_some]
    simp only [zpush_s]
    rw [e211_4_w2, if_neg (by decide), run215_w2, e215_0_w2, j_ci ⟨a0, a1⟩, Option.bind_some]
    simp only [zpush_n]
    rw [e215_6_w2, if_pos ⟨a0, a1⟩, cv, if_pos (by omega), Option.bind_some]
    simp only [zpush_s]
    rw [e211_15_w2, if_pos (by omega)]
  rw [run90_w2, e90_0_w2, h2]
  by_cases k0 : tK t n p = 0
  · rw [if_pos k0, len, Option.bind_some]
    simp only [zpush_s]
    rw [e90_20_w2, h4, h3, wr_id (by omega) (by omega)]
    by_cases q : tE t n p - tS t n p = 4
    · rw [if_pos q]
      obtain ⟨r, r1, r2⟩ := nm_gen (I := I) (b := b) (S := S) (t := t) (s := tS t n p) (w := 1002) (L := 4) (c := I 1102) (fun a a0 a1 => by
        rw [e90_27_w2, len, Option.bind_some]
        simp only [zpush_s]
        rw [e90_32_w2, h3]
        by_cases c : (4 : Int) ≤ a
        · rw [if_pos c, if_pos c]
        · rw [if_neg c, if_neg c, wr_id (a := tS t n p + a) (by omega) (by omega), if_pos (by omega), chr a a0 (by omega), Option.bind_some]
          simp only [zpush_s]
          rw [e90_51_w2, ht _ (by omega) (by omega), wr_id (by omega) (by omega)]) 4 0 (by decide) (by decide) (fun i i0 i1 => by omega)
      rw [r1]
      have b0 := by' 0 (by decide)
      have b1 := by' 1 (by decide)
      have b2 := by' 2 (by decide)
      have b3 := by' 3 (by decide)
      rcases r2 with ⟨e, z⟩ | ⟨e, z⟩
      · rw [e, if_pos ⟨k0, q, (by have y := z 0 (by decide) (by decide); rw [Int.add_zero] at y; rw [y]; exact b0), ((z 1 (by decide) (by decide)).trans b1), ((z 2 (by decide) (by decide)).trans b2), ((z 3 (by decide) (by decide)).trans b3)⟩]
      · rw [e, if_neg (fun w => z (fun i i0 i1 => ?_))]
        have ci : i = 0 ∨ i = 1 ∨ i = 2 ∨ i = 3 := by omega
        rcases ci with rfl | rfl | rfl | rfl
        · rw [Int.add_zero]; exact (w.2.2.1).trans b0.symm
        · exact (w.2.2.2.1).trans b1.symm
        · exact (w.2.2.2.2.1).trans b2.symm
        · exact (w.2.2.2.2.2).trans b3.symm
    · rw [if_neg q, if_neg (fun z => q z.2.1)]
  · rw [if_neg k0, if_neg (fun z => k0 z.1)]
theorem c_nmM (hJ : stJ J0) (hro : ∀ q, 103 < q → I q = J0 q) (hn : n ≤ 300) (hp : 0 ≤ p ∧ p ≤ n) (h2 : I 2 2 = tK t n p) (h3 : I 2 3 = tS t n p) (h4 : I 2 4 = tE t n p) (ht : ∀ j, 0 ≤ j → j < n → I 3 j = t j) : zrun 90 [vR 2, vR 1003] (I, zRs b, 103, S) = some (some (vI (if nmM t n p then 1 else 0)), (I, zRs b, 103, S)) := by
  have tb := tok_b (t := t) hp
  have z1 : I 1003 1 = 0 := by rw [hro _ (by decide), hJ _ _ (by decide)]; rfl
  have by' : ∀ j : Nat, j < 4 → I 1103 j = ((([109, 97, 114, 107] : List Nat).getD j 0 : Nat) : Int) := fun j hj => by
    rw [hro _ (by decide), hJ _ _ (by decide), if_pos (by omega)]
    have : ∀ j : Fin 4, (zroL 1103).getD ((j.val : Int)).toNat 0 = ((([109, 97, 114, 107] : List Nat).getD j.val 0 : Nat) : Int) := by decide
    exact this ⟨j, hj⟩
  have bb : ∀ a : Int, 0 ≤ a → a < 4 → 0 ≤ I 1103 a ∧ I 1103 a < 128 := fun a a0 a1 => by
    have y := by' a.toNat (by omega)
    rw [show ((a.toNat : Nat) : Int) = a by omega] at y
    rw [y]
    have : ∀ j : Fin 4, ([109, 97, 114, 107] : List Nat).getD j.val 0 < 128 := by decide
    have q := this ⟨a.toNat, by omega⟩
    simp only at q
    omega
  have len : zrun 210 [vR 1003] (I, zRs b, 103, S) = some (some (vI 4), (I, zRs b, 103, S)) := by
    rw [run210_w3, e210_0_w3, run212_w3, e212_0_w3, z1, if_pos (by decide), Option.bind_some]
    simp only [zpush_s]
    rw [e210_9_w3]
    rfl
  have chr : ∀ a : Int, 0 ≤ a → a < 4 → zrun 211 [vR 1003, vI a] (I, zRs b, 103, S) = some (some (vI (I 1103 a)), (I, zRs b, 103, S)) := fun a a0 a1 => by
    have q := bb a a0 a1
    have cv : wc (w2 (· &&& ·) (I 1103 a) 255) = I 1103 a := by
      have := ch127 (I 1103 a).toNat (by omega)
      rw [show (((I 1103 a).toNat : Nat) : Int) = I 1103 a by omega] at this
      exact this
    rw [run211_w3, e211_0_w3, run213_w3, e213_0_w3, z1, if_pos rfl, Option.bind_some]
    simp only [zpush_s]
    rw [e211_4_w3, if_neg (by decide), run215_w3, e215_0_w3, j_ci ⟨a0, a1⟩, Option.bind_some]
    simp only [zpush_n]
    rw [e215_6_w3, if_pos ⟨a0, a1⟩, cv, if_pos (by omega), Option.bind_some]
    simp only [zpush_s]
    rw [e211_15_w3, if_pos (by omega)]
  rw [run90_w3, e90_0_w3, h2]
  by_cases k0 : tK t n p = 0
  · rw [if_pos k0, len, Option.bind_some]
    simp only [zpush_s]
    rw [e90_20_w3, h4, h3, wr_id (by omega) (by omega)]
    by_cases q : tE t n p - tS t n p = 4
    · rw [if_pos q]
      obtain ⟨r, r1, r2⟩ := nm_gen (I := I) (b := b) (S := S) (t := t) (s := tS t n p) (w := 1003) (L := 4) (c := I 1103) (fun a a0 a1 => by
        rw [e90_27_w3, len, Option.bind_some]
        simp only [zpush_s]
        rw [e90_32_w3, h3]
        by_cases c : (4 : Int) ≤ a
        · rw [if_pos c, if_pos c]
        · rw [if_neg c, if_neg c, wr_id (a := tS t n p + a) (by omega) (by omega), if_pos (by omega), chr a a0 (by omega), Option.bind_some]
          simp only [zpush_s]
          rw [e90_51_w3, ht _ (by omega) (by omega), wr_id (by omega) (by omega)]) 4 0 (by decide) (by decide) (fun i i0 i1 => by omega)
      rw [r1]
      have b0 := by' 0 (by decide)
      have b1 := by' 1 (by decide)
      have b2 := by' 2 (by decide)
      have b3 := by' 3 (by decide)
      rcases r2 with ⟨e, z⟩ | ⟨e, z⟩
      · rw [e, if_pos ⟨k0, q, (by have y := z 0 (by decide) (by decide); rw [Int.add_zero] at y; rw [y]; exact b0), ((z 1 (by decide) (by decide)).trans b1), ((z 2 (by decide) (by decide)).trans b2), ((z 3 (by decide) (by decide)).trans b3)⟩]
      · rw [e, if_neg (fun w => z (fun i i0 i1 => ?_))]
        have ci : i = 0 ∨ i = 1 ∨ i = 2 ∨ i = 3 := by omega
        rcases ci with rfl | rfl | rfl | rfl
        · rw [Int.add_zero]; exact (w.2.2.1).trans b0.symm
        · exact (w.2.2.2.1).trans b1.symm
        · exact (w.2.2.2.2.1).trans b2.symm
        · exact (w.2.2.2.2.2).trans b3.symm
    · rw [if_neg q, if_neg (fun z => q z.2.1)]
  · rw [if_neg k0, if_neg (fun z => k0 z.1)]
theorem c_nmL (hJ : stJ J0) (hro : ∀ q, 103 < q → I q = J0 q) (hn : n ≤ 300) (hp : 0 ≤ p ∧ p ≤ n) (h2 : I 2 2 = tK t n p) (h3 : I 2 3 = tS t n p) (h4 : I 2 4 = tE t n p) (ht : ∀ j, 0 ≤ j → j < n → I 3 j = t j) : zrun 90 [vR 2, vR 1004] (I, zRs b, 103, S) = some (some (vI (if nmL t n p then 1 else 0)), (I, zRs b, 103, S)) := by
  have tb := tok_b (t := t) hp
  have z1 : I 1004 1 = 0 := by rw [hro _ (by decide), hJ _ _ (by decide)]; rfl
  have by' : ∀ j : Nat, j < 4 → I 1104 j = ((([108, 111, 111, 112] : List Nat).getD j 0 : Nat) : Int) := fun j hj => by
    rw [hro _ (by decide), hJ _ _ (by decide), if_pos (by omega)]
    have : ∀ j : Fin 4, (zroL 1104).getD ((j.val : Int)).toNat 0 = ((([108, 111, 111, 112] : List Nat).getD j.val 0 : Nat) : Int) := by decide
    exact this ⟨j, hj⟩
  have bb : ∀ a : Int, 0 ≤ a → a < 4 → 0 ≤ I 1104 a ∧ I 1104 a < 128 := fun a a0 a1 => by
    have y := by' a.toNat (by omega)
    rw [show ((a.toNat : Nat) : Int) = a by omega] at y
    rw [y]
    have : ∀ j : Fin 4, ([108, 111, 111, 112] : List Nat).getD j.val 0 < 128 := by decide
    have q := this ⟨a.toNat, by omega⟩
    simp only at q
    omega
  have len : zrun 210 [vR 1004] (I, zRs b, 103, S) = some (some (vI 4), (I, zRs b, 103, S)) := by
    rw [run210_w4, e210_0_w4, run212_w4, e212_0_w4, z1, if_pos (by decide), Option.bind_some]
    simp only [zpush_s]
    rw [e210_9_w4]
    rfl
  have chr : ∀ a : Int, 0 ≤ a → a < 4 → zrun 211 [vR 1004, vI a] (I, zRs b, 103, S) = some (some (vI (I 1104 a)), (I, zRs b, 103, S)) := fun a a0 a1 => by
    have q := bb a a0 a1
    have cv : wc (w2 (· &&& ·) (I 1104 a) 255) = I 1104 a := by
      have := ch127 (I 1104 a).toNat (by omega)
      rw [show (((I 1104 a).toNat : Nat) : Int) = I 1104 a by omega] at this
      exact this
    rw [run211_w4, e211_0_w4, run213_w4, e213_0_w4, z1, if_pos rfl, Option.bind_some]
    simp only [zpush_s]
    rw [e211_4_w4, if_neg (by decide), run215_w4, e215_0_w4, j_ci ⟨a0, a1⟩, Option.bind_some]
    simp only [zpush_n]
    rw [e215_6_w4, if_pos ⟨a0, a1⟩, cv, if_pos (by omega), Option.bind_some]
    simp only [zpush_s]
    rw [e211_15_w4, if_pos (by omega)]
  rw [run90_w4, e90_0_w4, h2]
  by_cases k0 : tK t n p = 0
  · rw [if_pos k0, len, Option.bind_some]
    simp only [zpush_s]
    rw [e90_20_w4, h4, h3, wr_id (by omega) (by omega)]
    by_cases q : tE t n p - tS t n p = 4
    · rw [if_pos q]
      obtain ⟨r, r1, r2⟩ := nm_gen (I := I) (b := b) (S := S) (t := t) (s := tS t n p) (w := 1004) (L := 4) (c := I 1104) (fun a a0 a1 => by
        rw [e90_27_w4, len, Option.bind_some]
        simp only [zpush_s]
        rw [e90_32_w4, h3]
        by_cases c : (4 : Int) ≤ a
        · rw [if_pos c, if_pos c]
        · rw [if_neg c, if_neg c, wr_id (a := tS t n p + a) (by omega) (by omega), if_pos (by omega), chr a a0 (by omega), Option.bind_some]
          simp only [zpush_s]
          rw [e90_51_w4, ht _ (by omega) (by omega), wr_id (by omega) (by omega)]) 4 0 (by decide) (by decide) (fun i i0 i1 => by omega)
      rw [r1]
      have b0 := by' 0 (by decide)
      have b1 := by' 1 (by decide)
      have b2 := by' 2 (by decide)
      have b3 := by' 3 (by decide)
      rcases r2 with ⟨e, z⟩ | ⟨e, z⟩
      · rw [e, if_pos ⟨k0, q, (by have y := z 0 (by decide) (by decide); rw [Int.add_zero] at y; rw [y]; exact b0), ((z 1 (by decide) (by decide)).trans b1), ((z 2 (by decide) (by decide)).trans b2), ((z 3 (by decide) (by decide)).trans b3)⟩]
      · rw [e, if_neg (fun w => z (fun i i0 i1 => ?_))]
        have ci : i = 0 ∨ i = 1 ∨ i = 2 ∨ i = 3 := by omega
        rcases ci with rfl | rfl | rfl | rfl
        · rw [Int.add_zero]; exact (w.2.2.1).trans b0.symm
        · exact (w.2.2.2.1).trans b1.symm
        · exact (w.2.2.2.2.1).trans b2.symm
        · exact (w.2.2.2.2.2).trans b3.symm
    · rw [if_neg q, if_neg (fun z => q z.2.1)]
  · rw [if_neg k0, if_neg (fun z => k0 z.1)]
theorem c_nmU (hJ : stJ J0) (hro : ∀ q, 103 < q → I q = J0 q) (hn : n ≤ 300) (hp : 0 ≤ p ∧ p ≤ n) (h2 : I 2 2 = tK t n p) (h3 : I 2 3 = tS t n p) (h4 : I 2 4 = tE t n p) (ht : ∀ j, 0 ≤ j → j < n → I 3 j = t j) : zrun 90 [vR 2, vR 1005] (I, zRs b, 103, S) = some (some (vI (if nmU t n p then 1 else 0)), (I, zRs b, 103, S)) := by
  have tb := tok_b (t := t) hp
  have z1 : I 1005 1 = 0 := by rw [hro _ (by decide), hJ _ _ (by decide)]; rfl
  have by' : ∀ j : Nat, j < 5 → I 1105 j = ((([117, 110, 116, 105, 108] : List Nat).getD j 0 : Nat) : Int) := fun j hj => by
    rw [hro _ (by decide), hJ _ _ (by decide), if_pos (by omega)]
    have : ∀ j : Fin 5, (zroL 1105).getD ((j.val : Int)).toNat 0 = ((([117, 110, 116, 105, 108] : List Nat).getD j.val 0 : Nat) : Int) := by decide
    exact this ⟨j, hj⟩
  have bb : ∀ a : Int, 0 ≤ a → a < 5 → 0 ≤ I 1105 a ∧ I 1105 a < 128 := fun a a0 a1 => by
    have y := by' a.toNat (by omega)
    rw [show ((a.toNat : Nat) : Int) = a by omega] at y
    rw [y]
    have : ∀ j : Fin 5, ([117, 110, 116, 105, 108] : List Nat).getD j.val 0 < 128 := by decide
    have q := this ⟨a.toNat, by omega⟩
    simp only at q
    omega
  have len : zrun 210 [vR 1005] (I, zRs b, 103, S) = some (some (vI 5), (I, zRs b, 103, S)) := by
    rw [run210_w5, e210_0_w5, run212_w5, e212_0_w5, z1, if_pos (by decide), Option.bind_some]
    simp only [zpush_s]
    rw [e210_9_w5]
    rfl
  have chr : ∀ a : Int, 0 ≤ a → a < 5 → zrun 211 [vR 1005, vI a] (I, zRs b, 103, S) = some (some (vI (I 1105 a)), (I, zRs b, 103, S)) := fun a a0 a1 => by
    have q := bb a a0 a1
    have cv : wc (w2 (· &&& ·) (I 1105 a) 255) = I 1105 a := by
      have := ch127 (I 1105 a).toNat (by omega)
      rw [show (((I 1105 a).toNat : Nat) : Int) = I 1105 a by omega] at this
      exact this
    rw [run211_w5, e211_0_w5, run213_w5, e213_0_w5, z1, if_pos rfl, Option.bind_some]
    simp only [zpush_s]
    rw [e211_4_w5, if_neg (by decide), run215_w5, e215_0_w5, j_ci ⟨a0, a1⟩, Option.bind_some]
    simp only [zpush_n]
    rw [e215_6_w5, if_pos ⟨a0, a1⟩, cv, if_pos (by omega), Option.bind_some]
    simp only [zpush_s]
    rw [e211_15_w5, if_pos (by omega)]
  rw [run90_w5, e90_0_w5, h2]
  by_cases k0 : tK t n p = 0
  · rw [if_pos k0, len, Option.bind_some]
    simp only [zpush_s]
    rw [e90_20_w5, h4, h3, wr_id (by omega) (by omega)]
    by_cases q : tE t n p - tS t n p = 5
    · rw [if_pos q]
      obtain ⟨r, r1, r2⟩ := nm_gen (I := I) (b := b) (S := S) (t := t) (s := tS t n p) (w := 1005) (L := 5) (c := I 1105) (fun a a0 a1 => by
        rw [e90_27_w5, len, Option.bind_some]
        simp only [zpush_s]
        rw [e90_32_w5, h3]
        by_cases c : (5 : Int) ≤ a
        · rw [if_pos c, if_pos c]
        · rw [if_neg c, if_neg c, wr_id (a := tS t n p + a) (by omega) (by omega), if_pos (by omega), chr a a0 (by omega), Option.bind_some]
          simp only [zpush_s]
          rw [e90_51_w5, ht _ (by omega) (by omega), wr_id (by omega) (by omega)]) 5 0 (by decide) (by decide) (fun i i0 i1 => by omega)
      rw [r1]
      have b0 := by' 0 (by decide)
      have b1 := by' 1 (by decide)
      have b2 := by' 2 (by decide)
      have b3 := by' 3 (by decide)
      have b4 := by' 4 (by decide)
      rcases r2 with ⟨e, z⟩ | ⟨e, z⟩
      · rw [e, if_pos ⟨k0, q, (by have y := z 0 (by decide) (by decide); rw [Int.add_zero] at y; rw [y]; exact b0), ((z 1 (by decide) (by decide)).trans b1), ((z 2 (by decide) (by decide)).trans b2), ((z 3 (by decide) (by decide)).trans b3), ((z 4 (by decide) (by decide)).trans b4)⟩]
      · rw [e, if_neg (fun w => z (fun i i0 i1 => ?_))]
        have ci : i = 0 ∨ i = 1 ∨ i = 2 ∨ i = 3 ∨ i = 4 := by omega
        rcases ci with rfl | rfl | rfl | rfl | rfl
        · rw [Int.add_zero]; exact (w.2.2.1).trans b0.symm
        · exact (w.2.2.2.1).trans b1.symm
        · exact (w.2.2.2.2.1).trans b2.symm
        · exact (w.2.2.2.2.2.1).trans b3.symm
        · exact (w.2.2.2.2.2.2).trans b4.symm
    · rw [if_neg q, if_neg (fun z => q z.2.1)]
  · rw [if_neg k0, if_neg (fun z => k0 z.1)]
end B65
