/-! ===== tokens ===== -/
def skp (t : Int → Int) (n : Int) : Nat → Int → Int
  | 0, p => p
  | m + 1, p => if p < n ∧ t p = 32 then skp t n m (p + 1) else p
def tS (t : Int → Int) (n p : Int) : Int := skp t n (n - p).toNat p
def kO (c : Int) : Int := if 97 ≤ c ∧ c ≤ 122 then 0 else if 48 ≤ c ∧ c ≤ 57 then 1 else if c = 40 ∨ c = 41 ∨ c = 59 then 2 else 4
def rdN (t : Int → Int) (n k : Int) : Nat → Int → Int
  | 0, p => p
  | m + 1, p => if p < n ∧ kO (t p) = k then rdN t n k m (p + 1) else p
def enT (t : Int → Int) (n k p : Int) : Int := rdN t n k (n - p).toNat p
def tE (t : Int → Int) (n p : Int) : Int := if tS t n p < n then (if kO (t (tS t n p)) = 0 ∨ kO (t (tS t n p)) = 1 then enT t n (kO (t (tS t n p))) (tS t n p) else tS t n p + 1) else tS t n p
def tK (t : Int → Int) (n p : Int) : Int := if tS t n p < n then (if kO (t (tS t n p)) = 1 ∧ 2 < tE t n p - tS t n p then 4 else kO (t (tS t n p))) else 3
def vlT (t : Int → Int) (s e : Int) : Int := if e ≤ s then 0 else if e = s + 1 then t s - 48 else 10 * (t s - 48) + (t (s + 1) - 48)
def tV (t : Int → Int) (n p : Int) : Int := vlT t (tS t n p) (tE t n p)
section A64
variable {I I' : Nat → Int → Int} {b : Bool} {S : Nat} {t : Int → Int} {n p k s e : Int}
theorem tS_go (h : p < n ∧ t p = 32) : tS t n p = tS t n (p + 1) := by
  unfold tS
  obtain ⟨m, hm⟩ : ∃ m, (n - p).toNat = m + 1 := ⟨(n - p).toNat - 1, by omega⟩
  rw [hm, show (n - (p + 1)).toNat = m by omega]
  show (if _ then _ else _) = _
  rw [if_pos h]
theorem tS_no (h : ¬ (p < n ∧ t p = 32)) : tS t n p = p := by
  unfold tS
  cases (n - p).toNat with
  | zero => rfl
  | succ m => show (if _ then _ else _) = _; rw [if_neg h]
theorem enT_go (h : p < n ∧ kO (t p) = k) : enT t n k p = enT t n k (p + 1) := by
  unfold enT
  obtain ⟨m, hm⟩ : ∃ m, (n - p).toNat = m + 1 := ⟨(n - p).toNat - 1, by omega⟩
  rw [hm, show (n - (p + 1)).toNat = m by omega]
  show (if _ then _ else _) = _
  rw [if_pos h]
theorem enT_no (h : ¬ (p < n ∧ kO (t p) = k)) : enT t n k p = p := by
  unfold enT
  cases (n - p).toNat with
  | zero => rfl
  | succ m => show (if _ then _ else _) = _; rw [if_neg h]
theorem tS_b : ∀ (m : Nat) (p : Int), (n - p).toNat = m → p ≤ n → p ≤ tS t n p ∧ tS t n p ≤ n ∧ (tS t n p < n → t (tS t n p) ≠ 32) := by
  intro m
  induction m with
  | zero => intro p h0 h1; rw [tS_no (by omega)]; exact ⟨by omega, h1, fun z => by omega⟩
  | succ m ih =>
    intro p h0 h1
    by_cases h : p < n ∧ t p = 32
    · rw [tS_go h]; have a := ih (p + 1) (by omega) (by omega); exact ⟨by omega, a.2⟩
    · rw [tS_no h]; exact ⟨by omega, h1, fun z w => h ⟨z, w⟩⟩
theorem enT_b : ∀ (m : Nat) (p : Int), (n - p).toNat = m → p ≤ n → p ≤ enT t n k p ∧ enT t n k p ≤ n ∧ (∀ j, p ≤ j → j < enT t n k p → kO (t j) = k) ∧ (p < n → kO (t p) = k → p < enT t n k p) := by
  intro m
  induction m with
  | zero => intro p h0 h1; rw [enT_no (by omega)]; exact ⟨by omega, h1, fun j j0 j1 => by omega, fun z => by omega⟩
  | succ m ih =>
    intro p h0 h1
    by_cases h : p < n ∧ kO (t p) = k
    · rw [enT_go h]
      have a := ih (p + 1) (by omega) (by omega)
      refine ⟨by omega, a.2.1, fun j j0 j1 => ?_, fun _ _ => by omega⟩
      by_cases e : j = p
      · rw [e]; exact h.2
      · exact a.2.2.1 j (by omega) j1
    · rw [enT_no h]; exact ⟨by omega, h1, fun j j0 j1 => by omega, fun z w => absurd ⟨z, w⟩ h⟩
theorem kO_b (c : Int) : kO c = 0 ∨ kO c = 1 ∨ kO c = 2 ∨ kO c = 4 := by
  unfold kO
  split
  · omega
  · split
    · omega
    · split <;> omega
theorem kO_1 {c : Int} (h : kO c = 1) : 48 ≤ c ∧ c ≤ 57 := by
  unfold kO at h
  split at h
  · omega
  · split at h
    · assumption
    · split at h <;> omega
theorem kO_0 {c : Int} : kO c = 0 ↔ 97 ≤ c ∧ c ≤ 122 := by
  unfold kO
  constructor
  · intro h
    split at h
    · assumption
    · split at h
      · omega
      · split at h <;> omega
  · intro h; rw [if_pos h]
theorem kO_1' {c : Int} : kO c = 1 ↔ 48 ≤ c ∧ c ≤ 57 := by
  constructor
  · exact kO_1
  · intro h; unfold kO; rw [if_neg (by omega), if_pos h]
theorem tok_b (hp : 0 ≤ p ∧ p ≤ n) : 0 ≤ tS t n p ∧ p ≤ tS t n p ∧ tS t n p ≤ tE t n p ∧ tE t n p ≤ n ∧ (tK t n p = 3 ↔ ¬ tS t n p < n) ∧ (tK t n p ≠ 3 → p < tE t n p) := by
  have a := tS_b (t := t) (n - p).toNat p rfl hp.2
  have kb := kO_b (t (tS t n p))
  by_cases h : tS t n p < n
  · have eb := enT_b (t := t) (k := kO (t (tS t n p))) (n - tS t n p).toNat (tS t n p) rfl (by omega)
    have h3 : tK t n p ≠ 3 := by
      unfold tK
      rw [if_pos h]
      split <;> omega
    have le : tS t n p < tE t n p ∧ tE t n p ≤ n := by
      unfold tE
      rw [if_pos h]
      split
      · exact ⟨eb.2.2.2 h rfl, eb.2.1⟩
      · omega
    exact ⟨by omega, by omega, by omega, by omega, ⟨fun z => absurd z h3, fun z => absurd h z⟩, fun _ => by omega⟩
  · have h3 : tK t n p = 3 := by unfold tK; rw [if_neg h]
    have le : tE t n p = tS t n p := by unfold tE; rw [if_neg h]
    exact ⟨by omega, by omega, by omega, by omega, ⟨fun _ => h, fun _ => h3⟩, fun z => absurd h3 z⟩
theorem tK_b : tK t n p = 0 ∨ tK t n p = 1 ∨ tK t n p = 2 ∨ tK t n p = 3 ∨ tK t n p = 4 := by
  unfold tK
  have := kO_b (t (tS t n p))
  split
  · split <;> omega
  · omega
theorem tV_b (h : tK t n p = 1) (hp : 0 ≤ p ∧ p ≤ n) : 0 ≤ tV t n p ∧ tV t n p ≤ 99 := by
  have tb := tok_b (t := t) hp
  have lt : tS t n p < n := by
    by_cases c : tS t n p < n
    · exact c
    · have := tb.2.2.2.2.1.mpr c; omega
  have k1 : kO (t (tS t n p)) = 1 ∧ tE t n p - tS t n p ≤ 2 := by
    unfold tK at h
    rw [if_pos lt] at h
    split at h
    · omega
    · rename_i z
      exact ⟨h, by
        by_cases c : 2 < tE t n p - tS t n p
        · exact absurd ⟨h, c⟩ z
        · omega⟩
  have eb := enT_b (t := t) (k := 1) (n - tS t n p).toNat (tS t n p) rfl (by omega)
  have ee : tE t n p = enT t n 1 (tS t n p) := by unfold tE; rw [if_pos lt, if_pos (Or.inr k1.1), k1.1]
  unfold tV vlT
  have d0 := kO_1 k1.1
  split
  · omega
  · split
    · omega
    · have d1 := kO_1 (eb.2.2.1 (tS t n p + 1) (by omega) (by omega))
      omega
theorem sI_2 {q : Nat} {j v w : Int} : sI (sI I q j v) q j w = sI I q j w := by rw [sI_sP (I := I), sIP, up_up, ← sI_sP]
theorem sI_id {q : Nat} {j v : Int} (h : I q j = v) : sI I q j v = I := by rw [sI_sP, ← h, up_id, sP_I]
/-! the class's -/
theorem c_kind {c : Int} : zrun 88 [vI c] (I, zRs b, 103, S) = some (some (vI (kO c)), (I, zRs b, 103, S)) := by
  rw [run88, e88_0]
  unfold kO
  repeat' split
  all_goals first | rfl | (exfalso; omega)
theorem c_skip : ∀ (m : Nat) (p : Int) (I : Nat → Int → Int), (n - p).toNat = m → 0 ≤ p → p ≤ n → n ≤ 300 → I 2 1 = n → I 2 3 = p → (∀ j, 0 ≤ j → j < n → I 3 j = t j) → zX 86 8 [vR 2] [] (I, zRs b, 103, S) = zX 86 8 [vR 2] [] (sI I 2 3 (tS t n p), zRs b, 103, S) := by
  intro m
  induction m with
  | zero => intro p I h0 h1 h2 h3 h4 h5 h6; rw [tS_no (by omega), sI_id h5]
  | succ m ih =>
    intro p I h0 h1 h2 h3 h4 h5 h6
    by_cases h : p < n ∧ t p = 32
    · have := ih (p + 1) (sI I 2 3 (p + 1)) (by omega) (by omega) (by omega) h3 (by rw [sI_k (by decide)]; exact h4) sI_s (fun j j0 j1 => by rw [sI_o (by decide)]; exact h6 j j0 j1)
      rw [e86_8, h4, h5, if_neg (by omega), if_pos (by omega), h6 p h1 h.1, if_pos h.2, wr_id (by omega) (by omega), this, sI_2, tS_go h]
    · rw [tS_no h, sI_id h5]
theorem m99 : ∀ x : Nat, x < 100 → w2 (· &&& ·) (x : Int) 65535 = x := by decide +kernel
theorem c_onL (hk : k = 0 ∨ k = 1) (hn : n ≤ 300) (hs : 0 ≤ s) : ∀ (m : Nat) (e : Int) (I : Nat → Int → Int), (n - e).toNat = m → s ≤ e → e ≤ n → I 2 1 = n → I 2 2 = k → I 2 3 = s → I 2 4 = e → (∀ j, 0 ≤ j → j < n → I 3 j = t j) → (k = 1 → e - s ≤ 2 → I 2 5 = vlT t s e) → (k = 1 → ∀ j, s ≤ j → j < e → 48 ≤ t j ∧ t j ≤ 57) → ∃ I', zX 87 5 [vR 2] [] (I, zRs b, 103, S) = some (none, (I', zRs b, 103, S)) ∧ I' 2 1 = n ∧ I' 2 2 = (if k = 1 ∧ 2 < enT t n k e - s then 4 else k) ∧ I' 2 3 = s ∧ I' 2 4 = enT t n k e ∧ (k = 1 → enT t n k e - s ≤ 2 → I' 2 5 = vlT t s (enT t n k e)) ∧ ∀ q, q ≠ 2 → I' q = I q := by
  have fin : ∀ (e : Int) (I : Nat → Int → Int), s ≤ e → e ≤ n → I 2 1 = n → I 2 2 = k → I 2 3 = s → I 2 4 = e → (k = 1 → e - s ≤ 2 → I 2 5 = vlT t s e) → enT t n k e = e → ∃ I' : Nat → Int → Int, (if k = 1 then if wr (e - s) ≤ 2 then some (none, (I, zRs b, 103, S)) else some (none, (sI I 2 2 4, zRs b, 103, S)) else some (none, (I, zRs b, 103, S))) = (some (none, (I', zRs b, 103, S)) : Option (Option zV × zH)) ∧ I' 2 1 = n ∧ I' 2 2 = (if k = 1 ∧ 2 < e - s then 4 else k) ∧ I' 2 3 = s ∧ I' 2 4 = e ∧ (k = 1 → e - s ≤ 2 → I' 2 5 = vlT t s e) ∧ ∀ q, q ≠ 2 → I' q = I q := by
    intro e I h1 h2 h3 h4 h5 h6 h7 _
    by_cases c1 : k = 1
    · rw [if_pos c1, wr_id (by omega) (by omega)]
      by_cases c2 : e - s ≤ 2
      · rw [if_pos c2, if_neg (by omega)]
        exact ⟨I, rfl, h3, h4, h5, h6, h7, fun _ _ => rfl⟩
      · rw [if_neg c2, if_pos (by omega)]
        exact ⟨sI I 2 2 4, rfl, by rw [sI_k (by decide)]; exact h3, sI_s, by rw [sI_k (by decide)]; exact h5, by rw [sI_k (by decide)]; exact h6, fun _ z => absurd z c2, fun q hq => sI_o hq⟩
    · rw [if_neg c1, if_neg (by omega)]
      exact ⟨I, rfl, h3, h4, h5, h6, h7, fun _ _ => rfl⟩
  intro m
  induction m with
  | zero =>
    intro e I h0 h1 h2 h3 h4 h5 h6 h7 h8 h9
    have en := enT_no (t := t) (n := n) (p := e) (k := k) (by omega)
    rw [en, e87_5, h3, h6, if_pos (by omega), h4, h5]
    exact fin e I h1 h2 h3 h4 h5 h6 h8 en
  | succ m ih =>
    intro e I h0 h1 h2 h3 h4 h5 h6 h7 h8 h9
    have te := h7 e (by omega) (by omega)
    rw [e87_5, h3, h6, if_neg (by omega), if_pos (by omega), c_kind, Option.bind_some]
    simp only [zpush_s]
    rw [e87_28, h4, h6, te, h5]
    by_cases h : kO (t e) = k
    · rw [if_pos h, if_pos (by omega), enT_go ⟨by omega, h⟩, wr_id (a := e + 1) (by omega) (by omega)]
      generalize hV : w2 (fun x1 x2 => x1 &&& x2) (wr (wr (wr (I 2 5 * 10) + t e) - 48)) 65535 = V
      obtain ⟨J, j1, j2, j3, j4, j5, j6, j7⟩ := ih (e + 1) (sI (sI I 2 5 V) 2 4 (e + 1)) (by omega) (by omega) (by omega) (by rw [sI_k (by decide), sI_k (by decide)]; exact h3) (by rw [sI_k (by decide), sI_k (by decide)]; exact h4) (by rw [sI_k (by decide), sI_k (by decide)]; exact h5) sI_s (fun j j0 j1 => by rw [sI_o (by decide), sI_o (by decide)]; exact h7 j j0 j1) (fun z1 z2 => by
        rw [sI_k (by decide), sI_s, ← hV, h8 z1 (by omega)]
        rw [z1] at h
        have d := kO_1 h
        have d0 : s < e → 48 ≤ t s ∧ t s ≤ 57 := fun q => h9 z1 s (by omega) q
        have ev : vlT t s e * 10 + t e - 48 = vlT t s (e + 1) ∧ 0 ≤ vlT t s e ∧ vlT t s e ≤ 9 := by
          unfold vlT
          by_cases q : e = s
          · rw [if_pos (by omega), if_neg (by omega), if_pos (by omega), q]; omega
          · have := d0 (by omega)
            have e1 : e = s + 1 := by omega
            rw [if_neg (by omega), if_pos e1, if_neg (by omega), if_neg (by omega), e1]; omega
        rw [wr_id (a := vlT t s e * 10) (by omega) (by omega), wr_id (a := vlT t s e * 10 + t e) (by omega) (by omega), wr_id (a := vlT t s e * 10 + t e - 48) (by omega) (by omega)]
        have mm := m99 (vlT t s e * 10 + t e - 48).toNat (by omega)
        rw [show (((vlT t s e * 10 + t e - 48).toNat : Nat) : Int) = vlT t s e * 10 + t e - 48 by omega] at mm
        rw [mm, ev.1]) (fun z1 j j0 j1 => by
        by_cases q : j = e
        · rw [q]; exact kO_1 (by rw [h]; exact z1)
        · exact h9 z1 j j0 (by omega))
      exact ⟨J, j1, j2, j3, j4, j5, j6, fun q hq => by rw [j7 q hq, sI_o hq, sI_o hq]⟩
    · have en := enT_no (t := t) (n := n) (p := e) (k := k) (fun z => h z.2)
      rw [if_neg h, en]
      exact fin e I h1 h2 h3 h4 h5 h6 h8 en
theorem c_tok (hn : n ≤ 300) (hp : 0 ≤ p ∧ p ≤ n) (h1 : I 2 1 = n) (h4 : I 2 4 = p) (h3 : ∀ j, 0 ≤ j → j < n → I 3 j = t j) : ∃ I', zrun 86 [vR 2] (I, zRs b, 103, S) = some (none, (I', zRs b, 103, S)) ∧ I' 2 1 = n ∧ I' 2 2 = tK t n p ∧ I' 2 3 = tS t n p ∧ I' 2 4 = tE t n p ∧ (tK t n p = 1 → I' 2 5 = tV t n p) ∧ ∀ q, q ≠ 2 → I' q = I q := by
  have a := tS_b (t := t) (n - p).toNat p rfl hp.2
  have st : zrun 86 [vR 2] (I, zRs b, 103, S) = zX 86 8 [vR 2] [] (sI I 2 3 (tS t n p), zRs b, 103, S) := by
    rw [run86, e86_0, h4, c_skip (t := t) (n - p).toNat p (sI I 2 3 p) rfl hp.1 hp.2 hn (by rw [sI_k (by decide)]; exact h1) sI_s (fun j j0 j1 => by rw [sI_o (by decide)]; exact h3 j j0 j1), sI_2]
  generalize hA : sI I 2 3 (tS t n p) = A at st
  have a1 : A 2 1 = n := by rw [← hA, sI_k (by decide)]; exact h1
  have a3 : A 2 3 = tS t n p := by rw [← hA, sI_s]
  have at3 : ∀ j, 0 ≤ j → j < n → A 3 j = t j := fun j j0 j1 => by rw [← hA, sI_o (by decide)]; exact h3 j j0 j1
  have ao : ∀ q, q ≠ 2 → A q = I q := fun q hq => by rw [← hA, sI_o hq]
  rw [st, e86_8, a1, a3]
  by_cases h : n ≤ tS t n p
  · have k3 : tK t n p = 3 := by unfold tK; rw [if_neg (by omega)]
    have eE : tE t n p = tS t n p := by unfold tE; rw [if_neg (by omega)]
    rw [if_pos h, if_pos h]
    exact ⟨_, rfl, by rw [sI_k (by decide), sI_k (by decide)]; exact a1, by rw [sI_s, k3], by rw [sI_k (by decide), sI_k (by decide)]; exact a3, by rw [sI_k (by decide), sI_s, eE], fun z => by omega, fun q hq => by rw [sI_o hq, sI_o hq]; exact ao q hq⟩
  · have lt : tS t n p < n := by omega
    rw [if_neg h, if_pos (by omega), at3 _ (by omega) lt, if_neg (a.2.2 lt), if_neg h, if_pos (by omega), c_kind, Option.bind_some]
    simp only [zpush_s]
    rw [e86_78]
    have kb := kO_b (t (tS t n p))
    generalize hB : sI (sI A 2 4 (tS t n p)) 2 2 (kO (t (tS t n p))) = B
    have b1 : B 2 1 = n := by rw [← hB, sI_k (by decide), sI_k (by decide)]; exact a1
    have b2 : B 2 2 = kO (t (tS t n p)) := by rw [← hB, sI_s]
    have b3 : B 2 3 = tS t n p := by rw [← hB, sI_k (by decide), sI_k (by decide)]; exact a3
    have b4 : B 2 4 = tS t n p := by rw [← hB, sI_k (by decide), sI_s]
    have bo : ∀ q, q ≠ 2 → B q = I q := fun q hq => by rw [← hB, sI_o hq, sI_o hq]; exact ao q hq
    by_cases k01 : kO (t (tS t n p)) = 0 ∨ kO (t (tS t n p)) = 1
    · obtain ⟨J, j1, j2, j3, j4, j5, j6, j7⟩ := c_onL (b := b) (S := S) (t := t) (n := n) (s := tS t n p) (k := kO (t (tS t n p))) k01 hn (by omega) (n - tS t n p).toNat (tS t n p) (sI B 2 5 0) rfl (by omega) (by omega) (by rw [sI_k (by decide)]; exact b1) (by rw [sI_k (by decide)]; exact b2) (by rw [sI_k (by decide)]; exact b3) (by rw [sI_k (by decide)]; exact b4) (fun j q0 q1 => by rw [sI_o (by decide), bo 3 (by decide)]; exact h3 j q0 q1) (fun _ _ => by rw [sI_s]; unfold vlT; rw [if_pos (by omega)]) (fun _ j q0 q1 => by omega)
      have eE : tE t n p = enT t n (kO (t (tS t n p))) (tS t n p) := by unfold tE; rw [if_pos lt, if_pos k01]
      have eK : tK t n p = if kO (t (tS t n p)) = 1 ∧ 2 < enT t n (kO (t (tS t n p))) (tS t n p) - tS t n p then 4 else kO (t (tS t n p)) := by unfold tK; rw [if_pos lt, eE]
      have run : zrun 87 [vR 2] (B, zRs b, 103, S) = some (none, (J, zRs b, 103, S)) := by rw [run87, e87_0, j1]
      refine ⟨J, ?_, j2, by rw [j3, eK], j4, by rw [j5, eE], fun z => ?_, fun q hq => by rw [j7 q hq, sI_o hq]; exact bo q hq⟩
      · rcases k01 with z | z
        · rw [if_pos z, run, Option.bind_some]
          simp only [zpush_n]
          rw [e86_104]
        · rw [if_neg (by omega), if_pos z, run, Option.bind_some]
          simp only [zpush_n]
          rw [e86_104]
      · rw [eK] at z
        split at z
        · omega
        · rename_i w
          unfold tV
          rw [eE]
          exact j6 z (by
            by_cases c : 2 < enT t n (kO (t (tS t n p))) (tS t n p) - tS t n p
            · exact absurd ⟨z, c⟩ w
            · omega)
    · have eE : tE t n p = tS t n p + 1 := by unfold tE; rw [if_pos lt, if_neg k01]
      have eK : tK t n p = kO (t (tS t n p)) := by unfold tK; rw [if_pos lt, if_neg (by omega)]
      rw [if_neg (by omega), if_neg (by omega), if_neg (by omega), sI_s, wr_id (by omega) (by omega)]
      exact ⟨_, rfl, by rw [sI_k (by decide)]; exact b1, by rw [sI_k (by decide), b2, eK], by rw [sI_k (by decide)]; exact b3, by rw [sI_s, eE], fun z => by omega, fun q hq => by rw [sI_o hq]; exact bo q hq⟩
end A64
