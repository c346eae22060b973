/-! ===== how the class's cells stand for the row; small words ===== -/
def lav (f : Int → Int) : Int := f 9 + 2 * f 10 + 4 * f 11 + 8 * f 12
def laOk (f : Int → Int) : Prop := (f 9 = 0 ∨ f 9 = 1) ∧ (f 10 = 0 ∨ f 10 = 1) ∧ (f 11 = 0 ∨ f 11 = 1) ∧ (f 12 = 0 ∨ f 12 = 1)
def cuR' (I : Nat → Int → Int) (c : Nat) (f : Int → Int) : Prop := I c 1 = f 1 ∧ I c 3 = lav f ∧ ∀ j, 0 ≤ j → j < 24 → I (c + 1) j = f (18 + j)
def cuR (I : Nat → Int → Int) (c : Nat) (f : Int → Int) : Prop := I c 0 = f 0 ∧ cuR' I c f
def hd40 (t : Int) : Int := if t < 40 then t else 40
def mkR (I : Nat → Int → Int) (k : Nat) (f : Int → Int) : Prop := I k 2 = f 6 ∧ ∀ j, 0 ≤ j → j < hd40 (f 6) → I (k + 1) ((f 6 - hd40 (f 6) + j) % 40) = f (312 + 2 * j) ∧ I (k + 2) ((f 6 - hd40 (f 6) + j) % 40) = f (313 + 2 * j)
def pgR (I : Nat → Int → Int) (c : Nat) (f : Int → Int) : Prop := I c 1 = f 7 ∧ I c 4 = f 8 ∧ (∀ j, 0 ≤ j → j < f 7 → I (c + 1) j = f (42 + j)) ∧ ∀ j, 0 ≤ j → j < f 8 → I (c + 2) j = f (48 + j) ∧ I (c + 3) j = f (80 + j)
def plR (I : Nat → Int → Int) (p : Nat) (f : Int → Int) : Prop := I p 5 = f 4 ∧ I p 6 = f 5 ∧ I p 7 = f 2 ∧ I p 8 = f 3 ∧ (∀ j, 0 ≤ j → j < 200 → j < f 4 → I (p + 10) j = f (112 + j)) ∧ ∀ j, 0 ≤ j → j < 5 → I (p + 11) j = f (13 + j)
def PR (I : Nat → Int → Int) (p : Nat) (f : Int → Int) : Prop := cuR I (p + 1) f ∧ pgR I (p + 3) f ∧ mkR I (p + 7) f ∧ plR I p f
def pgm (I : Nat → Int → Int) (g : Nat) (T fs pl : Int → Int) (pm : Int) : Prop := I g 6 = T 1 ∧ (∀ i, 0 ≤ i → i < T 1 → I (g + 6) i = kd T i ∧ I (g + 7) i = nb T i ∧ I (g + 8) i = pt T i ∧ I (g + 9) i = dp T i) ∧ I (g + 1) 5 = T 0 ∧ I (g + 1) 4 = pm ∧ (∀ s, 0 ≤ s → s < T 0 → I (g + 3) s = fs s ∧ I (g + 4) s = mn T s) ∧ ∀ j, 0 ≤ j → j < pm → I (g + 2) j = pl j
def poolOk (T fs pl : Int → Int) (pm : Int) : Prop := 0 ≤ pm ∧ pm ≤ 128 ∧ ∀ s, 0 ≤ s → s < T 0 → 0 ≤ fs s ∧ fs s + mn T s ≤ pm ∧ ∀ i, 0 ≤ i → i < mn T s → pl (fs s + i) = lv T s i
def frC (c lg : Nat) (I I' : Nat → Int → Int) : Prop := ∀ q, q ≠ c → q ≠ c + 1 → (lg = 0 ∨ q < 15 ∨ 17 < q) → I' q = I q
section A38
variable {I I' : Nat → Int → Int} {b : Bool} {S : Nat} {T fs pl f f' : Int → Int} {pm : Int} {c g k p : Nat}
theorem pgm_fr (hq : ∀ q, g ≤ q → q ≤ g + 12 → I' q = I q) (h : pgm I g T fs pl pm) : pgm I' g T fs pl pm := by
  unfold pgm
  rw [hq g (by omega) (by omega), hq (g + 6) (by omega) (by omega), hq (g + 7) (by omega) (by omega), hq (g + 8) (by omega) (by omega), hq (g + 9) (by omega) (by omega), hq (g + 1) (by omega) (by omega), hq (g + 3) (by omega) (by omega), hq (g + 4) (by omega) (by omega), hq (g + 2) (by omega) (by omega)]
  exact h
theorem pool_fs (ok : tOk T) (hp : poolOk T fs pl pm) : fsOk T fs := fun s h0 h1 => by
  have a := hp.2.2 s h0 h1
  have := hp.2.1
  have m := ok.2.2.1 s h0 h1
  exact ⟨a.1, by omega⟩
theorem mkR_c (h0 : I' k = I k) (h1 : I' (k + 1) = I (k + 1)) (h2 : I' (k + 2) = I (k + 2)) (h6 : f' 6 = f 6) (hf : ∀ c, 312 ≤ c → c < 392 → f' c = f c) (h : mkR I k f) : mkR I' k f' := by
  unfold mkR
  rw [h0, h1, h2, h6]
  refine ⟨h.1, fun j j0 j1 => ?_⟩
  have : j < 40 := by
    unfold hd40 at j1
    split at j1 <;> omega
  rw [hf _ (by omega) (by omega), hf _ (by omega) (by omega)]
  exact h.2 j j0 j1
theorem pgR_c (h : ∀ q, c ≤ q → q ≤ c + 3 → I' q = I q) (h8 : f 8 ≤ 16) (h7 : f 7 ≤ 6) (hf : ∀ c, (c = 7 ∨ c = 8 ∨ (42 ≤ c ∧ c < 112)) → f' c = f c) (hp : pgR I c f) : pgR I' c f' := by
  unfold pgR
  rw [h c (by omega) (by omega), h (c + 1) (by omega) (by omega), h (c + 2) (by omega) (by omega), h (c + 3) (by omega) (by omega), hf 7 (by omega), hf 8 (by omega)]
  refine ⟨hp.1, hp.2.1, fun j j0 j1 => by rw [hf _ (by omega)]; exact hp.2.2.1 j j0 j1, fun j j0 j1 => by rw [hf _ (by omega), hf _ (by omega)]; exact hp.2.2.2 j j0 j1⟩
theorem plR_c (h0 : I' p = I p) (h1 : I' (p + 10) = I (p + 10)) (h2 : I' (p + 11) = I (p + 11)) (hf : ∀ c, (2 ≤ c ∧ c ≤ 5) ∨ (13 ≤ c ∧ c < 18) ∨ (112 ≤ c ∧ c < 312) → f' c = f c) (h : plR I p f) : plR I' p f' := by
  unfold plR
  rw [h0, h1, h2, hf 4 (by omega), hf 5 (by omega), hf 2 (by omega), hf 3 (by omega)]
  refine ⟨h.1, h.2.1, h.2.2.1, h.2.2.2.1, fun j j0 j1 j2 => by rw [hf _ (by omega)]; exact h.2.2.2.2.1 j j0 j1 j2, fun j j0 j1 => by rw [hf _ (by omega)]; exact h.2.2.2.2.2 j j0 j1⟩
theorem cuR'_c (h0 : I' c = I c) (h1 : I' (c + 1) = I (c + 1)) (hf : ∀ c, c = 1 ∨ (9 ≤ c ∧ c < 13) ∨ (18 ≤ c ∧ c < 42) → f' c = f c) (h : cuR' I c f) : cuR' I' c f' := by
  unfold cuR' lav
  rw [h0, h1, hf 1 (by omega), hf 9 (by omega), hf 10 (by omega), hf 11 (by omega), hf 12 (by omega)]
  exact ⟨h.1, h.2.1, fun j j0 j1 => by rw [hf _ (by omega)]; exact h.2.2 j j0 j1⟩
theorem cuR_c (h0 : I' c = I c) (h1 : I' (c + 1) = I (c + 1)) (hf : ∀ c, c = 0 ∨ c = 1 ∨ (9 ≤ c ∧ c < 13) ∨ (18 ≤ c ∧ c < 42) → f' c = f c) (h : cuR I c f) : cuR I' c f' := ⟨by rw [h0, hf 0 (by omega)]; exact h.1, cuR'_c h0 h1 (fun c hc => hf c (by omega)) h.2⟩
theorem laOk_c (hf : ∀ c, 9 ≤ c → c < 13 → f' c = f c) (h : laOk f) : laOk f' := by
  unfold laOk
  rw [hf 9 (by omega) (by omega), hf 10 (by omega) (by omega), hf 11 (by omega) (by omega), hf 12 (by omega) (by omega)]
  exact h
/-! JDK -/
theorem w2x_nn {x y : Int} (hx : 0 ≤ x ∧ x ≤ 2147483647) (hy : 0 ≤ y ∧ y ≤ 2147483647) : 0 ≤ w2 (· ^^^ ·) x y := by
  have m : ∀ z : Int, 0 ≤ z ∧ z ≤ 2147483647 → (Int32.ofInt z).toBitVec.msb = false := by
    intro z hz
    rw [BitVec.msb_eq_toInt]
    have e : (Int32.ofInt z).toBitVec.toInt = z := wr_id (by omega) (by omega)
    rw [e]
    exact decide_eq_false (by omega)
  unfold w2
  have e : ((Int32.ofInt x ^^^ Int32.ofInt y)).toBitVec.msb = false := by
    rw [Int32.toBitVec_xor, BitVec.msb_xor, m x hx, m y hy]; rfl
  rw [BitVec.msb_eq_toInt] at e
  have e2 := of_decide_eq_false e
  show 0 ≤ (Int32.ofInt x ^^^ Int32.ofInt y).toBitVec.toInt
  omega
theorem j_fm {x : Int} (hx : 0 ≤ x ∧ x ≤ 2147483647) : zrun 208 [vI x, vI 40] (I, zRs b, 103, S) = some (some (vI (x % 40)), (I, zRs b, 103, S)) := by
  rw [run208, e208_0, if_neg (by decide), if_pos (w2x_nn hx (by decide)), tm_em hx.1]
theorem j_min {x y : Int} : zrun 209 [vI x, vI y] (I, zRs b, 103, S) = some (some (vI (if y < x then y else x)), (I, zRs b, 103, S)) := by
  rw [run209, e209_0]
  split <;> rfl
/-! latches -/
set_option maxHeartbeats 4000000 in
theorem la_bits (h : laOk f) {x : Int} (hx : 0 ≤ x ∧ x < 4) : (w2 (· &&& ·) (lav f) (w2 (fun a b => a <<< (b &&& 31)) 1 x) = 0 ↔ f (9 + x) = 0) ∧ w2 (· &&& ·) (lav f) (w2 (· ^^^ ·) (w2 (fun a b => a <<< (b &&& 31)) 1 x) (-1)) = lav (up f (9 + x) 0) ∧ w2 (· ||| ·) (lav f) (w2 (fun a b => a <<< (b &&& 31)) 1 x) = lav (up f (9 + x) 1) := by
  obtain ⟨h0, h1, h2, h3⟩ := h
  have hx' : x = 0 ∨ x = 1 ∨ x = 2 ∨ x = 3 := by omega
  unfold lav up
  rcases hx' with rfl | rfl | rfl | rfl <;> rcases h0 with h0 | h0 <;> rcases h1 with h1 | h1 <;> rcases h2 with h2 | h2 <;> rcases h3 with h3 | h3 <;> simp only [h0, h1, h2, h3, Int.reduceAdd, Int.reduceEq, if_true, if_false] <;> decide +kernel
theorem la_up (h : laOk f) {x v : Int} (hx : 0 ≤ x ∧ x < 4) (hv : v = 0 ∨ v = 1) : laOk (up f (9 + x) v) := by
  have a : ∀ c, (f c = 0 ∨ f c = 1) → up f (9 + x) v c = 0 ∨ up f (9 + x) v c = 1 := by
    intro c hc
    unfold up
    split
    · exact hv
    · exact hc
  exact ⟨a _ h.1, a _ h.2.1, a _ h.2.2.1, a _ h.2.2.2⟩
theorem la_of (h : laOk f) {x : Int} (hx : 0 ≤ x ∧ x < 4) : f (9 + x) = 0 ∨ f (9 + x) = 1 := by
  have hx' : x = 0 ∨ x = 1 ∨ x = 2 ∨ x = 3 := by omega
  rcases hx' with rfl | rfl | rfl | rfl
  · exact h.1
  · exact h.2.1
  · exact h.2.2.1
  · exact h.2.2.2
end A38
