/-! ===== rows as functions; the told program's numbers ===== -/
def sP (I : Nat → Int → Int) (p : Nat) (f : Int → Int) : Nat → Int → Int := fun q => if q = p then f else I q
def up (f : Int → Int) (k v : Int) : Int → Int := fun j => if j = k then v else f j
def mix (n : Int) (g f : Int → Int) : Int → Int := fun c => if 0 ≤ c ∧ c < n then g c else f c
section A31
variable {I : Nat → Int → Int} {p q : Nat} {f g : Int → Int} {k j v w : Int}
theorem sP_s : sP I p f p = f := if_pos rfl
theorem sP_n (h : q ≠ p) : sP I p f q = I q := if_neg h
theorem up_s : up f k v k = v := if_pos rfl
theorem up_e (h : j = k) : up f k v j = v := if_pos h
theorem up_n (h : j ≠ k) : up f k v j = f j := if_neg h
theorem sP_sP : sP (sP I p f) p g = sP I p g := by
  funext r; unfold sP; split <;> rfl
theorem sP_I : sP I p (I p) = I := by
  funext r; unfold sP; split
  · rename_i h; rw [h]
  · rfl
theorem sP_c (h : p ≠ q) : sP (sP I p f) q g = sP (sP I q g) p f := by
  funext r; unfold sP
  by_cases h1 : r = q
  · rw [if_pos h1, if_neg (by omega), if_pos h1]
  · rw [if_neg h1, if_neg h1]
theorem sI_sP : sI I p k v = sP I p (up (I p) k v) := by
  funext r j
  unfold sI sP up
  by_cases h1 : r = p
  · rw [if_pos h1, h1]
    by_cases h2 : j = k
    · rw [if_pos ⟨rfl, h2⟩, if_pos h2]
    · rw [if_neg (fun z => h2 z.2), if_neg h2]
  · rw [if_neg (fun z => h1 z.1), if_neg h1]
theorem sIP : sI (sP I p f) p k v = sP I p (up f k v) := by rw [sI_sP, sP_s, sP_sP]
theorem sIP_n (h : q ≠ p) : sI (sP I p f) q k v = sP (sI I q k v) p f := by rw [sI_sP, sI_sP, sP_n h, sP_c (Ne.symm h)]
theorem up_id : up f k (f k) = f := by
  funext j; unfold up; split
  · rename_i h; rw [h]
  · rfl
theorem mix_0 : mix 0 g f = f := by
  funext c; unfold mix; rw [if_neg (by omega)]
theorem mix_up (h : 0 ≤ k) : up (mix k g f) k (g k) = mix (k + 1) g f := by
  funext c; unfold up mix
  by_cases h1 : c = k
  · rw [if_pos h1, if_pos (by omega), h1]
  · rw [if_neg h1]
    by_cases h2 : 0 ≤ c ∧ c < k
    · rw [if_pos h2, if_pos (by omega)]
    · rw [if_neg h2, if_neg (by omega)]
theorem mix_i (h : 0 ≤ j ∧ j < w) : mix w g f j = g j := if_pos h
theorem mix_o (h : ¬ (0 ≤ j ∧ j < w)) : mix w g f j = f j := if_neg h
theorem wr_le (a : Int) : -2147483648 ≤ wr a ∧ wr a ≤ 2147483647 := by
  unfold wr
  have h1 := Int32.le_toInt (Int32.ofInt a)
  have h2 := Int32.toInt_lt (Int32.ofInt a)
  omega
end A31
def kd (T : Int → Int) (i : Int) : Int := T (138 + 4 * i)
def nb (T : Int → Int) (i : Int) : Int := T (139 + 4 * i)
def pt (T : Int → Int) (i : Int) : Int := T (140 + 4 * i)
def dp (T : Int → Int) (i : Int) : Int := T (141 + 4 * i)
def mn (T : Int → Int) (s : Int) : Int := T (2 + 17 * s)
def lv (T : Int → Int) (s i : Int) : Int := T (3 + 17 * s + i)
/-! what a told program keeps to -/
def tOk (T : Int → Int) : Prop := (0 ≤ T 0 ∧ T 0 ≤ 8) ∧ (0 ≤ T 1 ∧ T 1 ≤ 24) ∧ (∀ s, 0 ≤ s → s < T 0 → 1 ≤ mn T s ∧ mn T s ≤ 16) ∧ (∀ s i, 0 ≤ s → s < T 0 → 0 ≤ i → i < mn T s → 0 ≤ lv T s i ∧ lv T s i ≤ 99) ∧ (∀ i, 0 ≤ i → i < T 1 → (0 ≤ kd T i ∧ kd T i ≤ 4) ∧ (kd T i = 0 → 0 ≤ nb T i ∧ nb T i < T 0) ∧ (kd T i = 1 → 0 ≤ nb T i ∧ nb T i ≤ 9) ∧ (kd T i = 2 → 1 ≤ nb T i ∧ nb T i ≤ 9) ∧ (kd T i = 3 → 0 ≤ nb T i ∧ nb T i ≤ 3) ∧ (kd T i = 2 ∨ kd T i = 3 → i < pt T i ∧ pt T i < T 1 ∧ kd T (pt T i) = 4 ∧ pt T (pt T i) = i) ∧ (kd T i = 4 → 0 ≤ pt T i ∧ pt T i < i ∧ (kd T (pt T i) = 2 ∨ kd T (pt T i) = 3) ∧ pt T (pt T i) = i ∧ ∃ p, pt T i < p ∧ p < i ∧ kd T p = 0 ∧ ∀ q, pt T i < q → q < p → kd T q = 1 ∨ kd T q = 2 ∨ kd T q = 3))
/-! the player's steps, on the row of 392 numbers -/
def shF (f : Int → Int) : Int → Int := fun c => if 312 ≤ c ∧ c < 390 then f (c + 2) else f c
def mkF (lg m : Int) (f : Int → Int) : Int → Int := if lg = 0 then f else if f 6 < 40 then up (up (up f (312 + 2 * f 6) m) (313 + 2 * f 6) (f 2)) 6 (f 6 + 1) else up (up (up (shF f) 390 m) 391 (f 2)) 6 (f 6 + 1)
def bE (T : Int → Int) (f : Int → Int) (i : Int) : Int × (Int → Int) := if kd T (pt T i) = 2 then (if wr (f (18 + pt T i) + 1) < nb T (pt T i) then pt T i + 1 else i + 1, up f (18 + pt T i) (wr (f (18 + pt T i) + 1))) else (if f (9 + nb T (pt T i)) = 1 then i + 1 else pt T i + 1, up f (9 + nb T (pt T i)) 0)
def nx (T : Int → Int) (lg i : Int) (f : Int → Int) : Int × (Int → Int) := if kd T i = 4 then bE T f i else (i + 1, if kd T i = 1 then mkF lg (nb T i) f else if kd T i = 2 then up f (18 + i) 0 else f)
def stN (T : Int → Int) (lg : Int) : Nat → Int → (Int → Int) → Option (Int × (Int → Int))
  | 0, i, f => if T 1 ≤ i ∨ kd T i = 0 then some (i, f) else none
  | n + 1, i, f => if T 1 ≤ i ∨ kd T i = 0 then some (i, f) else stN T lg n (nx T lg i f).1 (nx T lg i f).2
def fi (T : Int → Int) (r : Int × (Int → Int)) : Int → Int := if T 1 ≤ r.1 then up (up r.2 0 (-4)) 1 0 else up r.2 0 r.1
def setF (T : Int → Int) (lg i : Int) (f : Int → Int) : Int → Int := fi T ((stN T lg 46 i f).getD (i, f))
def segAt (T f : Int → Int) : Int := nb T (f 0)
def lenAt (T f : Int → Int) : Int := 16 * mn T (segAt T f)
def advN (T : Int → Int) (lg : Int) : Nat → (Int → Int) → Option (Int → Int)
  | 0, f => if f 0 = -4 ∨ f 1 < lenAt T f then some f else none
  | n + 1, f => if f 0 = -4 ∨ f 1 < lenAt T f then some f else advN T lg n (setF T lg (f 0 + 1) (up f 1 (f 1 - lenAt T f)))
def advF (T : Int → Int) (lg : Int) (f : Int → Int) : Int → Int := (advN T lg 20 (up f 1 (f 1 + f 13))).getD f
def lvF (T f : Int → Int) : Int := let s := segAt T f; let k := wr ((f 1).tdiv 16); let x := (f 1).tmod 16; let a := lv T s k; let c := if mn T s ≤ k + 1 then lv T s k else lv T s (k + 1); if f 14 = 0 then a else if f 14 = 1 then wr ((wr (wr (a * wr (16 - x)) + wr (c * x))).tdiv 16) else if 8 ≤ x then c else a
def fnd (a : Int → Int) (v : Int) : Nat → Int → Int
  | 0, _ => -4
  | n + 1, k => if a k = v then k else fnd a v n (k + 1)
def caF (f : Int → Int) (pg : Int) : Int := fnd (fun k => f (42 + k)) pg (f 7).toNat 0
def asF (f : Int → Int) (pg : Int) : Int := fnd (fun k => f (48 + k)) pg (f 8).toNat 0
def lvs (k : Int) (f : Int → Int) : Int → Int := up (fun c => if 42 + k ≤ c ∧ c < 41 + f 7 then f (c + 1) else f c) 7 (f 7 - 1)
def inF (pg : Int) (f : Int → Int) : Int → Int := up (up f (42 + f 7) pg) 7 (f 7 + 1)
def coF (pg : Int) (f : Int → Int) : Int → Int := inF pg (if f 7 = f 15 then lvs 0 f else f)
def arN : Nat → Int → Int → (Int → Int) → Int → Int
  | 0, _, l, f => up f 8 l
  | n + 1, k, l, f => if f 2 < f (80 + k) then arN n (k + 1) (l + 1) (up (up f (48 + l) (f (48 + k))) (80 + l) (f (80 + k))) else arN n (k + 1) l (coF (f (48 + k)) f)
def arF (f : Int → Int) : Int → Int := arN (f 8).toNat 0 0 f
def ouF (x : Int) (f : Int → Int) : Int → Int := up (up (if f 4 < 200 then up f (112 + f 4) x else f) 4 (f 4 + 1)) 3 x
def pgF (T fs f : Int → Int) : Int := (fs (segAt T f) + (f 1).tdiv 16).tdiv 8
def soF (T fs f : Int → Int) : Int → Int := if caF f (pgF T fs f) = -4 then ouF (f 3) (up f 5 (wr (f 5 + 1))) else (fun g => advF T 1 (ouF (lvF T g) g)) (inF (pgF T fs f) (lvs (caF f (pgF T fs f)) f))
def skF (T fs : Int → Int) : Nat → (Int → Int) → List Int
  | 0, _ => []
  | n + 1, f => if f 0 = -4 then [] else pgF T fs f :: skF T fs n (advF T 0 f)
def akF (f : Int → Int) (pg : Int) : Int → Int := if caF f pg = -4 ∧ asF f pg = -4 then up (up (up f (48 + f 8) pg) (80 + f 8) (wr (wr (f 2 + 1) + f 16))) 8 (f 8 + 1) else f
def asksF (T fs f : Int → Int) : Int → Int := (skF T fs (f 17 + 1).toNat f).foldl akF f
def tiF (T fs f : Int → Int) : Int → Int := asksF T fs ((fun g => if g 0 = -4 then g else soF T fs g) (arF (up f 2 (wr (f 2 + 1)))))
def zrF (f : Int → Int) : Int → Int := fun c => if (0 ≤ c ∧ c < 13) ∨ (18 ≤ c ∧ c < 392) then 0 else f c
def begF (T f : Int → Int) : Int → Int := setF T 1 0 (zrF f)
