/-! ===== what the methods do: the reference's small ones ===== -/
section B0
variable {I : Nat → Int → Int} {b : Bool} {S : Nat}
theorem r_in {v lo hi : Int} : zrun 125 [vL v, vL lo, vL hi] (I, zRs b, 103, S) = some (some (vI (if lo ≤ v ∧ v ≤ hi then 1 else 0)), (I, zRs b, 103, S)) := by
  rw [run125, e125_0]
  by_cases h1 : v < lo
  · rw [if_pos h1, if_pos (by decide), if_neg (by omega)]
  · rw [if_neg h1]
    by_cases h2 : v = lo
    · rw [if_pos h2, if_neg (by decide)]
      by_cases h3 : v < hi
      · rw [if_pos h3, if_neg (by decide), if_pos (by omega)]
      · rw [if_neg h3]
        by_cases h4 : v = hi
        · rw [if_pos h4, if_neg (by decide), if_pos (by omega)]
        · rw [if_neg h4, if_pos (by decide), if_neg (by omega)]
    · rw [if_neg h2, if_neg (by decide)]
      by_cases h3 : v < hi
      · rw [if_pos h3, if_neg (by decide), if_pos (by omega)]
      · rw [if_neg h3]
        by_cases h4 : v = hi
        · rw [if_pos h4, if_neg (by decide), if_pos (by omega)]
        · rw [if_neg h4, if_pos (by decide), if_neg (by omega)]
theorem r_flag {x : Int} : zrun 126 [vI x] (I, zRs b, 103, S) = some (some (vI (if x = 0 then 0 else 1)), (I, zRs b, 103, S)) := by
  rw [run126, e126_0]
  split <;> rfl
theorem if_01 {P : Prop} {inst : Decidable P} : (if (if P then (1 : Int) else 0) = 0 then True else False) ↔ ¬ P := by
  by_cases h : P <;> simp [h]
theorem z01 {α : Type} {P : Prop} {inst : Decidable P} {x y : α} : (if (if P then (1 : Int) else 0) = 0 then x else y) = if P then y else x := by
  by_cases h : P
  · rw [if_pos h, if_pos h]; rfl
  · rw [if_neg h, if_neg h]; rfl
theorem r_many {s : Int} (h : 0 ≤ s ∧ s < 8) : zrun 148 [vR 87, vI s] (I, zRs b, 103, S) = some (some (vI (I 88 (2 + 17 * s))), (I, zRs b, 103, S)) := by
  rw [run148, e148_0]
  simp (disch := omega) only [wr_id, if_pos]
theorem r_levelOf {s i : Int} (h : 0 ≤ s ∧ s < 8) (hi : 0 ≤ i ∧ i < 16) : zrun 149 [vR 87, vI s, vI i] (I, zRs b, 103, S) = some (some (vI (I 88 (3 + 17 * s + i))), (I, zRs b, 103, S)) := by
  rw [run149, e149_0]
  simp (disch := omega) only [wr_id, if_pos]
  rw [show 2 + 17 * s + 1 + i = 3 + 17 * s + i by omega]
theorem r_ofItem {i w : Int} (h : 0 ≤ i ∧ i < 24) (hw : 0 ≤ w ∧ w < 4) : zrun 158 [vR 87, vI i, vI w] (I, zRs b, 103, S) = some (some (vI (I 88 (138 + 4 * i + w))), (I, zRs b, 103, S)) := by
  rw [run158, e158_0]
  simp (disch := omega) only [wr_id, if_pos]
theorem r_isItem {i : Int} (h : 0 ≤ I 88 1 ∧ I 88 1 ≤ 24) : zrun 157 [vR 87, vI i] (I, zRs b, 103, S) = some (some (vI (if 0 ≤ i ∧ i < I 88 1 then 1 else 0)), (I, zRs b, 103, S)) := by
  rw [run157, e157_0, r_in, Option.bind_some]
  simp only [zpush_s]
  rw [e157_15]
  simp (disch := omega) only [wr_id]
  by_cases h1 : 0 ≤ i ∧ i < I 88 1
  · rw [if_pos h1, if_pos (show 0 ≤ i ∧ i ≤ I 88 1 - 1 by omega)]; rfl
  · rw [if_neg h1, if_neg (show ¬ (0 ≤ i ∧ i ≤ I 88 1 - 1) by omega)]; rfl
theorem r_feed {c : Int} (h : 0 ≤ I 87 10 ∧ I 87 10 ≤ 300) : zrun 127 [vR 87, vI c] (I, zRs b, 103, S) = if 0 ≤ c ∧ c ≤ 127 then (if I 87 10 = 300 then some (some (vI (-3)), (I, zRs b, 103, S)) else some (some (vI (I 87 10 + 1)), (sI (sI I 96 (I 87 10) c) 87 10 (I 87 10 + 1), zRs b, 103, S))) else some (some (vI (-1)), (I, zRs b, 103, S)) := by
  rw [run127, e127_0, r_in, Option.bind_some]
  simp only [zpush_s]
  rw [e127_9, z01]
  by_cases h1 : 0 ≤ c ∧ c ≤ 127
  · rw [if_pos h1, if_pos h1]
    by_cases h2 : I 87 10 = 300
    · rw [if_pos h2, if_pos h2]
    · rw [if_neg h2, if_neg h2]
      simp (disch := omega) only [wr_id, if_pos]
  · rw [if_neg h1, if_neg h1]
theorem r_end {n : Int} (h : 0 ≤ I 87 10 ∧ I 87 10 ≤ 300) : zrun 128 [vR 87, vI n] (I, zRs b, 103, S) = if 0 ≤ n ∧ n ≤ I 87 10 then some (some (vI (I 87 10)), (sI I 87 10 n, zRs b, 103, S)) else some (some (vI (-1)), (I, zRs b, 103, S)) := by
  rw [run128, e128_0, r_in, Option.bind_some]
  simp only [zpush_s]
  rw [e128_11, z01]
theorem r_fault : zrun 147 [vR 87] (I, zRs b, 103, S) = some (some (vI (I 87 15)), (I, zRs b, 103, S)) := by rw [run147, e147_0]
theorem r_torn : zrun 205 [vR 87] (I, zRs b, 103, S) = some (some (vI (I 87 28)), (I, zRs b, 103, S)) := by rw [run205, e205_0]
/-! the class's -/
theorem wb_id {a : Int} (h1 : -128 ≤ a) (h2 : a ≤ 127) : wb a = a := by
  unfold wb
  rw [Int8.toInt_toInt32, Int32.toInt_toInt8, zi_to ⟨by omega, by omega⟩, Int.bmod_def]
  split <;> omega
theorem c_put {c : Int} (h : 0 ≤ I 2 1 ∧ I 2 1 ≤ 300) (hc : 0 ≤ c ∧ c ≤ 127) : zrun 84 [vR 2, vI c] (I, zRs b, 103, S) = if I 2 1 < 300 then some (some (vI 1), (sI (sI I 3 (I 2 1) c) 2 1 (I 2 1 + 1), zRs b, 103, S)) else some (some (vI 0), (I, zRs b, 103, S)) := by
  rw [run84, e84_0]
  by_cases h1 : I 2 1 < 300
  · rw [if_pos h1, if_pos h1]
    simp (disch := omega) only [wr_id, wb_id, if_pos]
  · rw [if_neg h1, if_neg h1]
theorem c_feed {c : Int} (h : 0 ≤ I 2 1 ∧ I 2 1 ≤ 300) : zrun 92 [vR 1, vI c] (I, zRs b, 103, S) = if 0 ≤ c ∧ c ≤ 127 then (if I 2 1 = 300 then some (some (vI (-3)), (I, zRs b, 103, S)) else some (some (vI (I 2 1 + 1)), (sI (sI I 3 (I 2 1) c) 2 1 (I 2 1 + 1), zRs b, 103, S))) else some (some (vI (-1)), (I, zRs b, 103, S)) := by
  rw [run92, e92_0]
  by_cases h1 : 0 ≤ c ∧ c ≤ 127
  · rw [if_neg (by omega), if_pos (by omega), if_pos h1, c_put h h1]
    by_cases h2 : I 2 1 = 300
    · rw [if_neg (by omega), Option.bind_some, if_pos h2]
      simp only [zpush_s]
      rw [e92_20, if_pos rfl]
    · rw [if_pos (by omega), Option.bind_some, if_neg h2]
      simp only [zpush_s]
      rw [e92_20, if_neg (by decide), sI_s]
  · rw [if_neg h1]
    by_cases h2 : c < 0
    · rw [if_pos h2]
    · rw [if_neg h2, if_neg (by omega)]
theorem c_end {n : Int} : zrun 93 [vR 1, vI n] (I, zRs b, 103, S) = if 0 ≤ n ∧ n ≤ I 2 1 then some (some (vI (I 2 1)), (sI I 2 1 n, zRs b, 103, S)) else some (some (vI (-1)), (I, zRs b, 103, S)) := by
  rw [run93, e93_0]
  by_cases h2 : n < 0
  · rw [if_pos h2, if_neg (by omega)]
  · rw [if_neg h2]
    by_cases h3 : n ≤ I 2 1
    · rw [if_pos h3, if_pos (by omega)]
    · rw [if_neg h3, if_neg (by omega)]
theorem c_fault : zrun 95 [vR 1] (I, zRs b, 103, S) = some (some (vI (I 4 1)), (I, zRs b, 103, S)) := by rw [run95, e95_0]
theorem c_torn : zrun 117 [vR 1] (I, zRs b, 103, S) = some (some (vI (I 1 9)), (I, zRs b, 103, S)) := by rw [run117, e117_0]
end B0
