/-! ===== the start ===== -/
section A72
variable {I : Nat → Int → Int} {R : Nat → Int → Nat} {b : Bool} {S : Nat}
theorem zf_n {p q : Nat} (h : q ≠ p) : zfill I p q = I q := by funext j; unfold zfill; rw [if_neg h]
theorem zc_n {s d q : Nat} {sp dp n : Int} (h : q ≠ d) : zcpy I s sp d dp n q = I q := by funext j; unfold zcpy; rw [if_neg (fun z => h z.1)]
theorem zfR_n {p q : Nat} {k : Int} (h : q ≠ p) : zfilR R p q k = R q k := by unfold zfilR; rw [if_neg h]
theorem zfR_c (p : Nat) {q : Nat} {k : Int} : zfilR R p q k = if q = p then 0 else R q k := by unfold zfilR; split <;> rfl
theorem z_if {c : Prop} {inst : Decidable c} {x : Nat} (h : ¬ c → x = 0) : (if c then 0 else x) = 0 := by split; rfl; rename_i z; exact h z
theorem sR_n {p q x : Nat} {k j : Int} (h : q ≠ p) : sR R p k x q j = R q j := by unfold sR; rw [if_neg (fun z => h z.1)]
theorem sR_k {p q x : Nat} {k j : Int} (h : j ≠ k) : sR R p k x q j = R q j := by unfold sR; rw [if_neg (fun z => h z.2)]
theorem hI_2 {q : Nat} (h : 103 < q) : kI_2 I q = I q := by unfold kI_2; rw [zf_n (by omega)]
theorem hR_2 {q : Nat} {k : Int} (h : 103 < q) : kR_2 R q k = R q k := by unfold kR_2; rw [sR_n (by omega), zfR_n (by omega)]
theorem oR_2 {q : Nat} {k : Int} (h : k < 0 ∨ 29 < k) : kR_2 R q k = if 3 ≤ q ∧ q ≤ 3 then 0 else R q k := by
  unfold kR_2
  rw [sR_k (show k ≠ 0 by omega), zfR_c 3]
  by_cases hq : 3 ≤ q ∧ q ≤ 3
  · rw [if_pos hq]
    repeat (refine z_if (fun _ => ?_))
    exfalso; omega
  · rw [if_neg hq]
    repeat rw [if_neg (by omega)]
theorem hI_4 {q : Nat} (h : 103 < q) : kI_4 I q = I q := by unfold kI_4; rw [zf_n (by omega)]
theorem hR_4 {q : Nat} {k : Int} (h : 103 < q) : kR_4 R q k = R q k := by unfold kR_4; rw [sR_n (by omega), sR_n (by omega), zfR_n (by omega)]
theorem oR_4 {q : Nat} {k : Int} (h : k < 0 ∨ 29 < k) : kR_4 R q k = if 5 ≤ q ∧ q ≤ 5 then 0 else R q k := by
  unfold kR_4
  rw [sR_k (show k ≠ 0 by omega), sR_k (show k ≠ 3 by omega), zfR_c 5]
  by_cases hq : 5 ≤ q ∧ q ≤ 5
  · rw [if_pos hq]
    repeat (refine z_if (fun _ => ?_))
    exfalso; omega
  · rw [if_neg hq]
    repeat rw [if_neg (by omega)]
theorem hI_6 {q : Nat} (h : 103 < q) : kI_6 I q = I q := by unfold kI_6; rw [zf_n (by omega)]
theorem hR_6 {q : Nat} {k : Int} (h : 103 < q) : kR_6 R q k = R q k := by unfold kR_6; rw [sR_n (by omega), zfR_n (by omega)]
theorem oR_6 {q : Nat} {k : Int} (h : k < 0 ∨ 29 < k) : kR_6 R q k = if 7 ≤ q ∧ q ≤ 7 then 0 else R q k := by
  unfold kR_6
  rw [sR_k (show k ≠ 0 by omega), zfR_c 7]
  by_cases hq : 7 ≤ q ∧ q ≤ 7
  · rw [if_pos hq]
    repeat (refine z_if (fun _ => ?_))
    exfalso; omega
  · rw [if_neg hq]
    repeat rw [if_neg (by omega)]
theorem hI_9 {q : Nat} (h : 103 < q) : kI_9 I q = I q := by unfold kI_9; rw [zf_n (by omega), sI_o (by omega)]
theorem hR_9 {q : Nat} {k : Int} (h : 103 < q) : kR_9 R q k = R q k := by unfold kR_9; rw [sR_n (by omega), zfR_n (by omega)]
theorem oR_9 {q : Nat} {k : Int} (h : k < 0 ∨ 29 < k) : kR_9 R q k = if 10 ≤ q ∧ q ≤ 10 then 0 else R q k := by
  unfold kR_9
  rw [sR_k (show k ≠ 2 by omega), zfR_c 10]
  by_cases hq : 10 ≤ q ∧ q ≤ 10
  · rw [if_pos hq]
    repeat (refine z_if (fun _ => ?_))
    exfalso; omega
  · rw [if_neg hq]
    repeat rw [if_neg (by omega)]
theorem hI_11 {q : Nat} (h : 103 < q) : kI_11 I q = I q := by unfold kI_11; rw [zf_n (by omega), zf_n (by omega), zf_n (by omega)]
theorem hR_11 {q : Nat} {k : Int} (h : 103 < q) : kR_11 R q k = R q k := by unfold kR_11; rw [sR_n (by omega), zfR_n (by omega), sR_n (by omega), zfR_n (by omega), sR_n (by omega), zfR_n (by omega)]
theorem oR_11 {q : Nat} {k : Int} (h : k < 0 ∨ 29 < k) : kR_11 R q k = if 12 ≤ q ∧ q ≤ 14 then 0 else R q k := by
  unfold kR_11
  rw [sR_k (show k ≠ 3 by omega), zfR_c 14, sR_k (show k ≠ 2 by omega), zfR_c 13, sR_k (show k ≠ 0 by omega), zfR_c 12]
  by_cases hq : 12 ≤ q ∧ q ≤ 14
  · rw [if_pos hq]
    repeat (refine z_if (fun _ => ?_))
    exfalso; omega
  · rw [if_neg hq]
    repeat rw [if_neg (by omega)]
theorem hI_15 {q : Nat} (h : 103 < q) : kI_15 I q = I q := by unfold kI_15; rw [zf_n (by omega), zf_n (by omega)]
theorem hR_15 {q : Nat} {k : Int} (h : 103 < q) : kR_15 R q k = R q k := by unfold kR_15; rw [sR_n (by omega), zfR_n (by omega), sR_n (by omega), zfR_n (by omega)]
theorem oR_15 {q : Nat} {k : Int} (h : k < 0 ∨ 29 < k) : kR_15 R q k = if 16 ≤ q ∧ q ≤ 17 then 0 else R q k := by
  unfold kR_15
  rw [sR_k (show k ≠ 1 by omega), zfR_c 17, sR_k (show k ≠ 0 by omega), zfR_c 16]
  by_cases hq : 16 ≤ q ∧ q ≤ 17
  · rw [if_pos hq]
    repeat (refine z_if (fun _ => ?_))
    exfalso; omega
  · rw [if_neg hq]
    repeat rw [if_neg (by omega)]
theorem hI_20 {q : Nat} (h : 103 < q) : kI_20 I q = I q := by unfold kI_20; rw [zf_n (by omega), sI_o (by omega)]
theorem hR_20 {q : Nat} {k : Int} (h : 103 < q) : kR_20 R q k = R q k := by unfold kR_20; rw [sR_n (by omega), zfR_n (by omega)]
theorem oR_20 {q : Nat} {k : Int} (h : k < 0 ∨ 29 < k) : kR_20 R q k = if 21 ≤ q ∧ q ≤ 21 then 0 else R q k := by
  unfold kR_20
  rw [sR_k (show k ≠ 2 by omega), zfR_c 21]
  by_cases hq : 21 ≤ q ∧ q ≤ 21
  · rw [if_pos hq]
    repeat (refine z_if (fun _ => ?_))
    exfalso; omega
  · rw [if_neg hq]
    repeat rw [if_neg (by omega)]
theorem hI_8 {q : Nat} (h : 103 < q) : kI_8 I q = I q := by unfold kI_8; rw [hI_20 h, zf_n (by omega), zc_n (by omega), zf_n (by omega), zf_n (by omega), hI_15 h, zf_n (by omega), hI_11 h, zf_n (by omega), hI_9 h, zf_n (by omega)]
theorem hR_8 {q : Nat} {k : Int} (h : 103 < q) : kR_8 R q k = R q k := by unfold kR_8; rw [sR_n (by omega), hR_20 h, zfR_n (by omega), sR_n (by omega), zfR_n (by omega), sR_n (by omega), zfR_n (by omega), sR_n (by omega), hR_15 h, zfR_n (by omega), sR_n (by omega), hR_11 h, zfR_n (by omega), sR_n (by omega), hR_9 h, zfR_n (by omega)]
theorem oR_8 {q : Nat} {k : Int} (h : k < 0 ∨ 29 < k) : kR_8 R q k = if 9 ≤ q ∧ q ≤ 21 then 0 else R q k := by
  unfold kR_8
  rw [sR_k (show k ≠ 9 by omega), oR_20 h, zfR_c 20, sR_k (show k ≠ 4 by omega), zfR_c 19, sR_k (show k ≠ 3 by omega), zfR_c 18, sR_k (show k ≠ 2 by omega), oR_15 h, zfR_c 15, sR_k (show k ≠ 1 by omega), oR_11 h, zfR_c 11, sR_k (show k ≠ 0 by omega), oR_9 h, zfR_c 9]
  by_cases hq : 9 ≤ q ∧ q ≤ 21
  · rw [if_pos hq]
    repeat (refine z_if (fun _ => ?_))
    exfalso; omega
  · rw [if_neg hq]
    repeat rw [if_neg (by omega)]
theorem hI_26 {q : Nat} (h : 103 < q) : kI_26 I q = I q := by unfold kI_26; rw [zf_n (by omega), zf_n (by omega), zf_n (by omega), zf_n (by omega)]
theorem hR_26 {q : Nat} {k : Int} (h : 103 < q) : kR_26 R q k = R q k := by unfold kR_26; rw [sR_n (by omega), zfR_n (by omega), sR_n (by omega), zfR_n (by omega), sR_n (by omega), zfR_n (by omega), sR_n (by omega), zfR_n (by omega)]
theorem oR_26 {q : Nat} {k : Int} (h : k < 0 ∨ 29 < k) : kR_26 R q k = if 27 ≤ q ∧ q ≤ 30 then 0 else R q k := by
  unfold kR_26
  rw [sR_k (show k ≠ 3 by omega), zfR_c 30, sR_k (show k ≠ 2 by omega), zfR_c 29, sR_k (show k ≠ 1 by omega), zfR_c 28, sR_k (show k ≠ 0 by omega), zfR_c 27]
  by_cases hq : 27 ≤ q ∧ q ≤ 30
  · rw [if_pos hq]
    repeat (refine z_if (fun _ => ?_))
    exfalso; omega
  · rw [if_neg hq]
    repeat rw [if_neg (by omega)]
theorem hI_25 {q : Nat} (h : 103 < q) : kI_25 I q = I q := by unfold kI_25; rw [zf_n (by omega), zf_n (by omega), zf_n (by omega), zf_n (by omega), zf_n (by omega), zf_n (by omega), zf_n (by omega), hI_26 h, zf_n (by omega)]
theorem hR_25 {q : Nat} {k : Int} (h : 103 < q) : kR_25 R q k = R q k := by unfold kR_25; rw [sR_n (by omega), zfR_n (by omega), sR_n (by omega), zfR_n (by omega), sR_n (by omega), zfR_n (by omega), sR_n (by omega), zfR_n (by omega), sR_n (by omega), zfR_n (by omega), sR_n (by omega), zfR_n (by omega), sR_n (by omega), zfR_n (by omega), sR_n (by omega), hR_26 h, zfR_n (by omega)]
theorem oR_25 {q : Nat} {k : Int} (h : k < 0 ∨ 29 < k) : kR_25 R q k = if 26 ≤ q ∧ q ≤ 37 then 0 else R q k := by
  unfold kR_25
  rw [sR_k (show k ≠ 9 by omega), zfR_c 37, sR_k (show k ≠ 7 by omega), zfR_c 36, sR_k (show k ≠ 5 by omega), zfR_c 35, sR_k (show k ≠ 4 by omega), zfR_c 34, sR_k (show k ≠ 3 by omega), zfR_c 33, sR_k (show k ≠ 2 by omega), zfR_c 32, sR_k (show k ≠ 1 by omega), zfR_c 31, sR_k (show k ≠ 0 by omega), oR_26 h, zfR_c 26]
  by_cases hq : 26 ≤ q ∧ q ≤ 37
  · rw [if_pos hq]
    repeat (refine z_if (fun _ => ?_))
    exfalso; omega
  · rw [if_neg hq]
    repeat rw [if_neg (by omega)]
theorem hI_39 {q : Nat} (h : 103 < q) : kI_39 I q = I q := by unfold kI_39; rw [zf_n (by omega), zf_n (by omega), zf_n (by omega), zf_n (by omega)]
theorem hR_39 {q : Nat} {k : Int} (h : 103 < q) : kR_39 R q k = R q k := by unfold kR_39; rw [sR_n (by omega), zfR_n (by omega), sR_n (by omega), zfR_n (by omega), sR_n (by omega), zfR_n (by omega), sR_n (by omega), zfR_n (by omega)]
theorem oR_39 {q : Nat} {k : Int} (h : k < 0 ∨ 29 < k) : kR_39 R q k = if 40 ≤ q ∧ q ≤ 43 then 0 else R q k := by
  unfold kR_39
  rw [sR_k (show k ≠ 3 by omega), zfR_c 43, sR_k (show k ≠ 2 by omega), zfR_c 42, sR_k (show k ≠ 1 by omega), zfR_c 41, sR_k (show k ≠ 0 by omega), zfR_c 40]
  by_cases hq : 40 ≤ q ∧ q ≤ 43
  · rw [if_pos hq]
    repeat (refine z_if (fun _ => ?_))
    exfalso; omega
  · rw [if_neg hq]
    repeat rw [if_neg (by omega)]
theorem hI_38 {q : Nat} (h : 103 < q) : kI_38 I q = I q := by unfold kI_38; rw [zf_n (by omega), zf_n (by omega), zf_n (by omega), zf_n (by omega), zf_n (by omega), zf_n (by omega), zf_n (by omega), hI_39 h, zf_n (by omega)]
theorem hR_38 {q : Nat} {k : Int} (h : 103 < q) : kR_38 R q k = R q k := by unfold kR_38; rw [sR_n (by omega), zfR_n (by omega), sR_n (by omega), zfR_n (by omega), sR_n (by omega), zfR_n (by omega), sR_n (by omega), zfR_n (by omega), sR_n (by omega), zfR_n (by omega), sR_n (by omega), zfR_n (by omega), sR_n (by omega), zfR_n (by omega), sR_n (by omega), hR_39 h, zfR_n (by omega)]
theorem oR_38 {q : Nat} {k : Int} (h : k < 0 ∨ 29 < k) : kR_38 R q k = if 39 ≤ q ∧ q ≤ 50 then 0 else R q k := by
  unfold kR_38
  rw [sR_k (show k ≠ 9 by omega), zfR_c 50, sR_k (show k ≠ 7 by omega), zfR_c 49, sR_k (show k ≠ 5 by omega), zfR_c 48, sR_k (show k ≠ 4 by omega), zfR_c 47, sR_k (show k ≠ 3 by omega), zfR_c 46, sR_k (show k ≠ 2 by omega), zfR_c 45, sR_k (show k ≠ 1 by omega), zfR_c 44, sR_k (show k ≠ 0 by omega), oR_39 h, zfR_c 39]
  by_cases hq : 39 ≤ q ∧ q ≤ 50
  · rw [if_pos hq]
    repeat (refine z_if (fun _ => ?_))
    exfalso; omega
  · rw [if_neg hq]
    repeat rw [if_neg (by omega)]
theorem hI_52 {q : Nat} (h : 103 < q) : kI_52 I q = I q := by unfold kI_52; rw [zf_n (by omega), sI_o (by omega)]
theorem hR_52 {q : Nat} {k : Int} (h : 103 < q) : kR_52 R q k = R q k := by unfold kR_52; rw [sR_n (by omega), zfR_n (by omega)]
theorem oR_52 {q : Nat} {k : Int} (h : k < 0 ∨ 29 < k) : kR_52 R q k = if 53 ≤ q ∧ q ≤ 53 then 0 else R q k := by
  unfold kR_52
  rw [sR_k (show k ≠ 2 by omega), zfR_c 53]
  by_cases hq : 53 ≤ q ∧ q ≤ 53
  · rw [if_pos hq]
    repeat (refine z_if (fun _ => ?_))
    exfalso; omega
  · rw [if_neg hq]
    repeat rw [if_neg (by omega)]
theorem hI_54 {q : Nat} (h : 103 < q) : kI_54 I q = I q := by unfold kI_54; rw [zf_n (by omega), zf_n (by omega), zf_n (by omega)]
theorem hR_54 {q : Nat} {k : Int} (h : 103 < q) : kR_54 R q k = R q k := by unfold kR_54; rw [sR_n (by omega), zfR_n (by omega), sR_n (by omega), zfR_n (by omega), sR_n (by omega), zfR_n (by omega)]
theorem oR_54 {q : Nat} {k : Int} (h : k < 0 ∨ 29 < k) : kR_54 R q k = if 55 ≤ q ∧ q ≤ 57 then 0 else R q k := by
  unfold kR_54
  rw [sR_k (show k ≠ 3 by omega), zfR_c 57, sR_k (show k ≠ 2 by omega), zfR_c 56, sR_k (show k ≠ 0 by omega), zfR_c 55]
  by_cases hq : 55 ≤ q ∧ q ≤ 57
  · rw [if_pos hq]
    repeat (refine z_if (fun _ => ?_))
    exfalso; omega
  · rw [if_neg hq]
    repeat rw [if_neg (by omega)]
theorem hI_58 {q : Nat} (h : 103 < q) : kI_58 I q = I q := by unfold kI_58; rw [zf_n (by omega), zf_n (by omega)]
theorem hR_58 {q : Nat} {k : Int} (h : 103 < q) : kR_58 R q k = R q k := by unfold kR_58; rw [sR_n (by omega), zfR_n (by omega), sR_n (by omega), zfR_n (by omega)]
theorem oR_58 {q : Nat} {k : Int} (h : k < 0 ∨ 29 < k) : kR_58 R q k = if 59 ≤ q ∧ q ≤ 60 then 0 else R q k := by
  unfold kR_58
  rw [sR_k (show k ≠ 1 by omega), zfR_c 60, sR_k (show k ≠ 0 by omega), zfR_c 59]
  by_cases hq : 59 ≤ q ∧ q ≤ 60
  · rw [if_pos hq]
    repeat (refine z_if (fun _ => ?_))
    exfalso; omega
  · rw [if_neg hq]
    repeat rw [if_neg (by omega)]
theorem hI_63 {q : Nat} (h : 103 < q) : kI_63 I q = I q := by unfold kI_63; rw [zf_n (by omega), sI_o (by omega)]
theorem hR_63 {q : Nat} {k : Int} (h : 103 < q) : kR_63 R q k = R q k := by unfold kR_63; rw [sR_n (by omega), zfR_n (by omega)]
theorem oR_63 {q : Nat} {k : Int} (h : k < 0 ∨ 29 < k) : kR_63 R q k = if 64 ≤ q ∧ q ≤ 64 then 0 else R q k := by
  unfold kR_63
  rw [sR_k (show k ≠ 2 by omega), zfR_c 64]
  by_cases hq : 64 ≤ q ∧ q ≤ 64
  · rw [if_pos hq]
    repeat (refine z_if (fun _ => ?_))
    exfalso; omega
  · rw [if_neg hq]
    repeat rw [if_neg (by omega)]
theorem hI_51 {q : Nat} (h : 103 < q) : kI_51 I q = I q := by unfold kI_51; rw [hI_63 h, zf_n (by omega), zc_n (by omega), zf_n (by omega), zf_n (by omega), hI_58 h, zf_n (by omega), hI_54 h, zf_n (by omega), hI_52 h, zf_n (by omega)]
theorem hR_51 {q : Nat} {k : Int} (h : 103 < q) : kR_51 R q k = R q k := by unfold kR_51; rw [sR_n (by omega), hR_63 h, zfR_n (by omega), sR_n (by omega), zfR_n (by omega), sR_n (by omega), zfR_n (by omega), sR_n (by omega), hR_58 h, zfR_n (by omega), sR_n (by omega), hR_54 h, zfR_n (by omega), sR_n (by omega), hR_52 h, zfR_n (by omega)]
theorem oR_51 {q : Nat} {k : Int} (h : k < 0 ∨ 29 < k) : kR_51 R q k = if 52 ≤ q ∧ q ≤ 64 then 0 else R q k := by
  unfold kR_51
  rw [sR_k (show k ≠ 9 by omega), oR_63 h, zfR_c 63, sR_k (show k ≠ 4 by omega), zfR_c 62, sR_k (show k ≠ 3 by omega), zfR_c 61, sR_k (show k ≠ 2 by omega), oR_58 h, zfR_c 58, sR_k (show k ≠ 1 by omega), oR_54 h, zfR_c 54, sR_k (show k ≠ 0 by omega), oR_52 h, zfR_c 52]
  by_cases hq : 52 ≤ q ∧ q ≤ 64
  · rw [if_pos hq]
    repeat (refine z_if (fun _ => ?_))
    exfalso; omega
  · rw [if_neg hq]
    repeat rw [if_neg (by omega)]
theorem hI_66 {q : Nat} (h : 103 < q) : kI_66 I q = I q := by unfold kI_66; rw [zf_n (by omega), sI_o (by omega)]
theorem hR_66 {q : Nat} {k : Int} (h : 103 < q) : kR_66 R q k = R q k := by unfold kR_66; rw [sR_n (by omega), zfR_n (by omega)]
theorem oR_66 {q : Nat} {k : Int} (h : k < 0 ∨ 29 < k) : kR_66 R q k = if 67 ≤ q ∧ q ≤ 67 then 0 else R q k := by
  unfold kR_66
  rw [sR_k (show k ≠ 2 by omega), zfR_c 67]
  by_cases hq : 67 ≤ q ∧ q ≤ 67
  · rw [if_pos hq]
    repeat (refine z_if (fun _ => ?_))
    exfalso; omega
  · rw [if_neg hq]
    repeat rw [if_neg (by omega)]
theorem hI_68 {q : Nat} (h : 103 < q) : kI_68 I q = I q := by unfold kI_68; rw [zf_n (by omega), zf_n (by omega), zf_n (by omega)]
theorem hR_68 {q : Nat} {k : Int} (h : 103 < q) : kR_68 R q k = R q k := by unfold kR_68; rw [sR_n (by omega), zfR_n (by omega), sR_n (by omega), zfR_n (by omega), sR_n (by omega), zfR_n (by omega)]
theorem oR_68 {q : Nat} {k : Int} (h : k < 0 ∨ 29 < k) : kR_68 R q k = if 69 ≤ q ∧ q ≤ 71 then 0 else R q k := by
  unfold kR_68
  rw [sR_k (show k ≠ 3 by omega), zfR_c 71, sR_k (show k ≠ 2 by omega), zfR_c 70, sR_k (show k ≠ 0 by omega), zfR_c 69]
  by_cases hq : 69 ≤ q ∧ q ≤ 71
  · rw [if_pos hq]
    repeat (refine z_if (fun _ => ?_))
    exfalso; omega
  · rw [if_neg hq]
    repeat rw [if_neg (by omega)]
theorem hI_72 {q : Nat} (h : 103 < q) : kI_72 I q = I q := by unfold kI_72; rw [zf_n (by omega), zf_n (by omega)]
theorem hR_72 {q : Nat} {k : Int} (h : 103 < q) : kR_72 R q k = R q k := by unfold kR_72; rw [sR_n (by omega), zfR_n (by omega), sR_n (by omega), zfR_n (by omega)]
theorem oR_72 {q : Nat} {k : Int} (h : k < 0 ∨ 29 < k) : kR_72 R q k = if 73 ≤ q ∧ q ≤ 74 then 0 else R q k := by
  unfold kR_72
  rw [sR_k (show k ≠ 1 by omega), zfR_c 74, sR_k (show k ≠ 0 by omega), zfR_c 73]
  by_cases hq : 73 ≤ q ∧ q ≤ 74
  · rw [if_pos hq]
    repeat (refine z_if (fun _ => ?_))
    exfalso; omega
  · rw [if_neg hq]
    repeat rw [if_neg (by omega)]
theorem hI_77 {q : Nat} (h : 103 < q) : kI_77 I q = I q := by unfold kI_77; rw [zf_n (by omega), sI_o (by omega)]
theorem hR_77 {q : Nat} {k : Int} (h : 103 < q) : kR_77 R q k = R q k := by unfold kR_77; rw [sR_n (by omega), zfR_n (by omega)]
theorem oR_77 {q : Nat} {k : Int} (h : k < 0 ∨ 29 < k) : kR_77 R q k = if 78 ≤ q ∧ q ≤ 78 then 0 else R q k := by
  unfold kR_77
  rw [sR_k (show k ≠ 2 by omega), zfR_c 78]
  by_cases hq : 78 ≤ q ∧ q ≤ 78
  · rw [if_pos hq]
    repeat (refine z_if (fun _ => ?_))
    exfalso; omega
  · rw [if_neg hq]
    repeat rw [if_neg (by omega)]
theorem hI_65 {q : Nat} (h : 103 < q) : kI_65 I q = I q := by unfold kI_65; rw [hI_77 h, zf_n (by omega), zc_n (by omega), zf_n (by omega), zf_n (by omega), hI_72 h, zf_n (by omega), hI_68 h, zf_n (by omega), hI_66 h, zf_n (by omega)]
theorem hR_65 {q : Nat} {k : Int} (h : 103 < q) : kR_65 R q k = R q k := by unfold kR_65; rw [sR_n (by omega), hR_77 h, zfR_n (by omega), sR_n (by omega), zfR_n (by omega), sR_n (by omega), zfR_n (by omega), sR_n (by omega), hR_72 h, zfR_n (by omega), sR_n (by omega), hR_68 h, zfR_n (by omega), sR_n (by omega), hR_66 h, zfR_n (by omega)]
theorem oR_65 {q : Nat} {k : Int} (h : k < 0 ∨ 29 < k) : kR_65 R q k = if 66 ≤ q ∧ q ≤ 78 then 0 else R q k := by
  unfold kR_65
  rw [sR_k (show k ≠ 9 by omega), oR_77 h, zfR_c 77, sR_k (show k ≠ 4 by omega), zfR_c 76, sR_k (show k ≠ 3 by omega), zfR_c 75, sR_k (show k ≠ 2 by omega), oR_72 h, zfR_c 72, sR_k (show k ≠ 1 by omega), oR_68 h, zfR_c 68, sR_k (show k ≠ 0 by omega), oR_66 h, zfR_c 66]
  by_cases hq : 66 ≤ q ∧ q ≤ 78
  · rw [if_pos hq]
    repeat (refine z_if (fun _ => ?_))
    exfalso; omega
  · rw [if_neg hq]
    repeat rw [if_neg (by omega)]
theorem hI_79 {q : Nat} (h : 103 < q) : kI_79 I q = I q := by unfold kI_79; rw [sI_o (by omega), zf_n (by omega)]
theorem hR_79 {q : Nat} {k : Int} (h : 103 < q) : kR_79 R q k = R q k := by unfold kR_79; rw [sR_n (by omega), zfR_n (by omega)]
theorem oR_79 {q : Nat} {k : Int} (h : k < 0 ∨ 29 < k) : kR_79 R q k = if 80 ≤ q ∧ q ≤ 80 then 0 else R q k := by
  unfold kR_79
  rw [sR_k (show k ≠ 0 by omega), zfR_c 80]
  by_cases hq : 80 ≤ q ∧ q ≤ 80
  · rw [if_pos hq]
    repeat (refine z_if (fun _ => ?_))
    exfalso; omega
  · rw [if_neg hq]
    repeat rw [if_neg (by omega)]
theorem hI_81 {q : Nat} (h : 103 < q) : kI_81 I q = I q := by unfold kI_81; rw [sI_o (by omega), zf_n (by omega)]
theorem hR_81 {q : Nat} {k : Int} (h : 103 < q) : kR_81 R q k = R q k := by unfold kR_81; rw [sR_n (by omega), zfR_n (by omega)]
theorem oR_81 {q : Nat} {k : Int} (h : k < 0 ∨ 29 < k) : kR_81 R q k = if 82 ≤ q ∧ q ≤ 82 then 0 else R q k := by
  unfold kR_81
  rw [sR_k (show k ≠ 0 by omega), zfR_c 82]
  by_cases hq : 82 ≤ q ∧ q ≤ 82
  · rw [if_pos hq]
    repeat (refine z_if (fun _ => ?_))
    exfalso; omega
  · rw [if_neg hq]
    repeat rw [if_neg (by omega)]
theorem hI_83 {q : Nat} (h : 103 < q) : kI_83 I q = I q := by unfold kI_83; rw [sI_o (by omega), zf_n (by omega)]
theorem hR_83 {q : Nat} {k : Int} (h : 103 < q) : kR_83 R q k = R q k := by unfold kR_83; rw [sR_n (by omega), zfR_n (by omega)]
theorem oR_83 {q : Nat} {k : Int} (h : k < 0 ∨ 29 < k) : kR_83 R q k = if 84 ≤ q ∧ q ≤ 84 then 0 else R q k := by
  unfold kR_83
  rw [sR_k (show k ≠ 0 by omega), zfR_c 84]
  by_cases hq : 84 ≤ q ∧ q ≤ 84
  · rw [if_pos hq]
    repeat (refine z_if (fun _ => ?_))
    exfalso; omega
  · rw [if_neg hq]
    repeat rw [if_neg (by omega)]
theorem hI_85 {q : Nat} (h : 103 < q) : kI_85 I q = I q := by unfold kI_85; rw [sI_o (by omega), zf_n (by omega)]
theorem hR_85 {q : Nat} {k : Int} (h : 103 < q) : kR_85 R q k = R q k := by unfold kR_85; rw [sR_n (by omega), zfR_n (by omega)]
theorem oR_85 {q : Nat} {k : Int} (h : k < 0 ∨ 29 < k) : kR_85 R q k = if 86 ≤ q ∧ q ≤ 86 then 0 else R q k := by
  unfold kR_85
  rw [sR_k (show k ≠ 0 by omega), zfR_c 86]
  by_cases hq : 86 ≤ q ∧ q ≤ 86
  · rw [if_pos hq]
    repeat (refine z_if (fun _ => ?_))
    exfalso; omega
  · rw [if_neg hq]
    repeat rw [if_neg (by omega)]
theorem hI_1 {q : Nat} (h : 103 < q) : kI_1 I q = I q := by unfold kI_1; rw [hI_85 h, zf_n (by omega), hI_83 h, zf_n (by omega), hI_81 h, zf_n (by omega), hI_79 h, zf_n (by omega), hI_65 h, zf_n (by omega), hI_51 h, zf_n (by omega), hI_38 h, zf_n (by omega), hI_25 h, zf_n (by omega), zf_n (by omega), zf_n (by omega), zf_n (by omega), hI_8 h, zf_n (by omega), hI_6 h, zf_n (by omega), hI_4 h, zf_n (by omega), hI_2 h, zf_n (by omega)]
theorem hR_1 {q : Nat} {k : Int} (h : 103 < q) : kR_1 R q k = R q k := by unfold kR_1; rw [sR_n (by omega), hR_85 h, zfR_n (by omega), sR_n (by omega), hR_83 h, zfR_n (by omega), sR_n (by omega), hR_81 h, zfR_n (by omega), sR_n (by omega), hR_79 h, zfR_n (by omega), sR_n (by omega), hR_65 h, zfR_n (by omega), sR_n (by omega), hR_51 h, zfR_n (by omega), sR_n (by omega), hR_38 h, zfR_n (by omega), sR_n (by omega), hR_25 h, zfR_n (by omega), sR_n (by omega), zfR_n (by omega), sR_n (by omega), zfR_n (by omega), sR_n (by omega), zfR_n (by omega), sR_n (by omega), hR_8 h, zfR_n (by omega), sR_n (by omega), hR_6 h, zfR_n (by omega), sR_n (by omega), hR_4 h, zfR_n (by omega), sR_n (by omega), hR_2 h, zfR_n (by omega)]
theorem oR_1 {q : Nat} {k : Int} (h : k < 0 ∨ 29 < k) : kR_1 R q k = if 2 ≤ q ∧ q ≤ 86 then 0 else R q k := by
  unfold kR_1
  rw [sR_k (show k ≠ 3 by omega), oR_85 h, zfR_c 85, sR_k (show k ≠ 2 by omega), oR_83 h, zfR_c 83, sR_k (show k ≠ 1 by omega), oR_81 h, zfR_c 81, sR_k (show k ≠ 0 by omega), oR_79 h, zfR_c 79, sR_k (show k ≠ 1 by omega), oR_65 h, zfR_c 65, sR_k (show k ≠ 0 by omega), oR_51 h, zfR_c 51, sR_k (show k ≠ 8 by omega), oR_38 h, zfR_c 38, sR_k (show k ≠ 7 by omega), oR_25 h, zfR_c 25, sR_k (show k ≠ 6 by omega), zfR_c 24, sR_k (show k ≠ 5 by omega), zfR_c 23, sR_k (show k ≠ 4 by omega), zfR_c 22, sR_k (show k ≠ 3 by omega), oR_8 h, zfR_c 8, sR_k (show k ≠ 2 by omega), oR_6 h, zfR_c 6, sR_k (show k ≠ 1 by omega), oR_4 h, zfR_c 4, sR_k (show k ≠ 0 by omega), oR_2 h, zfR_c 2]
  by_cases hq : 2 ≤ q ∧ q ≤ 86
  · rw [if_pos hq]
    repeat (refine z_if (fun _ => ?_))
    exfalso; omega
  · rw [if_neg hq]
    repeat rw [if_neg (by omega)]
theorem hI_0 {q : Nat} (h : 103 < q) : kI_0 I q = I q := by unfold kI_0; rw [sI_o (by omega), sI_o (by omega), sI_o (by omega), sI_o (by omega), sI_o (by omega), sI_o (by omega), sI_o (by omega), sI_o (by omega), zf_n (by omega), zf_n (by omega), zf_n (by omega), zf_n (by omega), zf_n (by omega), zf_n (by omega), zf_n (by omega), zf_n (by omega), zf_n (by omega), zf_n (by omega), zf_n (by omega), zf_n (by omega), zf_n (by omega), zf_n (by omega), zf_n (by omega), zf_n (by omega), zf_n (by omega), hI_1 h, zf_n (by omega)]
theorem hR_0 {q : Nat} {k : Int} (h : 103 < q) : kR_0 R q k = R q k := by unfold kR_0; rw [sR_n (by omega), zfR_n (by omega), sR_n (by omega), zfR_n (by omega), sR_n (by omega), zfR_n (by omega), sR_n (by omega), zfR_n (by omega), sR_n (by omega), zfR_n (by omega), sR_n (by omega), zfR_n (by omega), sR_n (by omega), zfR_n (by omega), sR_n (by omega), zfR_n (by omega), sR_n (by omega), zfR_n (by omega), sR_n (by omega), zfR_n (by omega), sR_n (by omega), zfR_n (by omega), sR_n (by omega), zfR_n (by omega), sR_n (by omega), zfR_n (by omega), sR_n (by omega), zfR_n (by omega), sR_n (by omega), zfR_n (by omega), sR_n (by omega), zfR_n (by omega), zfR_n (by omega), hR_1 h, zfR_n (by omega)]
theorem oR_0 {q : Nat} {k : Int} (h : k < 0 ∨ 29 < k) : kR_0 R q k = if 1 ≤ q ∧ q ≤ 103 then 0 else R q k := by
  unfold kR_0
  rw [sR_k (show k ≠ 27 by omega), zfR_c 103, sR_k (show k ≠ 26 by omega), zfR_c 102, sR_k (show k ≠ 25 by omega), zfR_c 101, sR_k (show k ≠ 22 by omega), zfR_c 100, sR_k (show k ≠ 20 by omega), zfR_c 99, sR_k (show k ≠ 18 by omega), zfR_c 98, sR_k (show k ≠ 17 by omega), zfR_c 97, sR_k (show k ≠ 9 by omega), zfR_c 96, sR_k (show k ≠ 8 by omega), zfR_c 95, sR_k (show k ≠ 7 by omega), zfR_c 94, sR_k (show k ≠ 6 by omega), zfR_c 93, sR_k (show k ≠ 5 by omega), zfR_c 92, sR_k (show k ≠ 4 by omega), zfR_c 91, sR_k (show k ≠ 2 by omega), zfR_c 90, sR_k (show k ≠ 1 by omega), zfR_c 89, sR_k (show k ≠ 0 by omega), zfR_c 88, zfR_c 87, oR_1 h, zfR_c 1]
  by_cases hq : 1 ≤ q ∧ q ≤ 103
  · rw [if_pos hq]
    repeat (refine z_if (fun _ => ?_))
    exfalso; omega
  · rw [if_neg hq]
    repeat rw [if_neg (by omega)]
theorem lenL : ∀ l ∈ zRsL, l.length ≤ 30 := by decide +kernel
theorem inR : ∀ p : Fin 104, ∀ k : Fin 30, kR_0 zRm p.val (k.val : Int) = zRs false p.val (k.val : Int) := by decide +kernel
theorem kR_eq : kR_0 zRm = zRs false := by
  funext p k
  by_cases hk : k < 0 ∨ 29 < k
  · rw [oR_0 hk]
    have e1 : zRm p k = 0 := by unfold zRm; rw [if_neg (by omega)]
    have e2 : zRs false p k = 0 := by
      unfold zRs
      rw [if_neg (by omega), if_neg (by omega), if_neg (by omega)]
      by_cases h0 : 0 ≤ k
      · rw [if_pos h0]
        have hl : (zRsL.getD p []).length ≤ 30 := by
          rw [List.getD_eq_getElem?_getD]
          cases h : zRsL[p]? with
          | none => decide
          | some l => exact lenL l (List.mem_of_getElem? h)
        rw [List.getD_eq_getElem?_getD, List.getElem?_eq_none (by omega)]
        rfl
      · rw [if_neg h0]
    rw [e1, e2]
    split <;> rfl
  · by_cases hp : p ≤ 103
    · have z := inR ⟨p, by omega⟩ ⟨k.toNat, by omega⟩
      simp only at z
      rw [show ((k.toNat : Nat) : Int) = k by omega] at z
      exact z
    · rw [hR_0 (by omega)]
      unfold zRm zRs
      rw [if_neg (show ¬ (p = 1 ∧ k = 7) by omega), if_neg (show ¬ (p = 1 ∧ k = 8) by omega)]
      split
      · rfl
      · rw [if_pos (by omega)]
        have hl : zRsL.length ≤ 104 := by decide +kernel
        rw [List.getD_eq_getElem?_getD (l := zRsL), List.getElem?_eq_none (by omega)]
        rfl
theorem stJ_0 (xs : Nat → Int32) : stJ (zI0 xs) := fun p j hp => by unfold zI0; rw [if_neg (by omega)]
end A72
section B72
variable {I : Nat → Int → Int} {b : Bool} {S : Nat}
theorem gI_101_0 {I : Nat → Int → Int} : kI_0 I 101 0 = (-4) := rfl
theorem gI_101_1 {I : Nat → Int → Int} : kI_0 I 101 1 = (-4) := rfl
theorem gI_101_2 {I : Nat → Int → Int} : kI_0 I 101 2 = (-4) := rfl
theorem gI_101_3 {I : Nat → Int → Int} : kI_0 I 101 3 = (-4) := rfl
theorem gI_10_j {I : Nat → Int → Int} {j : Int} : kI_0 I 10 j = 0 := rfl
theorem gI_11_1 {I : Nat → Int → Int} : kI_0 I 11 1 = 0 := rfl
theorem gI_11_4 {I : Nat → Int → Int} : kI_0 I 11 4 = 0 := rfl
theorem gI_15_2 {I : Nat → Int → Int} : kI_0 I 15 2 = 0 := rfl
theorem gI_1_9 {I : Nat → Int → Int} : kI_0 I 1 9 = 0 := rfl
theorem gI_23_j {I : Nat → Int → Int} {j : Int} : kI_0 I 23 j = 0 := rfl
theorem gI_25_6 {I : Nat → Int → Int} : kI_0 I 25 6 = 0 := rfl
theorem gI_26_4 {I : Nat → Int → Int} : kI_0 I 26 4 = 0 := rfl
theorem gI_26_5 {I : Nat → Int → Int} : kI_0 I 26 5 = 0 := rfl
theorem gI_2_1 {I : Nat → Int → Int} : kI_0 I 2 1 = 0 := rfl
theorem gI_37_0 {I : Nat → Int → Int} : kI_0 I 37 0 = 0 := rfl
theorem gI_4_1 {I : Nat → Int → Int} : kI_0 I 4 1 = 0 := rfl
theorem gI_79_2 {I : Nat → Int → Int} : kI_0 I 79 2 = (-4) := rfl
theorem gI_81_2 {I : Nat → Int → Int} : kI_0 I 81 2 = (-4) := rfl
theorem gI_83_2 {I : Nat → Int → Int} : kI_0 I 83 2 = (-4) := rfl
theorem gI_85_2 {I : Nat → Int → Int} : kI_0 I 85 2 = (-4) := rfl
theorem gI_8_5 {I : Nat → Int → Int} : kI_0 I 8 5 = 0 := rfl
theorem gI_8_6 {I : Nat → Int → Int} : kI_0 I 8 6 = 0 := rfl
theorem gI_8_7 {I : Nat → Int → Int} : kI_0 I 8 7 = 0 := rfl
theorem gI_8_8 {I : Nat → Int → Int} : kI_0 I 8 8 = 0 := rfl
theorem gI_95_j {I : Nat → Int → Int} {j : Int} : kI_0 I 95 j = 0 := rfl
theorem gI_9_0 {I : Nat → Int → Int} : kI_0 I 9 0 = (-4) := rfl
theorem gI_9_1 {I : Nat → Int → Int} : kI_0 I 9 1 = 0 := rfl
theorem gI_9_3 {I : Nat → Int → Int} : kI_0 I 9 3 = 0 := rfl
theorem gI_88 {I : Nat → Int → Int} : kI_0 I 88 = fun _ => 0 := rfl
theorem gI_89 {I : Nat → Int → Int} : kI_0 I 89 = fun _ => 0 := rfl
theorem gI_87 {I : Nat → Int → Int} {j : Int} : kI_0 I 87 j = 0 := rfl
theorem gI_19_0 {I : Nat → Int → Int} : kI_0 I 19 0 = I 900 0 := rfl
theorem gI_93_13 {I : Nat → Int → Int} : kI_0 I 93 13 = 16 := rfl
theorem zI_0 {xs : Nat → Int32} : zI0 xs 900 0 = 16 := rfl
theorem gI_19_1 {I : Nat → Int → Int} : kI_0 I 19 1 = I 900 1 := rfl
theorem gI_93_14 {I : Nat → Int → Int} : kI_0 I 93 14 = 0 := rfl
theorem zI_1 {xs : Nat → Int32} : zI0 xs 900 1 = 0 := rfl
theorem gI_19_2 {I : Nat → Int → Int} : kI_0 I 19 2 = I 900 2 := rfl
theorem gI_93_15 {I : Nat → Int → Int} : kI_0 I 93 15 = 3 := rfl
theorem zI_2 {xs : Nat → Int32} : zI0 xs 900 2 = 3 := rfl
theorem gI_19_3 {I : Nat → Int → Int} : kI_0 I 19 3 = I 900 3 := rfl
theorem gI_93_16 {I : Nat → Int → Int} : kI_0 I 93 16 = 1 := rfl
theorem zI_3 {xs : Nat → Int32} : zI0 xs 900 3 = 1 := rfl
theorem gI_19_4 {I : Nat → Int → Int} : kI_0 I 19 4 = I 900 4 := rfl
theorem gI_93_17 {I : Nat → Int → Int} : kI_0 I 93 17 = 4 := rfl
theorem zI_4 {xs : Nat → Int32} : zI0 xs 900 4 = 4 := rfl
theorem f93 : kI_0 I 93 = up (up (up (up (fun _ => 0) 13 16) 15 3) 16 1) 17 4 := by
  funext j
  unfold up
  by_cases h17 : j = 17
  · subst h17; rfl
  · rw [if_neg h17]
    by_cases h16 : j = 16
    · subst h16; rfl
    · rw [if_neg h16]
      by_cases h15 : j = 15
      · subst h15; rfl
      · rw [if_neg h15]
        by_cases h13 : j = 13
        · subst h13; rfl
        · rw [if_neg h13]
          have e : kI_0 I 93 j = if (93 : Nat) = 93 ∧ j = 17 then 4 else if (93 : Nat) = 93 ∧ j = 16 then 1 else if (93 : Nat) = 93 ∧ j = 15 then 3 else if (93 : Nat) = 93 ∧ j = 13 then 16 else 0 := rfl
          rw [e, if_neg (fun z => h17 z.2), if_neg (fun z => h16 z.2), if_neg (fun z => h15 z.2), if_neg (fun z => h13 z.2)]
theorem t0_ok : tOk (fun _ => 0) := ⟨⟨by decide, by decide⟩, ⟨by decide, by decide⟩, fun s s0 s1 => absurd s1 (by show ¬ s < 0; omega), fun s i s0 s1 => absurd s1 (by show ¬ s < 0; omega), fun i i0 i1 => absurd i1 (by show ¬ i < 0; omega)⟩
theorem inv_0 {xs : Nat → Int32} {K : Nat → Int → Int} (hK : sP (sP (sI (kI_0 (zI0 xs)) 87 21 1) 99 (begF (fun _ => 0) (kI_0 (zI0 xs) 93))) 93 (begF (fun _ => 0) (kI_0 (zI0 xs) 93)) = K) : Inv K false 100 (zI0 xs) := by
  have ko : ∀ q, q ≠ 87 → q ≠ 93 → q ≠ 99 → K q = kI_0 (zI0 xs) q := fun q q1 q2 q3 => by rw [← hK, sP_n q2, sP_n q3, sI_o q1]
  have k87 : ∀ j, j ≠ 21 → K 87 j = 0 := fun j hj => by rw [← hK, sP_n (by decide), sP_n (by decide), sI_k hj]; exact gI_87
  have z93 : Z0 (kI_0 (zI0 xs) 93) := fun c hc => by rw [f93, up_n (by omega), up_n (by omega), up_n (by omega), up_n (by omega)]
  have se : seOk (kI_0 (zI0 xs) 93) := by
    unfold seOk
    rw [show kI_0 (zI0 xs) 93 13 = 16 from gI_93_13, show kI_0 (zI0 xs) 93 14 = 0 from gI_93_14, show kI_0 (zI0 xs) 93 15 = 3 from gI_93_15, show kI_0 (zI0 xs) 93 16 = 1 from gI_93_16, show kI_0 (zI0 xs) 93 17 = 4 from gI_93_17]
    decide
  have bo := beg_ok (pm := K 87 3) (N := 100) t0_ok se z93 (by decide)
  have eb : begF (fun _ => 0) (kI_0 (zI0 xs) 93) = up (up (zrF (kI_0 (zI0 xs) 93)) 0 (-4)) 1 0 := by
    unfold begF
    rw [setF_st (Or.inl (Int.le_refl _))]
    unfold fi
    rw [if_pos (show (0 : Int) ≤ 0 by decide)]
  have k93 : K 93 = begF (fun _ => 0) (kI_0 (zI0 xs) 93) := by rw [← hK, sP_s]
  have k99 : K 99 = begF (fun _ => 0) (kI_0 (zI0 xs) 93) := by rw [← hK, sP_n (by decide), sP_s]
  have k88 : K 88 = fun _ => 0 := by rw [ko 88 (by decide) (by decide) (by decide)]; exact gI_88
  have g0 : ∀ c, 2 ≤ c → c < 13 → begF (fun _ => 0) (kI_0 (zI0 xs) 93) c = 0 := fun c c0 c1 => by
    rw [eb, up_n (by omega), up_n (by omega)]; unfold zrF; rw [if_pos (Or.inl (by omega))]
  have g1 : ∀ c, 18 ≤ c → c < 392 → begF (fun _ => 0) (kI_0 (zI0 xs) 93) c = 0 := fun c c0 c1 => by
    rw [eb, up_n (by omega), up_n (by omega)]; unfold zrF; rw [if_pos (Or.inr (by omega))]
  have gs : ∀ c, 13 ≤ c → c < 18 → begF (fun _ => 0) (kI_0 (zI0 xs) 93) c = kI_0 (zI0 xs) 93 c := fun c c0 c1 => by
    rw [eb, up_n (by omega), up_n (by omega)]; unfold zrF; rw [if_neg (by omega)]
  have gm1 : begF (fun _ => 0) (kI_0 (zI0 xs) 93) 0 = -4 := by rw [eb, up_n (by decide), up_s]
  have gp : begF (fun _ => 0) (kI_0 (zI0 xs) 93) 1 = 0 := by rw [eb, up_s]
  have la : laOk (begF (fun _ => 0) (kI_0 (zI0 xs) 93)) := ⟨Or.inl (g0 9 (by decide) (by decide)), Or.inl (g0 10 (by decide) (by decide)), Or.inl (g0 11 (by decide) (by decide)), Or.inl (g0 12 (by decide) (by decide))⟩
  have o : ∀ q, q ≠ 87 → q ≠ 93 → q ≠ 99 → ∀ j v, kI_0 (zI0 xs) q j = v → K q j = v := fun q q1 q2 q3 j v hv => by rw [ko q q1 q2 q3]; exact hv
  have set19 : ∀ j, 0 ≤ j → j < 5 → kI_0 (zI0 xs) 19 j = kI_0 (zI0 xs) 93 (13 + j) := fun j j0 j1 => by
    have : j = 0 ∨ j = 1 ∨ j = 2 ∨ j = 3 ∨ j = 4 := by omega
    rcases this with rfl | rfl | rfl | rfl | rfl
    · rw [gI_19_0, zI_0]; exact gI_93_13.symm
    · rw [gI_19_1, zI_1]; exact gI_93_14.symm
    · rw [gI_19_2, zI_2]; exact gI_93_15.symm
    · rw [gI_19_3, zI_3]; exact gI_93_16.symm
    · rw [gI_19_4, zI_4]; exact gI_93_17.symm
  have img : ∀ (p : Nat) (k : Int), iImg1 K 100 p k := fun p k => by
    have a : K 95 k = 0 := o 95 (by decide) (by decide) (by decide) k 0 gI_95_j
    have c : K 23 k = 0 := o 23 (by decide) (by decide) (by decide) k 0 gI_23_j
    exact ⟨by rw [a, c], Or.inl a, fun z => by omega⟩
  have zg0 : zg false = 25 := rfl
  refine ⟨⟨?_, ?_, fun j j0 j1 => ?_⟩, ?_, ⟨?_, ?_, ?_⟩, ⟨img 51 0, img 65 1⟩, ⟨?_, ?_, ?_, ?_⟩, ⟨?_, ?_, ?_, ?_⟩, fun q hq => ?_⟩
  · rw [k87 10 (by decide)]; exact o 2 (by decide) (by decide) (by decide) 1 0 gI_2_1
  · rw [k87 10 (by decide)]; decide
  · rw [k87 10 (by decide)] at j1; omega
  · unfold iProg
    rw [k88, k87 3 (by decide), zg0]
    refine ⟨t0_ok, ⟨by decide, by decide, fun s s0 s1 => absurd s1 (by show ¬ s < 0; omega)⟩, ⟨o 25 (by decide) (by decide) (by decide) 6 0 gI_25_6, fun i i0 i1 => absurd i1 (by show ¬ i < 0; omega), o 26 (by decide) (by decide) (by decide) 5 0 gI_26_5, o 26 (by decide) (by decide) (by decide) 4 0 gI_26_4, fun s s0 s1 => absurd s1 (by show ¬ s < 0; omega), fun j j0 j1 => by omega⟩, fun s s0 s1 => absurd s1 (by show ¬ s < 0; omega), ⟨⟨0, rfl⟩, fun o o0 o1 => absurd o1 (by show ¬ o < 0; omega), fun l o l0 l1 o1 => absurd o1 (by show ¬ o < 0; omega)⟩, fun _ => 0, ⟨rfl, fun i i0 i1 => absurd i1 (by show ¬ i < 0; omega)⟩, fun o o0 o1 => absurd o1 (by show ¬ o < 0; omega), o 37 (by decide) (by decide) (by decide) 0 0 gI_37_0, fun x _ _ => Or.inr ⟨by show (0 : Int) ≤ 0; decide, by show (0 : Int) ≤ 2519424; decide⟩, fun o o0 o1 => absurd o1 (by show ¬ o < 0; omega)⟩
  · rw [k93]
    refine ⟨⟨?_, ?_, ?_, fun j j0 j1 => ?_⟩, ⟨?_, ?_, fun j j0 j1 => ?_, fun j j0 j1 => ?_⟩, ⟨?_, fun j j0 j1 => ?_⟩, ⟨?_, ?_, ?_, ?_, fun j j0 j1 j2 => ?_, fun j j0 j1 => ?_⟩⟩
    · rw [gm1]; exact o 9 (by decide) (by decide) (by decide) 0 (-4) gI_9_0
    · rw [gp]; exact o 9 (by decide) (by decide) (by decide) 1 0 gI_9_1
    · unfold lav
      rw [g0 9 (by decide) (by decide), g0 10 (by decide) (by decide), g0 11 (by decide) (by decide), g0 12 (by decide) (by decide)]
      exact o 9 (by decide) (by decide) (by decide) 3 0 gI_9_3
    · rw [g1 _ (by omega) (by omega)]; exact o 10 (by decide) (by decide) (by decide) j 0 gI_10_j
    · rw [g0 7 (by decide) (by decide)]; exact o 11 (by decide) (by decide) (by decide) 1 0 gI_11_1
    · rw [g0 8 (by decide) (by decide)]; exact o 11 (by decide) (by decide) (by decide) 4 0 gI_11_4
    · rw [g0 7 (by decide) (by decide)] at j1; omega
    · rw [g0 8 (by decide) (by decide)] at j1; omega
    · rw [g0 6 (by decide) (by decide)]; exact o 15 (by decide) (by decide) (by decide) 2 0 gI_15_2
    · rw [g0 6 (by decide) (by decide)] at j1
      have : hd40 0 = 0 := rfl
      omega
    · rw [g0 4 (by decide) (by decide)]; exact o 8 (by decide) (by decide) (by decide) 5 0 gI_8_5
    · rw [g0 5 (by decide) (by decide)]; exact o 8 (by decide) (by decide) (by decide) 6 0 gI_8_6
    · rw [g0 2 (by decide) (by decide)]; exact o 8 (by decide) (by decide) (by decide) 7 0 gI_8_7
    · rw [g0 3 (by decide) (by decide)]; exact o 8 (by decide) (by decide) (by decide) 8 0 gI_8_8
    · rw [g0 4 (by decide) (by decide)] at j2; omega
    · rw [gs _ (by omega) (by omega)]; exact o 19 (by decide) (by decide) (by decide) j _ (set19 j j0 j1)
  · rw [k93, k88]; exact ⟨bo.1, la, bo.2⟩
  · rw [k99]; exact bo.2.2
  · exact Or.inl ⟨o 101 (by decide) (by decide) (by decide) 0 (-4) gI_101_0, o 79 (by decide) (by decide) (by decide) 2 (-4) gI_79_2⟩
  · exact Or.inl ⟨o 101 (by decide) (by decide) (by decide) 1 (-4) gI_101_1, o 81 (by decide) (by decide) (by decide) 2 (-4) gI_81_2⟩
  · exact Or.inl ⟨o 101 (by decide) (by decide) (by decide) 2 (-4) gI_101_2, o 83 (by decide) (by decide) (by decide) 2 (-4) gI_83_2⟩
  · exact Or.inl ⟨o 101 (by decide) (by decide) (by decide) 3 (-4) gI_101_3, o 85 (by decide) (by decide) (by decide) 2 (-4) gI_85_2⟩
  · rw [k87 15 (by decide)]; exact o 4 (by decide) (by decide) (by decide) 1 0 gI_4_1
  · rw [k87 28 (by decide)]; exact o 1 (by decide) (by decide) (by decide) 9 0 gI_1_9
  · rw [k88]; exact fun _ _ => rfl
  · rw [ko 89 (by decide) (by decide) (by decide), gI_89]; exact fun _ _ => rfl
  · rw [ko q (by omega) (by omega) (by omega), hI_0 hq]
end B72
