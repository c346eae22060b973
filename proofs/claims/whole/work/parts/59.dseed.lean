/-! ===== the seed ===== -/
def nS (x : Int) : Int := wr (wr (x * 1103515245) + 12345)
def gT (x : Int) : Int := x % 4294967296 / 65536 % 32768
def chk : Nat → Nat → Bool
  | 0, _ => false
  | c + 1, z => Nat.blt ((z * 1103515245 + 12345) % 524288) 262144 || chk c ((z * 1103515245 + 12345) % 524288)
def chkA : Nat → Nat → Bool
  | 0, z => chk 20 z
  | n + 1, z => chkA n (2 * z) && chkA n (2 * z + 1)
theorem chkA_of : ∀ (n z : Nat), chkA n z = true → ∀ y, z * 2 ^ n ≤ y → y < (z + 1) * 2 ^ n → chk 20 y = true := by
  intro n
  induction n with
  | zero => intro z h y h1 h2; rw [Nat.pow_zero] at h1 h2; rw [show y = z by omega]; exact h
  | succ n ih =>
    intro z h y h1 h2
    have h' : (chkA n (2 * z) && chkA n (2 * z + 1)) = true := h
    rw [Bool.and_eq_true] at h'
    rw [Nat.pow_succ] at h1 h2
    have e1 : 2 * z * 2 ^ n = z * (2 ^ n * 2) := by rw [Nat.mul_comm 2 z, Nat.mul_assoc, Nat.mul_comm 2]
    have e2 : (2 * z + 1) * 2 ^ n = z * (2 ^ n * 2) + 2 ^ n := by rw [Nat.add_mul, e1]; omega
    have e3 : (2 * z + 1 + 1) * 2 ^ n = (z + 1) * (2 ^ n * 2) := by rw [show 2 * z + 1 + 1 = 2 * (z + 1) by omega, Nat.mul_comm 2 (z + 1), Nat.mul_assoc, Nat.mul_comm 2]
    by_cases c : y < (2 * z + 1) * 2 ^ n
    · exact ih _ h'.1 y (by omega) c
    · exact ih _ h'.2 y (by omega) (by omega)
theorem ck0 : chkA 16 0 = true := by decide +kernel
theorem ck1 : chkA 16 1 = true := by decide +kernel
theorem ck2 : chkA 16 2 = true := by decide +kernel
theorem ck3 : chkA 16 3 = true := by decide +kernel
theorem ck4 : chkA 16 4 = true := by decide +kernel
theorem ck5 : chkA 16 5 = true := by decide +kernel
theorem ck6 : chkA 16 6 = true := by decide +kernel
theorem ck7 : chkA 16 7 = true := by decide +kernel
theorem chk_all {y : Nat} (h : y < 524288) : chk 20 y = true := by
  have : y < 65536 ∨ (65536 ≤ y ∧ y < 131072) ∨ (131072 ≤ y ∧ y < 196608) ∨ (196608 ≤ y ∧ y < 262144) ∨ (262144 ≤ y ∧ y < 327680) ∨ (327680 ≤ y ∧ y < 393216) ∨ (393216 ≤ y ∧ y < 458752) ∨ (458752 ≤ y ∧ y < 524288) := by omega
  rcases this with z | z | z | z | z | z | z | z
  · exact chkA_of 16 0 ck0 y (by omega) (by omega)
  · exact chkA_of 16 1 ck1 y (by omega) (by omega)
  · exact chkA_of 16 2 ck2 y (by omega) (by omega)
  · exact chkA_of 16 3 ck3 y (by omega) (by omega)
  · exact chkA_of 16 4 ck4 y (by omega) (by omega)
  · exact chkA_of 16 5 ck5 y (by omega) (by omega)
  · exact chkA_of 16 6 ck6 y (by omega) (by omega)
  · exact chkA_of 16 7 ck7 y (by omega) (by omega)
section A59
theorem gU (x : Int) : w2 (· &&& ·) (w2 zusr x 16) 32767 = gT x := by
  unfold w2 gT
  rw [Int32.ofInt_toInt]
  have e : (zusr (Int32.ofInt x) (Int32.ofInt 16) &&& Int32.ofInt 32767).toInt = (((BitVec.ofInt 32 x) >>> 16) &&& 32767#32).toInt := rfl
  rw [e]
  have n : (((BitVec.ofInt 32 x) >>> 16) &&& 32767#32).toNat = (x % 4294967296).toNat / 65536 % 32768 := by
    rw [BitVec.toNat_and, BitVec.toNat_ushiftRight, BitVec.toNat_ofInt]
    rw [show (32767#32).toNat = 2 ^ 15 - 1 from rfl, Nat.and_two_pow_sub_one_eq_mod, Nat.shiftRight_eq_div_pow]
    rfl
  rw [BitVec.toInt_eq_toNat_of_lt (by omega), n]
  omega
theorem gS (x : Int) : w2 (· &&& ·) (w2 (fun a b => a >>> (b &&& 31)) x 16) 32767 = gT x := by
  rw [← gU]
  unfold w2
  rw [Int32.ofInt_toInt, Int32.ofInt_toInt]
  have e1 : ((Int32.ofInt x >>> (Int32.ofInt 16 &&& 31)) &&& Int32.ofInt 32767).toInt = (((BitVec.ofInt 32 x).sshiftRight 16) &&& 32767#32).toInt := rfl
  have e2 : (zusr (Int32.ofInt x) (Int32.ofInt 16) &&& Int32.ofInt 32767).toInt = (((BitVec.ofInt 32 x) >>> 16) &&& 32767#32).toInt := rfl
  rw [e1, e2]
  congr 1
  apply BitVec.eq_of_getLsbD_eq
  intro i hi
  rw [BitVec.getLsbD_and, BitVec.getLsbD_and, BitVec.getLsbD_sshiftRight, BitVec.getLsbD_ushiftRight]
  by_cases h : i < 15
  · rw [if_pos (by omega)]
    congr 1
    simp [show ¬ 32 ≤ i by omega]
  · have z : (32767#32).getLsbD i = false := by
      have : ∀ j : Fin 32, 15 ≤ j.val → (32767#32).getLsbD j.val = false := by decide
      exact this ⟨i, hi⟩ (show 15 ≤ i by omega)
    rw [z, Bool.and_false, Bool.and_false]
theorem gT_b (x : Int) : 0 ≤ gT x ∧ gT x < 32768 := by unfold gT; omega
theorem wr_mod (a : Int) : wr a % 524288 = a % 524288 := by
  unfold wr
  rw [Int32.toInt_ofInt, Int.bmod_def, show ((Int32.size : Nat) : Int) = 4294967296 from rfl]
  split <;> omega
theorem nS_mod (x : Int) : (nS x % 524288).toNat = ((x % 524288).toNat * 1103515245 + 12345) % 524288 := by
  unfold nS
  have h1 := wr_mod (wr (x * 1103515245) + 12345)
  have h2 := wr_mod (x * 1103515245)
  have h3 := Int.mul_emod x 1103515245 524288
  have h4 := Int.mul_emod (x % 524288) 1103515245 524288
  rw [Int.emod_emod] at h4
  have h5 := h3.trans h4.symm
  have r0 := Int.emod_nonneg x (show (524288 : Int) ≠ 0 by decide)
  rw [h1]
  rw [h5] at h2
  generalize x % 524288 = r at *
  generalize wr (x * 1103515245) = w at *
  have h6 : (w + 12345) % 524288 = (r * 1103515245 % 524288 + 12345) % 524288 := by omega
  obtain ⟨k, rfl⟩ := Int.eq_ofNat_of_zero_le r0
  rw [h6, Int.toNat_natCast, show (k : Int) * 1103515245 % 524288 = ((k * 1103515245 % 524288 : Nat) : Int) from rfl]
  generalize k * 1103515245 = y
  omega
theorem gT_8 (x : Int) : gT x % 8 < 4 ↔ (x % 524288).toNat < 262144 := by unfold gT; omega
end A59
