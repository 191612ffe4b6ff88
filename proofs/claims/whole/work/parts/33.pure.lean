-- ===== shifts =====
theorem sh_amt : ∀ n : Fin 32, (((Int32.ofInt ((n.val : Nat) : Int) &&& 31).toBitVec.smod 32).toNat) = n.val := by decide
theorem iShr_eq {x : Int} (k : Nat) (hk : k < 32) (hx : -2147483648 ≤ x ∧ x < 2147483648) : iShr x (k : Int) = x / 2 ^ k := by
  show ((Int32.ofInt x).toBitVec.sshiftRight' ((Int32.ofInt (k : Int) &&& 31).toBitVec.smod 32)).toInt = _
  have h := sh_amt ⟨k, hk⟩
  have h' : ((Int32.ofInt (k : Int) &&& 31).toBitVec.smod 32).toNat = k := h
  show ((Int32.ofInt x).toBitVec.sshiftRight (((Int32.ofInt (k : Int) &&& 31).toBitVec.smod 32).toNat)).toInt = _
  rw [h', BitVec.toInt_sshiftRight, Int.shiftRight_eq_div_pow]
  have e : (Int32.ofInt x).toBitVec.toInt = x := toInt_of32 ⟨hx.1, hx.2⟩
  rw [e]; push_cast; rfl
theorem iAnd_lo {x : Int} (n : Nat) (hn : n < 31) (hx : 0 ≤ x ∧ x < 2147483648) : iAnd x (2 ^ n - 1) = x % 2 ^ n := by
  obtain ⟨a, rfl⟩ := Int.eq_ofNat_of_zero_le hx.1
  have hp : (2 : Nat) ^ n ≤ 2 ^ 30 := Nat.pow_le_pow_right (by omega) (by omega)
  have h30 : (2 : Nat) ^ 30 = 1073741824 := by decide
  have h1 : 1 ≤ (2 : Nat) ^ n := Nat.one_le_two_pow
  have e1 : ((2 : Int) ^ n - 1) = (((2 ^ n - 1 : Nat)) : Int) := by
    rw [Int.natCast_sub h1]; push_cast; rfl
  rw [e1]
  show (BitVec.ofInt 32 ((a : Nat) : Int) &&& BitVec.ofInt 32 ((2 ^ n - 1 : Nat) : Int)).toInt = _
  rw [BitVec.ofInt_natCast, BitVec.ofInt_natCast]
  have hv : (BitVec.ofNat 32 a &&& BitVec.ofNat 32 (2 ^ n - 1)).toNat = a % 2 ^ n := by
    rw [BitVec.toNat_and, BitVec.toNat_ofNat, BitVec.toNat_ofNat, Nat.mod_eq_of_lt (by omega), Nat.mod_eq_of_lt (by omega), Nat.and_two_pow_sub_one_eq_mod]
  have hl : a % 2 ^ n < 2 ^ n := Nat.mod_lt _ (by omega)
  rw [BitVec.toInt_eq_toNat_of_lt (by rw [hv]; omega), hv]
  push_cast; rfl
theorem iAnd_1 {x : Int} (hx : 0 ≤ x ∧ x < 2147483648) : iAnd x 1 = x % 2 := iAnd_lo 1 (by decide) hx
theorem iAnd_1023 {x : Int} (hx : 0 ≤ x ∧ x < 2147483648) : iAnd x 1023 = x % 1024 := iAnd_lo 10 (by decide) hx
theorem iShl_10 : ∀ x : Int, 0 ≤ x → x ≤ 5 → iShl x 10 = x * 1024 := by
  intro x h1 h2
  have : x = 0 ∨ x = 1 ∨ x = 2 ∨ x = 3 ∨ x = 4 ∨ x = 5 := by omega
  rcases this with h | h | h | h | h | h <;> rw [h] <;> decide
theorem iShl_1 : ∀ k : Fin 10, iShl 1 ((k.val : Nat) : Int) = 2 ^ k.val := by decide
