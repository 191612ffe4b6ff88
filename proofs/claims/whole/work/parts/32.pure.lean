-- ===== masks of ten paces =====
def bm (f : Nat → Bool) : Nat → BitVec 32
  | 0 => 0#32
  | n + 1 => bm f n ||| (if f n then BitVec.twoPow 32 n else 0#32)
theorem bm_bit (f : Nat → Bool) (n p : Nat) (hn : n ≤ 32) : (bm f n).getLsbD p = (decide (p < n) && f p) := by
  induction n with
  | zero => show (0#32).getLsbD p = _; simp
  | succ n ih =>
    show (bm f n ||| _).getLsbD p = _
    rw [BitVec.getLsbD_or, ih (by omega)]
    by_cases hp : p = n
    · subst hp
      by_cases hf : f p
      · rw [if_pos hf]; simp [hf]; omega
      · rw [if_neg hf]; simp [hf]
    · have e : (if f n = true then BitVec.twoPow 32 n else 0#32).getLsbD p = false := by
        split
        · rw [BitVec.getLsbD_twoPow]; simp; omega
        · simp
      rw [e, Bool.or_false]
      have : decide (p < n) = decide (p < n + 1) := by
        by_cases h : p < n
        · rw [decide_eq_true h, decide_eq_true (by omega)]
        · rw [decide_eq_false h, decide_eq_false (by omega)]
      rw [this]
/-- the mask of ten bits -/
def MK (f : Nat → Bool) : Int := ((bm f 10).toNat : Int)
theorem MK_lt (f : Nat → Bool) : 0 ≤ MK f ∧ MK f < 1024 := by
  have h : (bm f 10).toNat < 2 ^ 10 := by
    apply Nat.lt_pow_two_of_testBit
    intro i hi
    have := bm_bit f 10 i (by omega)
    rw [BitVec.getLsbD] at this
    rw [this, decide_eq_false (by omega), Bool.false_and]
  unfold MK
  have : (2 : Nat) ^ 10 = 1024 := by decide
  omega
theorem ofInt_toNat (v : BitVec 32) : BitVec.ofInt 32 ((v.toNat : Nat) : Int) = v := by
  rw [BitVec.ofInt_natCast, BitVec.ofNat_toNat, BitVec.setWidth_eq]
theorem toInt_small (v : BitVec 32) (h : v.toNat < 1024) : v.toInt = (v.toNat : Int) :=
  BitVec.toInt_eq_toNat_of_lt (by omega)
theorem bm_ext {v : BitVec 32} {f : Nat → Bool} (h : ∀ p, p < 32 → v.getLsbD p = (decide (p < 10) && f p)) : v = bm f 10 := by
  apply BitVec.eq_of_getLsbD_eq
  intro i hi
  rw [h i hi, bm_bit f 10 i (by omega)]
theorem MK_and (f g : Nat → Bool) : iAnd (MK f) (MK g) = MK (fun p => f p && g p) := by
  show (BitVec.ofInt 32 ((bm f 10).toNat : Int) &&& BitVec.ofInt 32 ((bm g 10).toNat : Int)).toInt = _
  rw [ofInt_toNat, ofInt_toNat]
  have e : bm f 10 &&& bm g 10 = bm (fun p => f p && g p) 10 := bm_ext fun p _ => by
    rw [BitVec.getLsbD_and, bm_bit f 10 p (by omega), bm_bit g 10 p (by omega)]
    cases decide (p < 10) <;> cases f p <;> cases g p <;> rfl
  rw [e, toInt_small _ (by have := MK_lt (fun p => f p && g p); unfold MK at this; omega)]
  rfl
theorem MK_or (f g : Nat → Bool) : iOr (MK f) (MK g) = MK (fun p => f p || g p) := by
  show (BitVec.ofInt 32 ((bm f 10).toNat : Int) ||| BitVec.ofInt 32 ((bm g 10).toNat : Int)).toInt = _
  rw [ofInt_toNat, ofInt_toNat]
  have e : bm f 10 ||| bm g 10 = bm (fun p => f p || g p) 10 := bm_ext fun p _ => by
    rw [BitVec.getLsbD_or, bm_bit f 10 p (by omega), bm_bit g 10 p (by omega)]
    cases decide (p < 10) <;> cases f p <;> cases g p <;> rfl
  rw [e, toInt_small _ (by have := MK_lt (fun p => f p || g p); unfold MK at this; omega)]
  rfl
theorem MK_all : MK (fun _ => true) = 1023 := by decide
theorem MK_none : MK (fun _ => false) = 0 := by decide
theorem MK_not (f : Nat → Bool) : iXor (MK f) 1023 = MK (fun p => !f p) := by
  rw [← MK_all]
  show (BitVec.ofInt 32 ((bm f 10).toNat : Int) ^^^ BitVec.ofInt 32 ((bm (fun _ => true) 10).toNat : Int)).toInt = _
  rw [ofInt_toNat, ofInt_toNat]
  have e : bm f 10 ^^^ bm (fun _ => true) 10 = bm (fun p => !f p) 10 := bm_ext fun p _ => by
    rw [BitVec.getLsbD_xor, bm_bit f 10 p (by omega), bm_bit (fun _ => true) 10 p (by omega)]
    cases decide (p < 10) <;> cases f p <;> rfl
  rw [e, toInt_small _ (by have := MK_lt (fun p => !f p); unfold MK at this; omega)]
  rfl
theorem MK_bit (f : Nat → Bool) (p : Nat) (hp : p < 10) : (MK f / 2 ^ p) % 2 = if f p then 1 else 0 := by
  have h := bm_bit f 10 p (by omega)
  rw [decide_eq_true hp, Bool.true_and, BitVec.getLsbD, Nat.testBit_eq_decide_div_mod_eq] at h
  have e : (MK f / 2 ^ p) % 2 = (((bm f 10).toNat / 2 ^ p % 2 : Nat) : Int) := by
    unfold MK; push_cast; rfl
  rw [e, ← h]
  by_cases q : (bm f 10).toNat / 2 ^ p % 2 = 1
  · rw [q]; rfl
  · have : (bm f 10).toNat / 2 ^ p % 2 = 0 := by omega
    rw [this]; rfl
theorem MK_cong {f g : Nat → Bool} (h : ∀ p, p < 10 → f p = g p) : MK f = MK g := by
  unfold MK
  have e : bm f 10 = bm g 10 := bm_ext fun p _ => by
    rw [bm_bit f 10 p (by omega)]
    by_cases q : p < 10
    · rw [h p q]
    · rw [decide_eq_false q, Bool.false_and, Bool.false_and]
  rw [e]
