-- ===== what a step that goes on says of the stack =====
theorem w32_ofInt (x : Int) : w32 x = (Int32.ofInt x).toInt := by
  rw [Int32.toInt_ofInt]
  show w32 x = Int.bmod x 4294967296
  unfold w32
  rw [Int.bmod_def]
  split <;> omega
theorem w64_ofInt (x : Int) : w64 x = (Int64.ofInt x).toInt := by
  rw [Int64.toInt_ofInt]
  show w64 x = Int.bmod x 18446744073709551616
  unfold w64
  rw [Int.bmod_def]
  split <;> omega
theorem ofInt_w32 (x : Int) : Int32.ofInt (w32 x) = Int32.ofInt x := by rw [w32_ofInt, Int32.ofInt_toInt]
theorem ofInt_w64 (x : Int) : Int64.ofInt (w64 x) = Int64.ofInt x := by rw [w64_ofInt, Int64.ofInt_toInt]
theorem in32_w (x : Int) : in32 (w32 x) := by unfold in32 w32; omega
theorem in64_w (x : Int) : in64 (w64 x) := by unfold in64 w64; omega
theorem w32_eq {x : Int} (h : in32 x) : w32 x = x := by unfold in32 at h; unfold w32; omega
theorem w64_eq {x : Int} (h : in64 x) : w64 x = x := by unfold in64 at h; unfold w64; omega
theorem in32_t (x : Int32) : in32 x.toInt := ⟨by have := x.le_toInt; omega, by have := x.toInt_lt; omega⟩
theorem in64_t (x : Int64) : in64 x.toInt := ⟨by have := x.le_toInt; omega, by have := x.toInt_lt; omega⟩
theorem toInt_of32 {x : Int} (h : in32 x) : (Int32.ofInt x).toInt = x := by rw [← w32_ofInt, w32_eq h]
theorem toInt_of64 {x : Int} (h : in64 x) : (Int64.ofInt x).toInt = x := by rw [← w64_ofInt, w64_eq h]
theorem of32_lt {x y : Int} (hx : in32 x) (hy : in32 y) : Int32.ofInt x < Int32.ofInt y ↔ x < y := by rw [Int32.lt_iff_toInt_lt, toInt_of32 hx, toInt_of32 hy]
theorem of32_le {x y : Int} (hx : in32 x) (hy : in32 y) : Int32.ofInt x ≤ Int32.ofInt y ↔ x ≤ y := by rw [Int32.le_iff_toInt_le, toInt_of32 hx, toInt_of32 hy]
theorem of32_eq {x y : Int} (hx : in32 x) (hy : in32 y) : Int32.ofInt x = Int32.ofInt y ↔ x = y := by rw [← Int32.toInt_inj, toInt_of32 hx, toInt_of32 hy]
theorem of64_lt {x y : Int} (hx : in64 x) (hy : in64 y) : Int64.ofInt x < Int64.ofInt y ↔ x < y := by rw [Int64.lt_iff_toInt_lt, toInt_of64 hx, toInt_of64 hy]
theorem of64_eq {x y : Int} (hx : in64 x) (hy : in64 y) : Int64.ofInt x = Int64.ofInt y ↔ x = y := by rw [← Int64.toInt_inj, toInt_of64 hx, toInt_of64 hy]
theorem of32_l {x : Int} (h : in32 x) : (Int32.ofInt x).toInt64 = Int64.ofInt x := by
  rw [← Int64.toInt_inj, Int32.toInt_toInt64, toInt_of32 h, toInt_of64 ⟨by unfold in32 at h; omega, by unfold in32 at h; omega⟩]
/-- a place in a row -/
theorem of32_in {i : Int} {n : Nat} (h0 : 0 ≤ i) (h1 : i < (n : Int)) (hi : in32 i) : vp_in (Int32.ofInt i) n ∧ (Int32.ofInt i).toNatClampNeg = i.toNat := by
  have e : (Int32.ofInt i).toInt = i := toInt_of32 hi
  refine ⟨vp_in_iff.mpr ⟨by rw [e]; exact h0, by rw [e]; exact h1⟩, ?_⟩
  show ((Int32.ofInt i).toInt).toNat = i.toNat
  rw [e]
theorem xIf_eq {b : Bool} {x : XI} (h : xIf b x ≠ xBad) : b = true ∧ xIf b x = x := by
  unfold xIf at h ⊢
  by_cases hb : b = true
  · exact ⟨hb, if_pos hb⟩
  · exact absurd (if_neg hb) h
section INV
variable {nx a b : Nat} {v : Int} {l : List (Int × Nat)} {C : XC} {k : XK} {d : Nat} {ls st : List XV} {H : XH} {z : Option XV × XH}
theorem oLoadI_inv (h : oLoadI nx a b v l C k d ls st H = some z) : ∃ x, ls[a]? = some (vI x) ∧ k nx ls (vI x :: st) H = some z := by
  unfold oLoadI at h; split at h
  · rename_i x e; exact ⟨x, e, h⟩
  · cases h
theorem oLoadL_inv (h : oLoadL nx a b v l C k d ls st H = some z) : ∃ x, ls[a]? = some (vL x) ∧ k nx ls (vL x :: st) H = some z := by
  unfold oLoadL at h; split at h
  · rename_i x e; exact ⟨x, e, h⟩
  · cases h
theorem oLoadA_inv (h : oLoadA nx a b v l C k d ls st H = some z) : ∃ n, ls[a]? = some (vR n) ∧ n ≠ 0 ∧ k nx ls (vR n :: st) H = some z := by
  unfold oLoadA at h; split at h
  · rename_i x e
    split at h
    · cases h
    · rename_i hn; exact ⟨x, e, hn, h⟩
  · cases h
theorem oStoreI_inv (h : oStoreI nx a b v l C k d ls st H = some z) : ∃ x st', st = vI x :: st' ∧ a < ls.length ∧ prevLong ls a = false ∧ k nx (ls.set a (vI x)) st' H = some z := by
  unfold oStoreI at h; split at h
  · split at h
    · rename_i x st' hc; exact ⟨x, st', rfl, hc.1, hc.2, h⟩
    · cases h
  · cases h
theorem oStoreA_inv (h : oStoreA nx a b v l C k d ls st H = some z) : ∃ n st', st = vR n :: st' ∧ a < ls.length ∧ prevLong ls a = false ∧ n ≠ 0 ∧ k nx (ls.set a (vR n)) st' H = some z := by
  unfold oStoreA at h; split at h
  · split at h
    · rename_i x st' hc; exact ⟨x, st', rfl, hc.1, hc.2.1, hc.2.2, h⟩
    · cases h
  · cases h
theorem oStoreL_inv (h : oStoreL nx a b v l C k d ls st H = some z) : ∃ x st', st = vL x :: st' ∧ a + 1 < ls.length ∧ prevLong ls a = false ∧ k nx ((ls.set a (vL x)).set (a + 1) (vR 0)) st' H = some z := by
  unfold oStoreL at h; split at h
  · split at h
    · rename_i x st' hc; exact ⟨x, st', rfl, hc.1, hc.2, h⟩
    · cases h
  · cases h
theorem oIinc_inv (h : oIinc nx a b v l C k d ls st H = some z) : ∃ x, ls[a]? = some (vI x) ∧ prevLong ls a = false ∧ k nx (ls.set a (vI (w32 (x + v)))) st H = some z := by
  unfold oIinc at h; split at h
  · rename_i x e
    split at h
    · rename_i hc; exact ⟨x, e, hc, h⟩
    · cases h
  · cases h
theorem oBin_inv {f : Int → Int → Int} (h : oBin f nx a b v l C k d ls st H = some z) : ∃ y x st', st = vI y :: vI x :: st' ∧ k nx ls (vI (f x y) :: st') H = some z := by
  unfold oBin at h; split at h
  · exact ⟨_, _, _, rfl, h⟩
  · cases h
theorem oDivI_inv {f : Int → Int → Int} (h : oDivI f nx a b v l C k d ls st H = some z) : ∃ y x st', st = vI y :: vI x :: st' ∧ y ≠ 0 ∧ k nx ls (vI (f x y) :: st') H = some z := by
  unfold oDivI at h; split at h
  · split at h
    · cases h
    · rename_i hn; exact ⟨_, _, _, rfl, hn, h⟩
  · cases h
theorem oUn_inv {f : Int → Int} (h : oUn f nx a b v l C k d ls st H = some z) : ∃ x st', st = vI x :: st' ∧ k nx ls (vI (f x) :: st') H = some z := by
  unfold oUn at h; split at h
  · exact ⟨_, _, rfl, h⟩
  · cases h
theorem oBinL_inv {f : Int → Int → Int} (h : oBinL f nx a b v l C k d ls st H = some z) : ∃ y x st', st = vL y :: vL x :: st' ∧ k nx ls (vL (f x y) :: st') H = some z := by
  unfold oBinL at h; split at h
  · exact ⟨_, _, _, rfl, h⟩
  · cases h
theorem oDivL_inv {f : Int → Int → Int} (h : oDivL f nx a b v l C k d ls st H = some z) : ∃ y x st', st = vL y :: vL x :: st' ∧ y ≠ 0 ∧ k nx ls (vL (f x y) :: st') H = some z := by
  unfold oDivL at h; split at h
  · split at h
    · cases h
    · rename_i hn; exact ⟨_, _, _, rfl, hn, h⟩
  · cases h
theorem oLcmp_inv (h : oLcmp nx a b v l C k d ls st H = some z) : ∃ y x st', st = vL y :: vL x :: st' ∧ k nx ls (vI (lCmp x y) :: st') H = some z := by
  unfold oLcmp at h; split at h
  · exact ⟨_, _, _, rfl, h⟩
  · cases h
theorem oI2l_inv (h : oI2l nx a b v l C k d ls st H = some z) : ∃ x st', st = vI x :: st' ∧ k nx ls (vL x :: st') H = some z := by
  unfold oI2l at h; split at h
  · exact ⟨_, _, rfl, h⟩
  · cases h
theorem oIf_inv {f : Int → Bool} (h : oIf f nx a b v l C k d ls st H = some z) : ∃ x st', st = vI x :: st' ∧ (f x = true → k a ls st' H = some z) ∧ (f x = false → k nx ls st' H = some z) := by
  unfold oIf at h; split at h
  · rename_i x st'
    refine ⟨x, st', rfl, fun q => ?_, fun q => ?_⟩
    · rw [if_pos q] at h; exact h
    · rw [if_neg (by rw [q]; decide)] at h; exact h
  · cases h
theorem oIfc_inv {f : Int → Int → Bool} (h : oIfc f nx a b v l C k d ls st H = some z) : ∃ y x st', st = vI y :: vI x :: st' ∧ (f x y = true → k a ls st' H = some z) ∧ (f x y = false → k nx ls st' H = some z) := by
  unfold oIfc at h; split at h
  · rename_i y x st'
    refine ⟨y, x, st', rfl, fun q => ?_, fun q => ?_⟩
    · rw [if_pos q] at h; exact h
    · rw [if_neg (by rw [q]; decide)] at h; exact h
  · cases h
theorem oDup_inv (h : oDup nx a b v l C k d ls st H = some z) : ∃ x st', st = x :: st' ∧ isLong (some x) = false ∧ k nx ls (x :: x :: st') H = some z := by
  unfold oDup at h; split at h
  · split at h
    · cases h
    · rename_i hn; exact ⟨_, _, rfl, by simpa using hn, h⟩
  · cases h
theorem oPop_inv (h : oPop nx a b v l C k d ls st H = some z) : ∃ x st', st = x :: st' ∧ isLong (some x) = false ∧ k nx ls st' H = some z := by
  unfold oPop at h; split at h
  · split at h
    · cases h
    · rename_i hn; exact ⟨_, _, rfl, by simpa using hn, h⟩
  · cases h
theorem oDupX1_inv (h : oDupX1 nx a b v l C k d ls st H = some z) : ∃ x y st', st = x :: y :: st' ∧ isLong (some x) = false ∧ isLong (some y) = false ∧ k nx ls (x :: y :: x :: st') H = some z := by
  unfold oDupX1 at h; split at h
  · split at h
    · cases h
    · rename_i hn; exact ⟨_, _, _, rfl, by simpa using fun q => hn (Or.inl q), by simpa using fun q => hn (Or.inr q), h⟩
  · cases h
theorem oDup2_inv (h : oDup2 nx a b v l C k d ls st H = some z) : ∃ x y st', st = x :: y :: st' ∧ isLong (some x) = false ∧ isLong (some y) = false ∧ k nx ls (x :: y :: x :: y :: st') H = some z := by
  unfold oDup2 at h; split at h
  · split at h
    · cases h
    · rename_i hn; exact ⟨_, _, _, rfl, by simpa using fun q => hn (Or.inl q), by simpa using fun q => hn (Or.inr q), h⟩
  · cases h
theorem oGetI_inv (h : oGetI nx a b v l C k d ls st H = some z) : ∃ o st', st = vR o :: st' ∧ H.2.2.1 o = (1, a) ∧ k nx ls (vI (H.2.2.2.2 o (b : Int)) :: st') H = some z := by
  unfold oGetI at h; split at h
  · split at h
    · rename_i hc; exact ⟨_, _, rfl, hc, h⟩
    · cases h
  · cases h
theorem oGetL_inv (h : oGetL nx a b v l C k d ls st H = some z) : ∃ o st', st = vR o :: st' ∧ H.2.2.1 o = (1, a) ∧ k nx ls (vL (H.2.2.2.2 o (b : Int)) :: st') H = some z := by
  unfold oGetL at h; split at h
  · split at h
    · rename_i hc; exact ⟨_, _, rfl, hc, h⟩
    · cases h
  · cases h
theorem oGetR_inv (h : oGetR nx a b v l C k d ls st H = some z) : ∃ o st', st = vR o :: st' ∧ H.2.2.1 o = (1, a) ∧ H.2.2.2.1 o b ≠ 0 ∧ k nx ls (vR (H.2.2.2.1 o b) :: st') H = some z := by
  unfold oGetR at h; split at h
  · split at h
    · rename_i hc; exact ⟨_, _, rfl, hc.1, hc.2, h⟩
    · cases h
  · cases h
theorem oPutI_inv (h : oPutI nx a b v l C k d ls st H = some z) : ∃ x o st', st = vI x :: vR o :: st' ∧ H.2.2.1 o = (1, a) ∧ k nx ls st' (setM H (up2 H.2.2.2.2 o (b : Int) x)) = some z := by
  unfold oPutI at h; split at h
  · split at h
    · rename_i hc; exact ⟨_, _, _, rfl, hc, h⟩
    · cases h
  · cases h
theorem oPutL_inv (h : oPutL nx a b v l C k d ls st H = some z) : ∃ x o st', st = vL x :: vR o :: st' ∧ H.2.2.1 o = (1, a) ∧ k nx ls st' (setM H (up2 H.2.2.2.2 o (b : Int) x)) = some z := by
  unfold oPutL at h; split at h
  · split at h
    · rename_i hc; exact ⟨_, _, _, rfl, hc, h⟩
    · cases h
  · cases h
theorem oPutZ_inv (h : oPutZ nx a b v l C k d ls st H = some z) : ∃ x o st', st = vI x :: vR o :: st' ∧ H.2.2.1 o = (1, a) ∧ (x = 0 ∨ x = 1) ∧ k nx ls st' (setM H (up2 H.2.2.2.2 o (b : Int) x)) = some z := by
  unfold oPutZ at h; split at h
  · split at h
    · rename_i hc; exact ⟨_, _, _, rfl, hc.1, hc.2, h⟩
    · cases h
  · cases h
theorem oPutR_inv (h : oPutR nx a b v l C k d ls st H = some z) : ∃ q o st', st = vR q :: vR o :: st' ∧ H.2.2.1 o = (1, a) ∧ 32 ≤ q ∧ k nx ls st' (setR H (upr H.2.2.2.1 o b q)) = some z := by
  unfold oPutR at h; split at h
  · split at h
    · rename_i hc; exact ⟨_, _, _, rfl, hc.1, hc.2, h⟩
    · cases h
  · cases h
theorem oStrV_inv (h : oStrV nx a b v l C k d ls st H = some z) : ∃ o st', st = vR o :: st' ∧ 6 ≤ o ∧ o < 19 ∧ k nx ls (vR (o + 13) :: st') H = some z := by
  unfold oStrV at h; split at h
  · split at h
    · rename_i hc; exact ⟨_, _, rfl, hc.1, hc.2, h⟩
    · cases h
  · cases h
theorem oStrC_inv (h : oStrC nx a b v l C k d ls st H = some z) : ∃ o st', st = vR o :: st' ∧ 6 ≤ o ∧ o < 19 ∧ k nx ls (vI 0 :: st') H = some z := by
  unfold oStrC at h; split at h
  · split at h
    · rename_i hc; exact ⟨_, _, rfl, hc.1, hc.2, h⟩
    · cases h
  · cases h
theorem oIald_inv (h : oIald nx a b v l C k d ls st H = some z) : ∃ i o st', st = vI i :: vR o :: st' ∧ 0 ≤ i ∧
    (((H.2.2.1 o).1 = 2 ∧ i < ((H.2.2.1 o).2 : Int) ∧ k nx ls (vI (H.2.2.2.2 o i) :: st') H = some z) ∨
     (((o = 2 ∧ i < 7) ∨ (o = 4 ∧ i < 21)) ∧ k nx ls (vI (zTab o i) :: st') H = some z) ∨
     (o = 1 ∧ i < H.2.2.2.2 1 (-1) ∧ k nx ls (vI (H.2.2.2.2 1 i) :: st') H = some z)) := by
  unfold oIald at h; split at h
  · split at h
    · rename_i hc; exact ⟨_, _, _, rfl, hc.2.1, Or.inl ⟨hc.1, hc.2.2, h⟩⟩
    · split at h
      · rename_i hc
        refine ⟨_, _, _, rfl, by rcases hc with q | q <;> exact q.2.1, Or.inr (Or.inl ⟨?_, h⟩)⟩
        rcases hc with q | q
        · exact Or.inl ⟨q.1, q.2.2⟩
        · exact Or.inr ⟨q.1, q.2.2⟩
      · split at h
        · rename_i hc; exact ⟨_, _, _, rfl, hc.2.1, Or.inr (Or.inr ⟨hc.1, hc.2.2, h⟩)⟩
        · cases h
  · cases h
theorem oLald_inv (h : oLald nx a b v l C k d ls st H = some z) : ∃ i st', st = vI i :: vR 3 :: st' ∧ 0 ≤ i ∧ i < 8 ∧ k nx ls (vL (zTab 3 i) :: st') H = some z := by
  unfold oLald at h; split at h
  · split at h
    · rename_i hc; obtain ⟨rfl, h1, h2⟩ := hc; exact ⟨_, _, rfl, h1, h2, h⟩
    · cases h
  · cases h
theorem oBald_inv (h : oBald nx a b v l C k d ls st H = some z) : ∃ i o st', st = vI i :: vR o :: st' ∧ 0 ≤ i ∧
    (((H.2.2.1 o).1 = 3 ∧ i < ((H.2.2.1 o).2 : Int) ∧ k nx ls (vI (H.2.2.2.2 o i) :: st') H = some z) ∨
     (19 ≤ o ∧ o < 32 ∧ i < (zLen o : Int) ∧ k nx ls (vI (zTab o i) :: st') H = some z)) := by
  unfold oBald at h; split at h
  · split at h
    · rename_i hc; exact ⟨_, _, _, rfl, hc.2.1, Or.inl ⟨hc.1, hc.2.2, h⟩⟩
    · split at h
      · rename_i hc; exact ⟨_, _, _, rfl, hc.2.2.1, Or.inr ⟨hc.1, hc.2.1, hc.2.2.2, h⟩⟩
      · cases h
  · cases h
theorem oIast_inv (h : oIast nx a b v l C k d ls st H = some z) : ∃ x i o st', st = vI x :: vI i :: vR o :: st' ∧ (H.2.2.1 o).1 = 2 ∧ 0 ≤ i ∧ i < ((H.2.2.1 o).2 : Int) ∧ k nx ls st' (setM H (up2 H.2.2.2.2 o i x)) = some z := by
  unfold oIast at h; split at h
  · split at h
    · rename_i hc; exact ⟨_, _, _, _, rfl, hc.1, hc.2.1, hc.2.2, h⟩
    · cases h
  · cases h
theorem oBast_inv (h : oBast nx a b v l C k d ls st H = some z) : ∃ x i o st', st = vI x :: vI i :: vR o :: st' ∧ (H.2.2.1 o).1 = 3 ∧ 0 ≤ i ∧ i < ((H.2.2.1 o).2 : Int) ∧ (x = 0 ∨ x = 1) ∧ k nx ls st' (setM H (up2 H.2.2.2.2 o i x)) = some z := by
  unfold oBast at h; split at h
  · split at h
    · rename_i hc; exact ⟨_, _, _, _, rfl, hc.1, hc.2.1, hc.2.2.1, hc.2.2.2, h⟩
    · cases h
  · cases h
theorem oAlen_inv (h : oAlen nx a b v l C k d ls st H = some z) : ∃ o st', st = vR o :: st' ∧
    ((((H.2.2.1 o).1 = 2 ∨ (H.2.2.1 o).1 = 3) ∧ k nx ls (vI ((H.2.2.1 o).2 : Int) :: st') H = some z) ∨
     (o = 1 ∧ k nx ls (vI (H.2.2.2.2 1 (-1)) :: st') H = some z) ∨
     (19 ≤ o ∧ o < 32 ∧ k nx ls (vI (zLen o : Int) :: st') H = some z)) := by
  unfold oAlen at h; split at h
  · split at h
    · rename_i hc; exact ⟨_, _, rfl, Or.inl ⟨hc, h⟩⟩
    · split at h
      · rename_i hc; exact ⟨_, _, rfl, Or.inr (Or.inl ⟨hc, h⟩)⟩
      · split at h
        · rename_i hc; exact ⟨_, _, rfl, Or.inr (Or.inr ⟨hc.1, hc.2, h⟩)⟩
        · cases h
  · cases h
theorem oNewA_inv (h : oNewA nx a b v l C k d ls st H = some z) : ∃ x st', st = vI x :: st' ∧ 0 ≤ x ∧ x < 100000 ∧ k nx ls (vR (32 + H.1) :: st') (newC H (a, x.toNat) x.toNat) = some z := by
  unfold oNewA at h; split at h
  · split at h
    · rename_i hc; exact ⟨_, _, rfl, hc.1, hc.2, h⟩
    · cases h
  · cases h
theorem oCall_inv (h : oCall nx a b v l C k d ls st H = some z) : b ≤ st.length ∧ catSum (st.drop b) ≤ 8 ∧ (flat (st.take b).reverse).length ≤ zMaxAt a ∧ (v = 0 ∨ recvOK H (zOwAt a) (st.take b).reverse = true) ∧ ∃ d' r H', d = d' + 1 ∧ C d' a (st.take b).reverse H = some (r, H') ∧ k nx ls (r.toList ++ st.drop b) H' = some z := by
  unfold oCall at h; split at h
  · cases h
  · rename_i hc
    have e1 : ¬ st.length < b := fun q => hc (Or.inl q)
    have e2 : ¬ 8 < catSum (st.drop b) := fun q => hc (Or.inr (Or.inl q))
    have e3 : ¬ zMaxAt a < (flat (st.take b).reverse).length := fun q => hc (Or.inr (Or.inr (Or.inl q)))
    refine ⟨by omega, by omega, by omega, ?_, ?_⟩
    · by_cases hv : v = 0
      · exact Or.inl hv
      · refine Or.inr ?_
        cases hr : recvOK H (zOwAt a) (st.take b).reverse
        · exact absurd (Or.inr (Or.inr (Or.inr ⟨hv, hr⟩))) hc
        · rfl
    · split at h
      · cases h
      · rename_i d'
        split at h
        · rename_i r H' e; exact ⟨d', r, H', rfl, e, h⟩
        · cases h
theorem oObj_inv (h : oObj nx a b v l C k d ls st H = some z) : ∃ o st', st = vR o :: st' ∧ d ≠ 0 ∧ 32 ≤ o ∧ catSum st' ≤ 8 ∧ k nx ls st' H = some z := by
  unfold oObj at h; split at h
  · split at h
    · cases h
    · rename_i hc
      exact ⟨_, _, rfl, fun q => hc (Or.inl q), Nat.le_of_not_lt fun q => hc (Or.inr (Or.inl q)), Nat.le_of_not_lt fun q => hc (Or.inr (Or.inr q)), h⟩
  · cases h
theorem oCopy_inv (h : oCopy nx a b v l C k d ls st H = some z) : ∃ n dp dd sp ss, st = [vI n, vI dp, vR dd, vI sp, vR ss] ∧ (d ≠ 0 ∧ ss ≠ dd ∧ ((H.2.2.1 ss).1 = 2 ∨ (H.2.2.1 ss).1 = 3) ∧ (H.2.2.1 dd).1 = (H.2.2.1 ss).1 ∧ 0 ≤ n ∧ 0 ≤ sp ∧ 0 ≤ dp ∧ sp + n ≤ ((H.2.2.1 ss).2 : Int) ∧ dp + n ≤ ((H.2.2.1 dd).2 : Int)) ∧ k nx ls [] (setM H (upc H.2.2.2.2 ss sp dd dp n)) = some z := by
  unfold oCopy at h; split at h
  · split at h
    · rename_i hc
      obtain ⟨h1, rfl, h2⟩ := hc
      exact ⟨_, _, _, _, _, rfl, ⟨h1, h2⟩, h⟩
    · cases h
  · cases h
theorem oRetI_inv (h : oRetI nx a b v l C k d ls st H = some z) : ∃ x, st = [vI x] ∧ (b = 0 ∨ (b = 1 ∧ (x = 0 ∨ x = 1)) ∨ (b = 2 ∧ 0 ≤ x ∧ x < 65536) ∨ (b = 3 ∧ -128 ≤ x ∧ x < 128)) ∧ z = (some (vI x), H) := by
  unfold oRetI at h; split at h
  · split at h
    · rename_i hc; cases h; exact ⟨_, rfl, hc, rfl⟩
    · cases h
  · cases h
theorem oRetL_inv (h : oRetL nx a b v l C k d ls st H = some z) : ∃ x, st = [vL x] ∧ z = (some (vL x), H) := by
  unfold oRetL at h; split at h
  · cases h; exact ⟨_, rfl, rfl⟩
  · cases h
theorem oRetV_inv (h : oRetV nx a b v l C k d ls st H = some z) : st = [] ∧ z = (none, H) := by
  unfold oRetV at h; split at h
  · cases h; exact ⟨rfl, rfl⟩
  · cases h
theorem oMath_inv {f : Int → Int → Int} (h : oMath f nx a b v l C k d ls st H = some z) : ∃ y x st', st = vI y :: vI x :: st' ∧ d ≠ 0 ∧ catSum st' ≤ 8 ∧ k nx ls (vI (f x y) :: st') H = some z := by
  unfold oMath at h; split at h
  · split at h
    · cases h
    · rename_i hn; exact ⟨_, _, _, rfl, fun q => hn (Or.inl q), Nat.le_of_not_lt fun q => hn (Or.inr q), h⟩
  · cases h
theorem oMathL_inv {f : Int → Int → Int} (h : oMathL f nx a b v l C k d ls st H = some z) : ∃ y x st', st = vL y :: vL x :: st' ∧ d ≠ 0 ∧ catSum st' ≤ 8 ∧ k nx ls (vL (f x y) :: st') H = some z := by
  unfold oMathL at h; split at h
  · split at h
    · cases h
    · rename_i hn; exact ⟨_, _, _, rfl, fun q => hn (Or.inl q), Nat.le_of_not_lt fun q => hn (Or.inr q), h⟩
  · cases h
theorem oSwitch_inv (h : oSwitch nx a b v l C k d ls st H = some z) : ∃ x st', st = vI x :: st' ∧ k ((l.lookup x).getD a) ls st' H = some z := by
  unfold oSwitch at h; split at h
  · exact ⟨_, _, rfl, h⟩
  · cases h
end INV
