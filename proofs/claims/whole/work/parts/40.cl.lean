-- ===== the class: a test, a condition =====
theorem cTok_t {t : Int} (h : 0 ≤ t) : cTok t - 3 = (t % 8) * 1024 + MK (dgH (t / 8 % 4) (t / 32)) := by
  unfold cTok; rw [if_pos h]; omega
theorem bit_up (w M : Int) (p : Nat) (hp : p < 10) : (w * 1024 + M) / 2 ^ p % 2 = M / 2 ^ p % 2 := by
  have h : p = 0 ∨ p = 1 ∨ p = 2 ∨ p = 3 ∨ p = 4 ∨ p = 5 ∨ p = 6 ∨ p = 7 ∨ p = 8 ∨ p = 9 := by omega
  rcases h with h | h | h | h | h | h | h | h | h | h <;> subst h <;> omega
theorem dg_tk (t : Int) (b : Int → Int) (n : Nat) (h : b (t % 8) = n) : tkH t b = dgH (t / 8 % 4) (t / 32) n := by
  unfold tkH dgH; rw [h]
/-- what a test asks of, at a pace -/
def fcP (f : Int → Int) (p : Nat) : Int → Int := fun w => if w = 3 then (p : Int) else f w
theorem c_Cl_test_90 (d z : Nat) (m : XM) (t : Int) (h0 : 0 ≤ t) (hk : okTok t) (hF : ∀ w, 0 ≤ w → w < 6 → 0 ≤ m 90 w ∧ m 90 w ≤ 9) :
    CI d k_Cl_pacesOfTest z m [vI (cTok t - 3), vR 90] (fun x m' => m' = m ∧ x = MK (fun p => tkH t (fcP (m 90) p))) := by
  obtain ⟨k1, k2, k3⟩ := hk.2 h0
  have hM := MK_lt (dgH (t / 8 % 4) (t / 32))
  have hK := cTok_t h0
  have e1 : iShr (cTok t - 3) 10 = t % 8 := by
    have := iShr_eq (x := cTok t - 3) 10 (by decide) (by omega)
    have h10 : (2 : Int) ^ 10 = 1024 := by decide
    rw [h10] at this
    show iShr (cTok t - 3) ((10 : Nat) : Int) = _
    rw [this]; omega
  have hf := hF (t % 8) (by omega) (by omega)
  have e2 : iAnd (iShr (cTok t - 3) (m 90 (t % 8))) 1 = if dgH (t / 8 % 4) (t / 32) (m 90 (t % 8)).toNat then 1 else 0 := by
    generalize hn : (m 90 (t % 8)).toNat = n
    have e : m 90 (t % 8) = (n : Int) := by omega
    have hn9 : n < 10 := by omega
    have hpos : (0 : Int) < 2 ^ n := Int.pow_pos (by decide)
    have hq : 0 ≤ (cTok t - 3) / 2 ^ n := Int.ediv_nonneg (by omega) (by omega)
    have hq2 : (cTok t - 3) / 2 ^ n ≤ cTok t - 3 := Int.ediv_le_self _ (by omega)
    rw [e, iShr_eq n (by omega) (by omega), iAnd_1 (by omega), hK, bit_up _ _ n hn9, MK_bit _ n hn9]
  refine r_entry mx10 rfl ?_
  refine r_loadI a10_0 rfl ?_
  refine r_pushI a10_1 ?_
  refine r_shr a10_3 ?_
  rw [e1]
  refine r_storeI_2 a10_4 rfl ?_
  refine r_loadI a10_5 rfl ?_
  refine r_pushI a10_6 ?_
  refine r_icne a10_7 (fun h_7 => ?_) (fun h_7 => ?_)
  · refine r_loadI a10_16 rfl ?_
    refine r_loadA a10_17 rfl (by decide) ?_
    refine r_alen a10_18 ty90 (Or.inl rfl) rfl ?_
    refine r_icge a10_19 (fun h_19 => ?_) (fun h_19 => ?_)
    · exfalso
      omega
    · refine r_loadI a10_22 rfl ?_
      refine r_loadA a10_23 rfl (by decide) ?_
      refine r_loadI a10_24 rfl ?_
      refine r_iald a10_25 ty90 (by omega) ?_
      refine r_shr a10_26 ?_
      refine r_pushI a10_27 ?_
      refine r_and a10_28 ?_
      rw [e2]
      refine r_pushI a10_29 ?_
      refine r_icne a10_30 (fun h_30 => ?_) (fun h_30 => ?_)
      · refine r_pushI a10_39 ?_
        refine r_retIq a10_40 ?_
        refine ⟨rfl, ?_⟩
        have e4 : ∀ p : Nat, tkH t (fcP (m 90) p) = dgH (t / 8 % 4) (t / 32) (m 90 (t % 8)).toNat := fun p => dg_tk t _ _ (by
          show (if t % 8 = 3 then _ else _) = _
          rw [if_neg (by omega)]; omega)
        by_cases q : dgH (t / 8 % 4) (t / 32) (m 90 (t % 8)).toNat = true
        · rw [if_pos q] at h_30
          first
            | exact absurd rfl h_30
            | (rw [← MK_all]; exact MK_cong fun p _ => by rw [e4, q])
        · rw [if_neg q] at h_30
          first
            | exact absurd h_30 (by decide)
            | (rw [← MK_none]; exact MK_cong fun p _ => by rw [e4, Bool.eq_false_iff.mpr q])
      · refine r_pushI a10_33 ?_
        refine r_goto a10_36 ?_
        refine r_retIq a10_40 ?_
        refine ⟨rfl, ?_⟩
        have e4 : ∀ p : Nat, tkH t (fcP (m 90) p) = dgH (t / 8 % 4) (t / 32) (m 90 (t % 8)).toNat := fun p => dg_tk t _ _ (by
          show (if t % 8 = 3 then _ else _) = _
          rw [if_neg (by omega)]; omega)
        by_cases q : dgH (t / 8 % 4) (t / 32) (m 90 (t % 8)).toNat = true
        · rw [if_pos q] at h_30
          first
            | exact absurd rfl h_30
            | (rw [← MK_all]; exact MK_cong fun p _ => by rw [e4, q])
        · rw [if_neg q] at h_30
          first
            | exact absurd h_30 (by decide)
            | (rw [← MK_none]; exact MK_cong fun p _ => by rw [e4, Bool.eq_false_iff.mpr q])
  · refine r_loadI a10_10 rfl ?_
    refine r_pushI a10_11 ?_
    refine r_and a10_14 ?_
    refine r_retIq a10_15 ?_
    refine ⟨rfl, ?_⟩
    rw [iAnd_1023 (by omega)]
    have e3 : (cTok t - 3) % 1024 = MK (dgH (t / 8 % 4) (t / 32)) := by omega
    rw [e3]
    refine MK_cong fun p _ => (dg_tk t _ p ?_).symm
    show (if t % 8 = 3 then _ else _) = _
    rw [if_pos (by omega)]
theorem c_Cl_test_103 (d z : Nat) (m : XM) (t : Int) (h0 : 0 ≤ t) (hk : okTok t) (hF : ∀ w, 0 ≤ w → w < 6 → 0 ≤ m 103 w ∧ m 103 w ≤ 9) :
    CI d k_Cl_pacesOfTest z m [vI (cTok t - 3), vR 103] (fun x m' => m' = m ∧ x = MK (fun p => tkH t (fcP (m 103) p))) := by
  obtain ⟨k1, k2, k3⟩ := hk.2 h0
  have hM := MK_lt (dgH (t / 8 % 4) (t / 32))
  have hK := cTok_t h0
  have e1 : iShr (cTok t - 3) 10 = t % 8 := by
    have := iShr_eq (x := cTok t - 3) 10 (by decide) (by omega)
    have h10 : (2 : Int) ^ 10 = 1024 := by decide
    rw [h10] at this
    show iShr (cTok t - 3) ((10 : Nat) : Int) = _
    rw [this]; omega
  have hf := hF (t % 8) (by omega) (by omega)
  have e2 : iAnd (iShr (cTok t - 3) (m 103 (t % 8))) 1 = if dgH (t / 8 % 4) (t / 32) (m 103 (t % 8)).toNat then 1 else 0 := by
    generalize hn : (m 103 (t % 8)).toNat = n
    have e : m 103 (t % 8) = (n : Int) := by omega
    have hn9 : n < 10 := by omega
    have hpos : (0 : Int) < 2 ^ n := Int.pow_pos (by decide)
    have hq : 0 ≤ (cTok t - 3) / 2 ^ n := Int.ediv_nonneg (by omega) (by omega)
    have hq2 : (cTok t - 3) / 2 ^ n ≤ cTok t - 3 := Int.ediv_le_self _ (by omega)
    rw [e, iShr_eq n (by omega) (by omega), iAnd_1 (by omega), hK, bit_up _ _ n hn9, MK_bit _ n hn9]
  refine r_entry mx10 rfl ?_
  refine r_loadI a10_0 rfl ?_
  refine r_pushI a10_1 ?_
  refine r_shr a10_3 ?_
  rw [e1]
  refine r_storeI_2 a10_4 rfl ?_
  refine r_loadI a10_5 rfl ?_
  refine r_pushI a10_6 ?_
  refine r_icne a10_7 (fun h_7 => ?_) (fun h_7 => ?_)
  · refine r_loadI a10_16 rfl ?_
    refine r_loadA a10_17 rfl (by decide) ?_
    refine r_alen a10_18 ty103 (Or.inl rfl) rfl ?_
    refine r_icge a10_19 (fun h_19 => ?_) (fun h_19 => ?_)
    · exfalso
      omega
    · refine r_loadI a10_22 rfl ?_
      refine r_loadA a10_23 rfl (by decide) ?_
      refine r_loadI a10_24 rfl ?_
      refine r_iald a10_25 ty103 (by omega) ?_
      refine r_shr a10_26 ?_
      refine r_pushI a10_27 ?_
      refine r_and a10_28 ?_
      rw [e2]
      refine r_pushI a10_29 ?_
      refine r_icne a10_30 (fun h_30 => ?_) (fun h_30 => ?_)
      · refine r_pushI a10_39 ?_
        refine r_retIq a10_40 ?_
        refine ⟨rfl, ?_⟩
        have e4 : ∀ p : Nat, tkH t (fcP (m 103) p) = dgH (t / 8 % 4) (t / 32) (m 103 (t % 8)).toNat := fun p => dg_tk t _ _ (by
          show (if t % 8 = 3 then _ else _) = _
          rw [if_neg (by omega)]; omega)
        by_cases q : dgH (t / 8 % 4) (t / 32) (m 103 (t % 8)).toNat = true
        · rw [if_pos q] at h_30
          first
            | exact absurd rfl h_30
            | (rw [← MK_all]; exact MK_cong fun p _ => by rw [e4, q])
        · rw [if_neg q] at h_30
          first
            | exact absurd h_30 (by decide)
            | (rw [← MK_none]; exact MK_cong fun p _ => by rw [e4, Bool.eq_false_iff.mpr q])
      · refine r_pushI a10_33 ?_
        refine r_goto a10_36 ?_
        refine r_retIq a10_40 ?_
        refine ⟨rfl, ?_⟩
        have e4 : ∀ p : Nat, tkH t (fcP (m 103) p) = dgH (t / 8 % 4) (t / 32) (m 103 (t % 8)).toNat := fun p => dg_tk t _ _ (by
          show (if t % 8 = 3 then _ else _) = _
          rw [if_neg (by omega)]; omega)
        by_cases q : dgH (t / 8 % 4) (t / 32) (m 103 (t % 8)).toNat = true
        · rw [if_pos q] at h_30
          first
            | exact absurd rfl h_30
            | (rw [← MK_all]; exact MK_cong fun p _ => by rw [e4, q])
        · rw [if_neg q] at h_30
          first
            | exact absurd h_30 (by decide)
            | (rw [← MK_none]; exact MK_cong fun p _ => by rw [e4, Bool.eq_false_iff.mpr q])
  · refine r_loadI a10_10 rfl ?_
    refine r_pushI a10_11 ?_
    refine r_and a10_14 ?_
    refine r_retIq a10_15 ?_
    refine ⟨rfl, ?_⟩
    rw [iAnd_1023 (by omega)]
    have e3 : (cTok t - 3) % 1024 = MK (dgH (t / 8 % 4) (t / 32)) := by omega
    rw [e3]
    refine MK_cong fun p _ => (dg_tk t _ p ?_).symm
    show (if t % 8 = 3 then _ else _) = _
    rw [if_pos (by omega)]
