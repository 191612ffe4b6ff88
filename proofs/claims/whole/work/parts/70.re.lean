-- ===== the class reads =====
theorem up2_up2 (m : XM) (c : Nat) (k a b : Int) : up2 (up2 m c k a) c k b = up2 m c k b := by
  rw [up2_C, up2_C, up2_C, upC_s, upC_upC]
  congr 1
  funext y
  rw [upi_at, upi_at, upi_at]
  by_cases h : y = k
  · rw [if_pos h, if_pos h]
  · rw [if_neg h, if_neg h, if_neg h]
def RdS (m : XM) (E : Int) : Prop := m 77 2 = E ∧ (0 ≤ E ∧ E ≤ 100) ∧ (0 ≤ m 77 1 ∧ m 77 1 ≤ E) ∧ ∀ i, 0 ≤ i → i < 100 → 0 ≤ m 42 i ∧ m 42 i ≤ 127
theorem RdS_up {m : XM} {E q : Int} (h : RdS m E) (hq : 0 ≤ q ∧ q ≤ E) : RdS (up2 m 77 1 q) E := by
  obtain ⟨a, b, c, e⟩ := h
  exact ⟨by rw [up2_k (by decide)]; exact a, b, by rw [up2_s]; exact hq, by rw [up2_c (by decide)]; exact e⟩
abbrev atM (m : XM) (E p : Int) : Int := atP (m 42) E p
theorem c_Re_sees (d : Nat) (m : XM) (E c : Int) (hI : RdS m E) (hc : 0 ≤ c) : CI d k_Re_sees 42 m [vR 77, vI c] (fun x m' => m' = m ∧ ((x = 1 ∧ atM m E (m 77 1) = c) ∨ (x = 0 ∧ atM m E (m 77 1) ≠ c))) := by
  obtain ⟨e2, b, p, r⟩ := hI
  have hat : atM m E (m 77 1) = if m 77 1 < E then m 42 (m 77 1) else -1 := rfl
  refine r_entry mx53 rfl ?_
  refine r_loadA a53_0 rfl (by decide) ?_
  refine r_getI (ki := 1) a53_1 ty77 rfl ?_
  refine r_loadA a53_4 rfl (by decide) ?_
  refine r_getI (ki := 2) a53_5 ty77 rfl ?_
  rw [e2]
  refine r_icge a53_8 (fun h_8 => ?_) (fun h_8 => ?_)
  · refine r_pushI a53_28 ?_
    refine r_retZq a53_29 (by omega) ?_
    refine ⟨rfl, ?_⟩
    rw [hat]
    first
      | (rw [if_pos (by omega)]; omega)
      | (rw [if_neg (by omega)]; omega)
  · refine r_loadA a53_11 rfl (by decide) ?_
    refine r_getR a53_12 ty77 rf77_3 (by decide) ?_
    refine r_loadA a53_15 rfl (by decide) ?_
    refine r_getI (ki := 1) a53_16 ty77 rfl ?_
    refine r_iald a53_19 ty42 (by omega) ?_
    refine r_loadI a53_20 rfl ?_
    refine r_icne a53_21 (fun h_21 => ?_) (fun h_21 => ?_)
    · refine r_pushI a53_28 ?_
      refine r_retZq a53_29 (by omega) ?_
      refine ⟨rfl, ?_⟩
      rw [hat]
      first
        | (rw [if_pos (by omega)]; omega)
        | (rw [if_neg (by omega)]; omega)
    · refine r_pushI a53_24 ?_
      refine r_goto a53_25 ?_
      refine r_retZq a53_29 (by omega) ?_
      refine ⟨rfl, ?_⟩
      rw [hat]
      first
        | (rw [if_pos (by omega)]; omega)
        | (rw [if_neg (by omega)]; omega)
theorem c_Re_take (d : Nat) (m : XM) (E c : Int) (hd : 1 ≤ d) (hI : RdS m E) (hc : 0 ≤ c) : CI d k_Re_take 42 m [vR 77, vI c] (fun x m' => (x = 1 ∧ atM m E (m 77 1) = c ∧ m' = up2 m 77 1 (m 77 1 + 1)) ∨ (x = 0 ∧ atM m E (m 77 1) ≠ c ∧ m' = m)) := by
  obtain ⟨e, rfl⟩ : ∃ e, d = e + 1 := ⟨d - 1, by omega⟩
  have hb := hI.2.1
  have hp := hI.2.2.1
  refine r_entry mx54 rfl ?_
  refine r_loadA a54_0 rfl (by decide) ?_
  refine r_loadI a54_1 rfl ?_
  refine r_callI_2 a54_2 (Nat.le_of_ble_eq_true rfl) (le_mx mx53 (Nat.le_of_ble_eq_true rfl)) (Or.inr (recv_ok ty77 ow53 (by decide))) (c_Re_sees e m E c hI hc) (fun x_2 m_2 h_2 => ?_)
  obtain ⟨hm_2, h_2⟩ := h_2
  rw [hm_2]
  refine r_ifne a54_5 (fun h_5 => ?_) (fun h_5 => ?_)
  · refine r_loadA a54_10 rfl (by decide) ?_
    refine r_dup a54_11 rfl ?_
    refine r_getI (ki := 1) a54_12 ty77 rfl ?_
    refine r_pushI a54_15 ?_
    refine r_add a54_16 (by omega) ?_
    refine r_putI (ki := 1) a54_17 ty77 rfl ?_
    refine r_pushI a54_20 ?_
    refine r_retZq a54_21 (by omega) ?_
    rcases h_2 with ⟨_, q⟩ | ⟨q, _⟩
    · exact Or.inl ⟨rfl, q, rfl⟩
    · exfalso; omega
  · refine r_pushI a54_8 ?_
    refine r_retZq a54_9 (by omega) ?_
    rcases h_2 with ⟨q, _⟩ | ⟨_, q⟩
    · exfalso; omega
    · exact Or.inr ⟨rfl, q, rfl⟩
theorem c_Re_takeOneOf_8 (d : Nat) (m : XM) (E : Int) (hd : 5 ≤ d) (hI : RdS m E) : CI d k_Re_takeOneOf 42 m [vR 77, vR 8] (fun x m' => x = ixD (atM m E (m 77 1)) ∧ ((0 ≤ x ∧ m' = up2 m 77 1 (m 77 1 + 1)) ∨ (x = -1 ∧ m' = m))) := by
  obtain ⟨e, rfl⟩ : ∃ e, d = e + 1 := ⟨d - 1, by omega⟩
  obtain ⟨e2, b, p, r⟩ := hI
  have hat : atM m E (m 77 1) = if m 77 1 < E then m 42 (m 77 1) else -1 := rfl
  have hr := fun c => ixD_r c
  refine r_entry mx56 rfl ?_
  refine r_loadA a56_0 rfl (by decide) ?_
  refine r_getI (ki := 1) a56_1 ty77 rfl ?_
  refine r_loadA a56_4 rfl (by decide) ?_
  refine r_getI (ki := 2) a56_5 ty77 rfl ?_
  rw [e2]
  refine r_iclt a56_8 (fun h_8 => ?_) (fun h_8 => ?_)
  · refine r_loadA a56_13 rfl (by decide) ?_
    refine r_loadA a56_14 rfl (by decide) ?_
    refine r_getR a56_15 ty77 rf77_3 (by decide) ?_
    refine r_loadA a56_18 rfl (by decide) ?_
    refine r_getI (ki := 1) a56_19 ty77 rfl ?_
    have hrr := r (m 77 1) (by omega) (by omega)
    refine r_iald a56_22 ty42 (by omega) ?_
    refine r_i2c a56_23 (by omega) ?_
    refine r_callI_2 a56_24 (Nat.le_of_ble_eq_true rfl) (le_mx mx211 (Nat.le_of_ble_eq_true rfl)) (Or.inr (recv_str ow211 (by omega) (by omega))) (c_J0_indexOf1_8 e 42 m (m 42 (m 77 1)) (by omega) hrr) (fun x_24 m_24 h_24 => ?_)
    obtain ⟨hm_24, h_24⟩ := h_24
    rw [hm_24]
    have hx : x_24 = ixD (atM m E (m 77 1)) := by rw [h_24, hat, if_pos (by omega)]
    have hx2 := hr (atM m E (m 77 1))
    refine r_storeI_2 a56_27 rfl ?_
    refine r_loadI a56_28 rfl ?_
    refine r_iflt a56_29 (fun h_29 => ?_) (fun h_29 => ?_)
    · refine r_loadI a56_42 rfl ?_
      refine r_retIq a56_43 ?_
      first
        | exact ⟨hx, Or.inl ⟨by omega, rfl⟩⟩
        | exact ⟨hx, Or.inr ⟨by omega, rfl⟩⟩
    · refine r_loadA a56_32 rfl (by decide) ?_
      refine r_dup a56_33 rfl ?_
      refine r_getI (ki := 1) a56_34 ty77 rfl ?_
      refine r_pushI a56_37 ?_
      refine r_add a56_38 (by omega) ?_
      refine r_putI (ki := 1) a56_39 ty77 rfl ?_
      refine r_loadI a56_42 rfl ?_
      refine r_retIq a56_43 ?_
      first
        | exact ⟨hx, Or.inl ⟨by omega, rfl⟩⟩
        | exact ⟨hx, Or.inr ⟨by omega, rfl⟩⟩
  · refine r_pushI a56_11 ?_
    refine r_retIq a56_12 ?_
    rw [hat, if_neg (by omega)]
    have := hr (-1)
    exact ⟨by omega, Or.inr ⟨rfl, rfl⟩⟩
theorem c_Re_takeOneOf_11 (d : Nat) (m : XM) (E : Int) (hd : 5 ≤ d) (hI : RdS m E) : CI d k_Re_takeOneOf 42 m [vR 77, vR 11] (fun x m' => x = ixW (atM m E (m 77 1)) ∧ ((0 ≤ x ∧ m' = up2 m 77 1 (m 77 1 + 1)) ∨ (x = -1 ∧ m' = m))) := by
  obtain ⟨e, rfl⟩ : ∃ e, d = e + 1 := ⟨d - 1, by omega⟩
  obtain ⟨e2, b, p, r⟩ := hI
  have hat : atM m E (m 77 1) = if m 77 1 < E then m 42 (m 77 1) else -1 := rfl
  have hr := fun c => ixW_r c
  refine r_entry mx56 rfl ?_
  refine r_loadA a56_0 rfl (by decide) ?_
  refine r_getI (ki := 1) a56_1 ty77 rfl ?_
  refine r_loadA a56_4 rfl (by decide) ?_
  refine r_getI (ki := 2) a56_5 ty77 rfl ?_
  rw [e2]
  refine r_iclt a56_8 (fun h_8 => ?_) (fun h_8 => ?_)
  · refine r_loadA a56_13 rfl (by decide) ?_
    refine r_loadA a56_14 rfl (by decide) ?_
    refine r_getR a56_15 ty77 rf77_3 (by decide) ?_
    refine r_loadA a56_18 rfl (by decide) ?_
    refine r_getI (ki := 1) a56_19 ty77 rfl ?_
    have hrr := r (m 77 1) (by omega) (by omega)
    refine r_iald a56_22 ty42 (by omega) ?_
    refine r_i2c a56_23 (by omega) ?_
    refine r_callI_2 a56_24 (Nat.le_of_ble_eq_true rfl) (le_mx mx211 (Nat.le_of_ble_eq_true rfl)) (Or.inr (recv_str ow211 (by omega) (by omega))) (c_J0_indexOf1_11 e 42 m (m 42 (m 77 1)) (by omega) hrr) (fun x_24 m_24 h_24 => ?_)
    obtain ⟨hm_24, h_24⟩ := h_24
    rw [hm_24]
    have hx : x_24 = ixW (atM m E (m 77 1)) := by rw [h_24, hat, if_pos (by omega)]
    have hx2 := hr (atM m E (m 77 1))
    refine r_storeI_2 a56_27 rfl ?_
    refine r_loadI a56_28 rfl ?_
    refine r_iflt a56_29 (fun h_29 => ?_) (fun h_29 => ?_)
    · refine r_loadI a56_42 rfl ?_
      refine r_retIq a56_43 ?_
      first
        | exact ⟨hx, Or.inl ⟨by omega, rfl⟩⟩
        | exact ⟨hx, Or.inr ⟨by omega, rfl⟩⟩
    · refine r_loadA a56_32 rfl (by decide) ?_
      refine r_dup a56_33 rfl ?_
      refine r_getI (ki := 1) a56_34 ty77 rfl ?_
      refine r_pushI a56_37 ?_
      refine r_add a56_38 (by omega) ?_
      refine r_putI (ki := 1) a56_39 ty77 rfl ?_
      refine r_loadI a56_42 rfl ?_
      refine r_retIq a56_43 ?_
      first
        | exact ⟨hx, Or.inl ⟨by omega, rfl⟩⟩
        | exact ⟨hx, Or.inr ⟨by omega, rfl⟩⟩
  · refine r_pushI a56_11 ?_
    refine r_retIq a56_12 ?_
    rw [hat, if_neg (by omega)]
    have := hr (-1)
    exact ⟨by omega, Or.inr ⟨rfl, rfl⟩⟩
theorem c_Re_takeOneOf_12 (d : Nat) (m : XM) (E : Int) (hd : 5 ≤ d) (hI : RdS m E) : CI d k_Re_takeOneOf 42 m [vR 77, vR 12] (fun x m' => x = ixH (atM m E (m 77 1)) ∧ ((0 ≤ x ∧ m' = up2 m 77 1 (m 77 1 + 1)) ∨ (x = -1 ∧ m' = m))) := by
  obtain ⟨e, rfl⟩ : ∃ e, d = e + 1 := ⟨d - 1, by omega⟩
  obtain ⟨e2, b, p, r⟩ := hI
  have hat : atM m E (m 77 1) = if m 77 1 < E then m 42 (m 77 1) else -1 := rfl
  have hr := fun c => ixH_r c
  refine r_entry mx56 rfl ?_
  refine r_loadA a56_0 rfl (by decide) ?_
  refine r_getI (ki := 1) a56_1 ty77 rfl ?_
  refine r_loadA a56_4 rfl (by decide) ?_
  refine r_getI (ki := 2) a56_5 ty77 rfl ?_
  rw [e2]
  refine r_iclt a56_8 (fun h_8 => ?_) (fun h_8 => ?_)
  · refine r_loadA a56_13 rfl (by decide) ?_
    refine r_loadA a56_14 rfl (by decide) ?_
    refine r_getR a56_15 ty77 rf77_3 (by decide) ?_
    refine r_loadA a56_18 rfl (by decide) ?_
    refine r_getI (ki := 1) a56_19 ty77 rfl ?_
    have hrr := r (m 77 1) (by omega) (by omega)
    refine r_iald a56_22 ty42 (by omega) ?_
    refine r_i2c a56_23 (by omega) ?_
    refine r_callI_2 a56_24 (Nat.le_of_ble_eq_true rfl) (le_mx mx211 (Nat.le_of_ble_eq_true rfl)) (Or.inr (recv_str ow211 (by omega) (by omega))) (c_J0_indexOf1_12 e 42 m (m 42 (m 77 1)) (by omega) hrr) (fun x_24 m_24 h_24 => ?_)
    obtain ⟨hm_24, h_24⟩ := h_24
    rw [hm_24]
    have hx : x_24 = ixH (atM m E (m 77 1)) := by rw [h_24, hat, if_pos (by omega)]
    have hx2 := hr (atM m E (m 77 1))
    refine r_storeI_2 a56_27 rfl ?_
    refine r_loadI a56_28 rfl ?_
    refine r_iflt a56_29 (fun h_29 => ?_) (fun h_29 => ?_)
    · refine r_loadI a56_42 rfl ?_
      refine r_retIq a56_43 ?_
      first
        | exact ⟨hx, Or.inl ⟨by omega, rfl⟩⟩
        | exact ⟨hx, Or.inr ⟨by omega, rfl⟩⟩
    · refine r_loadA a56_32 rfl (by decide) ?_
      refine r_dup a56_33 rfl ?_
      refine r_getI (ki := 1) a56_34 ty77 rfl ?_
      refine r_pushI a56_37 ?_
      refine r_add a56_38 (by omega) ?_
      refine r_putI (ki := 1) a56_39 ty77 rfl ?_
      refine r_loadI a56_42 rfl ?_
      refine r_retIq a56_43 ?_
      first
        | exact ⟨hx, Or.inl ⟨by omega, rfl⟩⟩
        | exact ⟨hx, Or.inr ⟨by omega, rfl⟩⟩
  · refine r_pushI a56_11 ?_
    refine r_retIq a56_12 ?_
    rw [hat, if_neg (by omega)]
    have := hr (-1)
    exact ⟨by omega, Or.inr ⟨rfl, rfl⟩⟩
theorem c_Re_readNumber (d : Nat) (m : XM) (E : Int) (hd : 6 ≤ d) (hI : RdS m E) : CI d k_Re_readNumber 42 m [vR 77] (fun x m' => (∃ v q, pNum (m 42) E (m 77 1) = some (v, q) ∧ x = v ∧ m' = up2 m 77 1 q) ∨ (pNum (m 42) E (m 77 1) = none ∧ x = -1 ∧ m' = m)) := by
  obtain ⟨e, rfl⟩ : ∃ e, d = e + 1 := ⟨d - 1, by omega⟩
  have hb := hI.2.1
  have hp := hI.2.2.1
  have d1 := ixD_r (atM m E (m 77 1))
  have l1 := @atP_lt (m 42) E (m 77 1)
  have hpn : pNum (m 42) E (m 77 1) = if ixD (atM m E (m 77 1)) = -1 then none else if ixD (atM m E (m 77 1)) = 0 then some (0, m 77 1 + 1) else if ixD (atM m E (m 77 1 + 1)) = -1 then some (ixD (atM m E (m 77 1)), m 77 1 + 1) else some (10 * ixD (atM m E (m 77 1)) + ixD (atM m E (m 77 1 + 1)), m 77 1 + 2) := rfl
  refine r_entry mx52 rfl ?_
  refine r_loadA a52_0 rfl (by decide) ?_
  refine r_statR a52_1 ?_
  refine r_callI_2 a52_3 (Nat.le_of_ble_eq_true rfl) (le_mx mx56 (Nat.le_of_ble_eq_true rfl)) (Or.inr (recv_ok ty77 ow56 (by decide))) (c_Re_takeOneOf_8 e m E (by omega) hI) (fun x_3 m_3 h_3 => ?_)
  obtain ⟨hx, hm⟩ := h_3
  have hx' : x_3 = ixD (atM m E (m 77 1)) := hx
  refine r_storeI_1 a52_6 rfl ?_
  refine r_loadI a52_7 rfl ?_
  refine r_ifgt a52_8 (fun h_8 => ?_) (fun h_8 => ?_)
  · have hm2 : m_3 = up2 m 77 1 (m 77 1 + 1) := by
      rcases hm with ⟨_, q⟩ | ⟨q, _⟩
      · exact q
      · exfalso; omega
    have hlt := l1 (fun w => by have := d1.2.2 w; omega)
    have hI2 : RdS m_3 E := by rw [hm2]; exact RdS_up hI (by omega)
    have ep : m_3 77 1 = m 77 1 + 1 := by rw [hm2, up2_s]
    have e42 : m_3 42 = m 42 := by rw [hm2, up2_c (by decide)]
    have d2 := ixD_r (atM m E (m 77 1 + 1))
    refine r_loadA a52_13 rfl (by decide) ?_
    refine r_statR a52_14 ?_
    refine r_callI_2 a52_16 (Nat.le_of_ble_eq_true rfl) (le_mx mx56 (Nat.le_of_ble_eq_true rfl)) (Or.inr (recv_ok ty77 ow56 (by decide))) (c_Re_takeOneOf_8 e m_3 E (by omega) hI2) (fun x_16 m_16 h_16 => ?_)
    obtain ⟨hy, hn⟩ := h_16
    have hy' : x_16 = ixD (atM m E (m 77 1 + 1)) := by
      have : x_16 = ixD (atP (m_3 42) E (m_3 77 1)) := hy
      rw [ep, e42] at this; exact this
    refine r_storeI_2 a52_19 rfl ?_
    refine r_loadI a52_20 rfl ?_
    refine r_ifge a52_21 (fun h_21 => ?_) (fun h_21 => ?_)
    · refine r_pushI a52_28 ?_
      refine r_loadI a52_30 rfl ?_
      refine r_mul a52_31 (by omega) ?_
      refine r_loadI a52_32 rfl ?_
      refine r_add a52_33 (by omega) ?_
      refine r_retIq a52_34 ?_
      rw [hpn, if_neg (by omega), if_neg (by omega)]
      rcases hn with ⟨h0, hn⟩ | ⟨h0, hn⟩
      · rw [if_neg (by omega)]
        refine Or.inl ⟨_, _, rfl, by omega, ?_⟩
        rw [hn, ep, hm2, up2_up2, show m 77 1 + 1 + 1 = m 77 1 + 2 by omega]
      · rw [if_pos (by omega)]
        refine Or.inl ⟨_, _, rfl, by omega, ?_⟩
        rw [hn, hm2]
    · refine r_loadI a52_24 rfl ?_
      refine r_goto a52_25 ?_
      refine r_retIq a52_34 ?_
      rw [hpn, if_neg (by omega), if_neg (by omega)]
      rcases hn with ⟨h0, hn⟩ | ⟨h0, hn⟩
      · rw [if_neg (by omega)]
        refine Or.inl ⟨_, _, rfl, by omega, ?_⟩
        rw [hn, ep, hm2, up2_up2, show m 77 1 + 1 + 1 = m 77 1 + 2 by omega]
      · rw [if_pos (by omega)]
        refine Or.inl ⟨_, _, rfl, by omega, ?_⟩
        rw [hn, hm2]
  · refine r_loadI a52_11 rfl ?_
    refine r_retIq a52_12 ?_
    rw [hpn]
    rcases hm with ⟨h0, hm⟩ | ⟨h0, hm⟩
    · rw [if_neg (by omega), if_pos (by omega)]
      exact Or.inl ⟨0, m 77 1 + 1, rfl, by omega, hm⟩
    · rw [if_pos (by omega)]
      exact Or.inr ⟨rfl, h0, hm⟩
theorem MK_put (f : Nat → Bool) (j : Nat) (hj : j < 10) (h : f j = true) : iOr (MK (fun p => decide (p < j) && f p)) (iShl 1 (j : Int)) = MK (fun p => decide (p < j + 1) && f p) := by
  have e : iShl 1 (j : Int) = MK (fun p => decide (p = j)) := by
    have : j = 0 ∨ j = 1 ∨ j = 2 ∨ j = 3 ∨ j = 4 ∨ j = 5 ∨ j = 6 ∨ j = 7 ∨ j = 8 ∨ j = 9 := by omega
    rcases this with q | q | q | q | q | q | q | q | q | q <;> subst q <;> decide
  rw [e, MK_or]
  refine MK_cong fun p hp => ?_
  by_cases h1 : p = j
  · subst h1
    rw [h]; simp
  · by_cases h2 : p < j
    · simp [h1, h2, show p < j + 1 by omega]
    · simp [h1, h2, show ¬ p < j + 1 by omega]
theorem MK_skip (f : Nat → Bool) (j : Nat) (h : f j = false) : MK (fun p => decide (p < j) && f p) = MK (fun p => decide (p < j + 1) && f p) := by
  refine MK_cong fun p hp => ?_
  by_cases h1 : p = j
  · subst h1
    rw [h]; simp
  · by_cases h2 : p < j
    · simp [h2, show p < j + 1 by omega]
    · simp [h2, show ¬ p < j + 1 by omega]
theorem c_Re_digitsBy (d z : Nat) (m : XM) (how v : Int) (hh : 0 ≤ how ∧ how ≤ 2) : CI d k_Re_digitsBy z m [vI how, vI v] (fun x m' => m' = m ∧ x = MK (dgH how v)) := by
  have loop : ∀ (c j : Nat) (y4 : XV), j + c = 10 → RZ d k_Re_digitsBy 4 [vI how, vI v, vI (MK (fun p => decide (p < j) && dgH how v p)), vI (j : Int), y4] [] (zH z m) (qz z (qi fun x m' => m' = m ∧ x = MK (dgH how v))) := by
    intro c
    induction c with
    | zero =>
      intro j y4 hj
      refine r_loadI a51_4 rfl ?_
      refine r_pushI a51_5 ?_
      refine r_icge a51_7 (fun h_7 => ?_) (fun h_7 => ?_)
      · refine r_loadI a51_74 rfl ?_
        refine r_retIq a51_75 ?_
        refine ⟨rfl, MK_cong fun p hp => ?_⟩
        simp [show p < j by omega]
      · exfalso
        omega
    | succ c ih =>
      intro j y4 hj
      have hd : dgH how v j = if how = 0 then decide ((j : Int) < v) else if how = 1 then decide ((j : Int) = v) else decide ((j : Int) > v) := rfl
      have fin : ∀ (x : Int), (x = 1 ∧ dgH how v j = true) ∨ (x = 0 ∧ dgH how v j = false) → RZ d k_Re_digitsBy 55 [vI how, vI v, vI (MK (fun p => decide (p < j) && dgH how v p)), vI (j : Int), y4] [vI x] (zH z m) (qz z (qi fun x m' => m' = m ∧ x = MK (dgH how v))) := by
        intro x hx
        have q := fun y => ih (j + 1) y (by omega)
        push_cast at q
        refine r_storeI_4 a51_55 rfl ?_
        refine r_loadI a51_57 rfl ?_
        refine r_ifeq a51_59 (fun h_59 => ?_) (fun h_59 => ?_)
        · refine r_iinc_3 a51_68 rfl (by omega) ?_
          refine r_goto a51_71 ?_
          rcases hx with ⟨h1, h2⟩ | ⟨h1, h2⟩
          · first
              | (exfalso; omega)
              | (rw [MK_put (dgH how v) j (by omega) h2]; exact q _)
          · first
              | (exfalso; omega)
              | (rw [MK_skip (dgH how v) j h2]; exact q _)
        · refine r_loadI a51_62 rfl ?_
          refine r_pushI a51_63 ?_
          refine r_loadI a51_64 rfl ?_
          refine r_shl a51_65 ?_
          refine r_or a51_66 ?_
          refine r_storeI_2 a51_67 rfl ?_
          refine r_iinc_3 a51_68 rfl (by omega) ?_
          refine r_goto a51_71 ?_
          rcases hx with ⟨h1, h2⟩ | ⟨h1, h2⟩
          · first
              | (exfalso; omega)
              | (rw [MK_put (dgH how v) j (by omega) h2]; exact q _)
          · first
              | (exfalso; omega)
              | (rw [MK_skip (dgH how v) j h2]; exact q _)
      refine r_loadI a51_4 rfl ?_
      refine r_pushI a51_5 ?_
      refine r_icge a51_7 (fun h_7 => ?_) (fun h_7 => ?_)
      · exfalso
        omega
      · refine r_loadI a51_10 rfl ?_
        refine r_ifne a51_11 (fun h_11 => ?_) (fun h_11 => ?_)
        · refine r_loadI a51_27 rfl ?_
          refine r_pushI a51_28 ?_
          refine r_icne a51_29 (fun h_29 => ?_) (fun h_29 => ?_)
          · refine r_loadI a51_45 rfl ?_
            refine r_loadI a51_46 rfl ?_
            refine r_icle a51_47 (fun h_47 => ?_) (fun h_47 => ?_)
            · refine r_pushI a51_54 ?_
              refine fin _ ?_
              rw [hd]
              first
                | (rw [if_pos (by omega), decide_eq_true (by omega)]; exact Or.inl ⟨rfl, rfl⟩)
                | (rw [if_pos (by omega), decide_eq_false (by omega)]; exact Or.inr ⟨rfl, rfl⟩)
                | (rw [if_neg (by omega), if_pos (by omega), decide_eq_true (by omega)]; exact Or.inl ⟨rfl, rfl⟩)
                | (rw [if_neg (by omega), if_pos (by omega), decide_eq_false (by omega)]; exact Or.inr ⟨rfl, rfl⟩)
                | (rw [if_neg (by omega), if_neg (by omega), decide_eq_true (by omega)]; exact Or.inl ⟨rfl, rfl⟩)
                | (rw [if_neg (by omega), if_neg (by omega), decide_eq_false (by omega)]; exact Or.inr ⟨rfl, rfl⟩)
            · refine r_pushI a51_50 ?_
              refine r_goto a51_51 ?_
              refine fin _ ?_
              rw [hd]
              first
                | (rw [if_pos (by omega), decide_eq_true (by omega)]; exact Or.inl ⟨rfl, rfl⟩)
                | (rw [if_pos (by omega), decide_eq_false (by omega)]; exact Or.inr ⟨rfl, rfl⟩)
                | (rw [if_neg (by omega), if_pos (by omega), decide_eq_true (by omega)]; exact Or.inl ⟨rfl, rfl⟩)
                | (rw [if_neg (by omega), if_pos (by omega), decide_eq_false (by omega)]; exact Or.inr ⟨rfl, rfl⟩)
                | (rw [if_neg (by omega), if_neg (by omega), decide_eq_true (by omega)]; exact Or.inl ⟨rfl, rfl⟩)
                | (rw [if_neg (by omega), if_neg (by omega), decide_eq_false (by omega)]; exact Or.inr ⟨rfl, rfl⟩)
          · refine r_loadI a51_32 rfl ?_
            refine r_loadI a51_33 rfl ?_
            refine r_icne a51_34 (fun h_34 => ?_) (fun h_34 => ?_)
            · refine r_pushI a51_41 ?_
              refine r_goto a51_42 ?_
              refine fin _ ?_
              rw [hd]
              first
                | (rw [if_pos (by omega), decide_eq_true (by omega)]; exact Or.inl ⟨rfl, rfl⟩)
                | (rw [if_pos (by omega), decide_eq_false (by omega)]; exact Or.inr ⟨rfl, rfl⟩)
                | (rw [if_neg (by omega), if_pos (by omega), decide_eq_true (by omega)]; exact Or.inl ⟨rfl, rfl⟩)
                | (rw [if_neg (by omega), if_pos (by omega), decide_eq_false (by omega)]; exact Or.inr ⟨rfl, rfl⟩)
                | (rw [if_neg (by omega), if_neg (by omega), decide_eq_true (by omega)]; exact Or.inl ⟨rfl, rfl⟩)
                | (rw [if_neg (by omega), if_neg (by omega), decide_eq_false (by omega)]; exact Or.inr ⟨rfl, rfl⟩)
            · refine r_pushI a51_37 ?_
              refine r_goto a51_38 ?_
              refine fin _ ?_
              rw [hd]
              first
                | (rw [if_pos (by omega), decide_eq_true (by omega)]; exact Or.inl ⟨rfl, rfl⟩)
                | (rw [if_pos (by omega), decide_eq_false (by omega)]; exact Or.inr ⟨rfl, rfl⟩)
                | (rw [if_neg (by omega), if_pos (by omega), decide_eq_true (by omega)]; exact Or.inl ⟨rfl, rfl⟩)
                | (rw [if_neg (by omega), if_pos (by omega), decide_eq_false (by omega)]; exact Or.inr ⟨rfl, rfl⟩)
                | (rw [if_neg (by omega), if_neg (by omega), decide_eq_true (by omega)]; exact Or.inl ⟨rfl, rfl⟩)
                | (rw [if_neg (by omega), if_neg (by omega), decide_eq_false (by omega)]; exact Or.inr ⟨rfl, rfl⟩)
        · refine r_loadI a51_14 rfl ?_
          refine r_loadI a51_15 rfl ?_
          refine r_icge a51_16 (fun h_16 => ?_) (fun h_16 => ?_)
          · refine r_pushI a51_23 ?_
            refine r_goto a51_24 ?_
            refine fin _ ?_
            rw [hd]
            first
              | (rw [if_pos (by omega), decide_eq_true (by omega)]; exact Or.inl ⟨rfl, rfl⟩)
              | (rw [if_pos (by omega), decide_eq_false (by omega)]; exact Or.inr ⟨rfl, rfl⟩)
              | (rw [if_neg (by omega), if_pos (by omega), decide_eq_true (by omega)]; exact Or.inl ⟨rfl, rfl⟩)
              | (rw [if_neg (by omega), if_pos (by omega), decide_eq_false (by omega)]; exact Or.inr ⟨rfl, rfl⟩)
              | (rw [if_neg (by omega), if_neg (by omega), decide_eq_true (by omega)]; exact Or.inl ⟨rfl, rfl⟩)
              | (rw [if_neg (by omega), if_neg (by omega), decide_eq_false (by omega)]; exact Or.inr ⟨rfl, rfl⟩)
          · refine r_pushI a51_19 ?_
            refine r_goto a51_20 ?_
            refine fin _ ?_
            rw [hd]
            first
              | (rw [if_pos (by omega), decide_eq_true (by omega)]; exact Or.inl ⟨rfl, rfl⟩)
              | (rw [if_pos (by omega), decide_eq_false (by omega)]; exact Or.inr ⟨rfl, rfl⟩)
              | (rw [if_neg (by omega), if_pos (by omega), decide_eq_true (by omega)]; exact Or.inl ⟨rfl, rfl⟩)
              | (rw [if_neg (by omega), if_pos (by omega), decide_eq_false (by omega)]; exact Or.inr ⟨rfl, rfl⟩)
              | (rw [if_neg (by omega), if_neg (by omega), decide_eq_true (by omega)]; exact Or.inl ⟨rfl, rfl⟩)
              | (rw [if_neg (by omega), if_neg (by omega), decide_eq_false (by omega)]; exact Or.inr ⟨rfl, rfl⟩)
  refine r_entry mx51 rfl ?_
  refine r_pushI a51_0 ?_
  refine r_storeI_2 a51_1 rfl ?_
  refine r_pushI a51_2 ?_
  refine r_storeI_3 a51_3 rfl ?_
  have e0 : (0 : Int) = MK (fun p => decide (p < 0) && dgH how v p) := by
    rw [← MK_none]; exact MK_cong fun p hp => by simp
  have q := loop 10 0 (vR 0) (by omega)
  rw [← e0] at q
  exact q
/-- a step is written -/
def wr (m : XM) (v : Int) : XM := up2 (up2 m 78 3 (m 78 3 + 1)) 82 (m 78 3) v
theorem c_Cl_write (d z : Nat) (m : XM) (v : Int) (h : 0 ≤ m 78 3 ∧ m 78 3 < 100) : CV d k_Cl_write z m [vR 78, vI v] (fun m' => m' = wr m v) := by
  refine r_entry mx7 rfl ?_
  refine r_loadA a7_0 rfl (by decide) ?_
  refine r_getI (ki := 3) a7_1 ty78 rfl ?_
  refine r_pushI a7_4 ?_
  refine r_icge a7_6 (fun h_6 => ?_) (fun h_6 => ?_)
  · exfalso
    omega
  · refine r_loadA a7_9 rfl (by decide) ?_
    refine r_getR a7_10 ty78 rf78_7 (by decide) ?_
    refine r_loadA a7_13 rfl (by decide) ?_
    refine r_dup a7_14 rfl ?_
    refine r_getI (ki := 3) a7_15 ty78 rfl ?_
    refine r_dupx1 a7_18 rfl rfl ?_
    refine r_pushI a7_19 ?_
    refine r_add a7_20 (by omega) ?_
    refine r_putI (ki := 3) a7_21 ty78 rfl ?_
    refine r_loadI a7_24 rfl ?_
    refine r_iast a7_25 ty82 (by omega) ?_
    refine r_retVq a7_26 ?_
    rfl
def RdIn (m : XM) (E : Int) : Prop := RdS m E ∧ 0 ≤ m 78 3 ∧ m 78 3 ≤ m 77 1
def RdF (m m' : XM) : Prop := (∀ x, x ≠ 77 → x ≠ 78 → x ≠ 82 → m' x = m x) ∧ (∀ y, y ≠ 1 → m' 77 y = m 77 y) ∧ (∀ y, y ≠ 3 → m' 78 y = m 78 y) ∧ ∀ i, i < m 78 3 → m' 82 i = m 82 i
theorem RdF.refl (m : XM) : RdF m m := ⟨fun _ _ _ _ => rfl, fun _ _ => rfl, fun _ _ => rfl, fun _ _ => rfl⟩
theorem RdF.trans {a b c : XM} (h1 : RdF a b) (h2 : RdF b c) (hl : a 78 3 ≤ b 78 3) : RdF a c :=
  ⟨fun x x1 x2 x3 => (h2.1 x x1 x2 x3).trans (h1.1 x x1 x2 x3), fun y hy => (h2.2.1 y hy).trans (h1.2.1 y hy), fun y hy => (h2.2.2.1 y hy).trans (h1.2.2.1 y hy), fun i hi => (h2.2.2.2 i (by omega)).trans (h1.2.2.2 i hi)⟩
theorem RdF_p (m : XM) (q : Int) : RdF m (up2 m 77 1 q) := ⟨fun x x1 _ _ => up2_c x1, fun y hy => up2_k hy, fun y _ => by rw [up2_c (by decide)], fun i _ => by rw [up2_c (by decide)]⟩
theorem RdF_w (m : XM) (v : Int) : RdF m (wr m v) := by
  unfold wr
  exact ⟨fun x _ x2 x3 => by rw [up2_c x3, up2_c x2], fun y _ => by rw [up2_c (by decide), up2_c (by decide)], fun y hy => by rw [up2_c (by decide), up2_k hy], fun i hi => by rw [up2_k (by omega), up2_c (by decide)]⟩
theorem wr_3 (m : XM) (v : Int) : wr m v 78 3 = m 78 3 + 1 := by unfold wr; rw [up2_c (by decide), up2_s]
theorem wr_1 (m : XM) (v : Int) : wr m v 77 1 = m 77 1 := by unfold wr; rw [up2_c (by decide), up2_c (by decide)]
theorem wr_v (m : XM) (v : Int) : wr m v 82 (m 78 3) = v := by unfold wr; rw [up2_s]
theorem RdF_S {m m' : XM} {E : Int} (h : RdF m m') (hI : RdS m E) (hp : 0 ≤ m' 77 1 ∧ m' 77 1 ≤ E) : RdS m' E :=
  ⟨by rw [h.2.1 2 (by decide)]; exact hI.1, hI.2.1, hp, by rw [h.1 42 (by decide) (by decide) (by decide)]; exact hI.2.2.2⟩
def RdR (m m' : XM) (x : Int) (r : PRes) : Prop :=
  RdF m m' ∧ m' 77 1 = r.1 ∧ ((∃ t, r.2 = some t ∧ x = 1 ∧ m' 78 3 = m 78 3 + t.length ∧ Seg (m' 82) (m 78 3) (t.map cTok)) ∨ (r.2 = none ∧ x = 0))
theorem RdR_fail {m m' : XM} {q : Int} (h : RdF m m') (hp : m' 77 1 = q) : RdR m m' 0 (q, none) := ⟨h, hp, Or.inr ⟨rfl, rfl⟩⟩
theorem RdR_ok {m m' : XM} {q : Int} {t : List Int} (h : RdF m m') (hp : m' 77 1 = q) (hl : m' 78 3 = m 78 3 + t.length) (hs : Seg (m' 82) (m 78 3) (t.map cTok)) : RdR m m' 1 (q, some t) := ⟨h, hp, Or.inl ⟨t, rfl, rfl, hl, hs⟩⟩
theorem c_Re_readTest (d : Nat) (m : XM) (E : Int) (hd : 7 ≤ d) (hI : RdIn m E) : CI d k_Re_readTest 42 m [vR 77] (fun x m' => RdR m m' x (pTest (m 42) E (m 77 1))) := by
  obtain ⟨e, rfl⟩ : ∃ e, d = e + 1 := ⟨d - 1, by omega⟩
  obtain ⟨hS, hc1, hc2⟩ := hI
  have hb := hS.2.1
  have hp := hS.2.2.1
  obtain ⟨p, hpp⟩ : ∃ p, m 77 1 = p := ⟨_, rfl⟩
  have w1 := ixW_r (atM m E p)
  have w2 := ixH_r (atM m E (p + 1))
  have l1 := @atP_lt (m 42) E p
  have l2 := @atP_lt (m 42) E (p + 1)
  rw [hpp] at hp hc2 ⊢
  have hpt : pTest (m 42) E p = if ixW (atM m E p) = -1 then (p, none) else if ixH (atM m E (p + 1)) = -1 then (p + 1, none) else match pNum (m 42) E (p + 2) with
    | some (v, q) => (q, some [ixW (atM m E p) + 8 * ixH (atM m E (p + 1)) + 32 * v])
    | none => (p + 2, none) := rfl
  refine r_entry mx50 rfl ?_
  refine r_loadA a50_0 rfl (by decide) ?_
  refine r_statR a50_1 ?_
  refine r_callI_2 a50_3 (Nat.le_of_ble_eq_true rfl) (le_mx mx56 (Nat.le_of_ble_eq_true rfl)) (Or.inr (recv_ok ty77 ow56 (by decide))) (c_Re_takeOneOf_11 e m E (by omega) hS) (fun x_3 m_3 h_3 => ?_)
  obtain ⟨hx, hm⟩ := h_3
  have hx' : x_3 = ixW (atM m E p) := by rw [hpp] at hx; exact hx
  rw [hpp] at hm
  refine r_storeI_1 a50_6 rfl ?_
  refine r_loadI a50_7 rfl ?_
  refine r_ifge a50_8 (fun h_8 => ?_) (fun h_8 => ?_)
  · have hm2 : m_3 = up2 m 77 1 (p + 1) := by
      rcases hm with ⟨_, q⟩ | ⟨q, _⟩
      · exact q
      · exfalso; omega
    have hlt := l1 (fun w => by have := w1.2.2 w; omega)
    have hI2 : RdS m_3 E := by rw [hm2]; exact RdS_up hS (by omega)
    have ep : m_3 77 1 = p + 1 := by rw [hm2, up2_s]
    have e42 : m_3 42 = m 42 := by rw [hm2, up2_c (by decide)]
    refine r_loadA a50_13 rfl (by decide) ?_
    refine r_statR a50_14 ?_
    refine r_callI_2 a50_16 (Nat.le_of_ble_eq_true rfl) (le_mx mx56 (Nat.le_of_ble_eq_true rfl)) (Or.inr (recv_ok ty77 ow56 (by decide))) (c_Re_takeOneOf_12 e m_3 E (by omega) hI2) (fun x_16 m_16 h_16 => ?_)
    obtain ⟨hy, hn⟩ := h_16
    have hy' : x_16 = ixH (atM m E (p + 1)) := by
      have : x_16 = ixH (atP (m_3 42) E (m_3 77 1)) := hy
      rw [ep, e42] at this; exact this
    rw [ep] at hn
    refine r_storeI_2 a50_19 rfl ?_
    refine r_loadI a50_20 rfl ?_
    refine r_ifge a50_21 (fun h_21 => ?_) (fun h_21 => ?_)
    · refine r_loadA a50_26 rfl (by decide) ?_
      have hm3 : m_16 = up2 m 77 1 (p + 2) := by
        rcases hn with ⟨_, q⟩ | ⟨q, _⟩
        · rw [q, hm2, up2_up2, show p + 1 + 1 = p + 2 by omega]
        · exfalso; omega
      have hlt2 := l2 (fun w => by have := w2.2.2 w; omega)
      have hI3 : RdS m_16 E := by rw [hm3]; exact RdS_up hS (by omega)
      have ep3 : m_16 77 1 = p + 2 := by rw [hm3, up2_s]
      have e42' : m_16 42 = m 42 := by rw [hm3, up2_c (by decide)]
      refine r_callI_1 a50_27 (Nat.le_of_ble_eq_true rfl) (le_mx mx52 (Nat.le_of_ble_eq_true rfl)) (Or.inr (recv_ok ty77 ow52 (by decide))) (c_Re_readNumber e m_16 E (by omega) hI3) (fun x_27 m_27 h_27 => ?_)
      rw [ep3, e42'] at h_27
      refine r_storeI_3 a50_30 rfl ?_
      refine r_loadI a50_31 rfl ?_
      refine r_ifge a50_32 (fun h_32 => ?_) (fun h_32 => ?_)
      · have ok : ∃ v q, pNum (m 42) E (p + 2) = some (v, q) ∧ x_27 = v ∧ m_27 = up2 m 77 1 q := by
          rcases h_27 with ⟨v, q, h1, h2, h3⟩ | ⟨h1, h2, h3⟩
          · exact ⟨v, q, h1, h2, by rw [h3, hm3, up2_up2]⟩
          · exfalso; omega
        obtain ⟨v, q, k1, k2, k3⟩ := ok
        have kr := pNum_r k1
        have es : iShl x_3 10 = x_3 * 1024 := iShl_10 x_3 (by omega) (by omega)
        refine r_loadA a50_37 rfl (by decide) ?_
        refine r_getR a50_38 ty77 rf77_0 (by decide) ?_
        refine r_pushI a50_41 ?_
        refine r_loadI a50_42 rfl ?_
        refine r_pushI a50_43 ?_
        refine r_shl a50_45 ?_
        rw [es]
        refine r_add a50_46 (by omega) ?_
        refine r_loadI a50_47 rfl ?_
        refine r_loadI a50_48 rfl ?_
        refine r_callI_2 a50_49 (Nat.le_of_ble_eq_true rfl) (le_mx mx51 (Nat.le_of_ble_eq_true rfl)) (Or.inl rfl) (c_Re_digitsBy e 42 m_27 x_16 x_27 (by omega)) (fun x_49 m_49 h_49 => ?_)
        obtain ⟨hm_49, h_49⟩ := h_49
        rw [hm_49]
        have hML := MK_lt (dgH x_16 x_27)
        rw [h_49]
        refine r_add a50_52 (by omega) ?_
        refine r_callV_2 a50_53 (Nat.le_of_ble_eq_true rfl) (le_mx mx7 (Nat.le_of_ble_eq_true rfl)) (Or.inr (recv_ok ty78 ow7 (by decide))) (c_Cl_write e 42 m_27 _ (by rw [k3, up2_c (by decide)]; omega)) (fun m_53 h_53 => ?_)
        refine r_pushI a50_56 ?_
        refine r_retZq a50_57 (by omega) ?_
        rw [hpt, if_neg (by omega), if_neg (by omega), k1, h_53]
        have e3 : m_27 78 3 = m 78 3 := by rw [k3, up2_c (by decide)]
        refine RdR_ok (RdF.trans (by rw [k3]; exact RdF_p m q) (RdF_w _ _) (by omega)) (by rw [wr_1, k3, up2_s]) (by rw [wr_3, e3]; rfl) ⟨?_, trivial⟩
        rw [← e3, wr_v]
        have hc : cTok (ixW (atM m E p) + 8 * ixH (atM m E (p + 1)) + 32 * v) - 3 = ((ixW (atM m E p) + 8 * ixH (atM m E (p + 1)) + 32 * v) % 8) * 1024 + MK (dgH ((ixW (atM m E p) + 8 * ixH (atM m E (p + 1)) + 32 * v) / 8 % 4) ((ixW (atM m E p) + 8 * ixH (atM m E (p + 1)) + 32 * v) / 32)) := cTok_t (by omega)
        have f1 : (ixW (atM m E p) + 8 * ixH (atM m E (p + 1)) + 32 * v) % 8 = ixW (atM m E p) := by omega
        have f2 : (ixW (atM m E p) + 8 * ixH (atM m E (p + 1)) + 32 * v) / 8 % 4 = ixH (atM m E (p + 1)) := by omega
        have f3 : (ixW (atM m E p) + 8 * ixH (atM m E (p + 1)) + 32 * v) / 32 = v := by omega
        rw [f1, f2, f3] at hc
        rw [hx', hy', k2]
        omega
      · refine r_pushI a50_35 ?_
        refine r_retZq a50_36 (by omega) ?_
        rw [hpt, if_neg (by omega), if_neg (by omega)]
        rcases h_27 with ⟨v, q, h1, h2, h3⟩ | ⟨h1, h2, h3⟩
        · have := pNum_r h1
          exfalso; omega
        · rw [h1, h3]; exact RdR_fail (by rw [hm3]; exact RdF_p m _) ep3
    · refine r_pushI a50_24 ?_
      refine r_retZq a50_25 (by omega) ?_
      rw [hpt, if_neg (by omega), if_pos (by omega)]
      rcases hn with ⟨h0, hn⟩ | ⟨h0, hn⟩
      · exfalso; omega
      · rw [hn]; exact RdR_fail (by rw [hm2]; exact RdF_p m _) ep
  · refine r_pushI a50_11 ?_
    refine r_retZq a50_12 (by omega) ?_
    rw [hpt, if_pos (by omega)]
    rcases hm with ⟨h0, hm⟩ | ⟨h0, hm⟩
    · exfalso; omega
    · rw [hm]; exact RdR_fail (RdF.refl m) hpp
