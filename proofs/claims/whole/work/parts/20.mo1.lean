-- ===== the reference: small methods =====
theorem c_Mo_in (d z : Nat) (m : XM) (v lo hi : Int) : CI d k_Mo_in z m [vI v, vI lo, vI hi] (fun x m' => m' = m ∧ ((x = 1 ∧ lo ≤ v ∧ v ≤ hi) ∨ (x = 0 ∧ ¬ (lo ≤ v ∧ v ≤ hi)))) := by
  refine r_entry mx119 rfl ?_
  refine r_loadI a119_0 rfl ?_
  refine r_loadI a119_1 rfl ?_
  refine r_iclt a119_2 (fun h_2 => ?_) (fun h_2 => ?_)
  · refine r_pushI a119_14 ?_
    refine r_retZq a119_15 (by omega) ?_
    exact ⟨rfl, by omega⟩
  · refine r_loadI a119_5 rfl ?_
    refine r_loadI a119_6 rfl ?_
    refine r_icgt a119_7 (fun h_7 => ?_) (fun h_7 => ?_)
    · refine r_pushI a119_14 ?_
      refine r_retZq a119_15 (by omega) ?_
      exact ⟨rfl, by omega⟩
    · refine r_pushI a119_10 ?_
      refine r_goto a119_11 ?_
      refine r_retZq a119_15 (by omega) ?_
      exact ⟨rfl, by omega⟩
theorem c_Mo_within (d z : Nat) (m : XM) (v lo hi : Int) : CI d k_Mo_within z m [vI v, vI lo, vI hi] (fun x m' => m' = m ∧ ((v < lo ∧ x = lo) ∨ (lo ≤ v ∧ hi < v ∧ x = hi) ∨ (lo ≤ v ∧ v ≤ hi ∧ x = v))) := by
  refine r_entry mx120 rfl ?_
  refine r_loadI a120_0 rfl ?_
  refine r_loadI a120_1 rfl ?_
  refine r_icge a120_2 (fun h_2 => ?_) (fun h_2 => ?_)
  · refine r_loadI a120_9 rfl ?_
    refine r_loadI a120_10 rfl ?_
    refine r_icle a120_11 (fun h_11 => ?_) (fun h_11 => ?_)
    · refine r_loadI a120_18 rfl ?_
      refine r_retIq a120_19 ?_
      exact ⟨rfl, by omega⟩
    · refine r_loadI a120_14 rfl ?_
      refine r_goto a120_15 ?_
      refine r_retIq a120_19 ?_
      exact ⟨rfl, by omega⟩
  · refine r_loadI a120_5 rfl ?_
    refine r_goto a120_6 ?_
    refine r_retIq a120_19 ?_
    exact ⟨rfl, by omega⟩
theorem c_Mo_isGate (d z : Nat) (m : XM) (g : Int) (hd : 1 ≤ d) (h0 : okS (m 122)) : CI d k_Mo_isGate z m [vR 121, vI g] (fun x m' => m' = m ∧ ((x = 1 ∧ 0 ≤ g ∧ g < m 122 0) ∨ (x = 0 ∧ ¬ (0 ≤ g ∧ g < m 122 0)))) := by
  obtain ⟨e, rfl⟩ : ∃ e, d = e + 1 := ⟨d - 1, by omega⟩
  have h1 := h0.1.1
  refine r_entry mx121 rfl ?_
  refine r_loadI a121_0 rfl ?_
  refine r_pushI a121_1 ?_
  refine r_loadA a121_2 rfl (by decide) ?_
  refine r_getR a121_3 ty121 rf121_1 (by decide) ?_
  refine r_pushI a121_6 ?_
  refine r_iald a121_7 ty122 (by omega) ?_
  refine r_pushI a121_8 ?_
  refine r_sub a121_9 (by omega) ?_
  refine r_callI_3 a121_10 (Nat.le_of_ble_eq_true rfl) (le_mx mx119 (Nat.le_of_ble_eq_true rfl)) (Or.inl rfl) (c_Mo_in e z m g 0 (m 122 0 - 1)) (fun x_10 m_10 h_10 => ?_)
  obtain ⟨hm_10, h_10⟩ := h_10
  rw [hm_10]
  refine r_retZq a121_13 (by omega) ?_
  exact ⟨rfl, by omega⟩
theorem c_Mo_isSkier (d z : Nat) (m : XM) (g : Int) (hd : 1 ≤ d) (h0 : okS (m 122)) : CI d k_Mo_isSkier z m [vR 121, vI g] (fun x m' => m' = m ∧ ((x = 1 ∧ 0 ≤ g ∧ g < m 122 1) ∨ (x = 0 ∧ ¬ (0 ≤ g ∧ g < m 122 1)))) := by
  obtain ⟨e, rfl⟩ : ∃ e, d = e + 1 := ⟨d - 1, by omega⟩
  have h1 := h0.1.2.1
  refine r_entry mx122 rfl ?_
  refine r_loadI a122_0 rfl ?_
  refine r_pushI a122_1 ?_
  refine r_loadA a122_2 rfl (by decide) ?_
  refine r_getR a122_3 ty121 rf121_1 (by decide) ?_
  refine r_pushI a122_6 ?_
  refine r_iald a122_7 ty122 (by omega) ?_
  refine r_pushI a122_8 ?_
  refine r_sub a122_9 (by omega) ?_
  refine r_callI_3 a122_10 (Nat.le_of_ble_eq_true rfl) (le_mx mx119 (Nat.le_of_ble_eq_true rfl)) (Or.inl rfl) (c_Mo_in e z m g 0 (m 122 1 - 1)) (fun x_10 m_10 h_10 => ?_)
  obtain ⟨hm_10, h_10⟩ := h_10
  rw [hm_10]
  refine r_retZq a122_13 (by omega) ?_
  exact ⟨rfl, by omega⟩
theorem c_Mo_feed (d z : Nat) (m : XM) (a : Int) (hd : 1 ≤ d) (h0 : okS (m 122)) : CI d k_Mo_feed z m [vR 121, vI a] (fun x m' => (¬ (0 ≤ a ∧ a ≤ 127) ∧ x = -2 ∧ m' = m) ∨ ((0 ≤ a ∧ a ≤ 127) ∧ m 122 5 = 100 ∧ x = -4 ∧ m' = m) ∨ ((0 ≤ a ∧ a ≤ 127) ∧ m 122 5 < 100 ∧ x = m 122 5 + 1 ∧ m' = upC m 122 (upi (upi (m 122) (99 + m 122 5) a) 5 (m 122 5 + 1)))) := by
  obtain ⟨e, rfl⟩ : ∃ e, d = e + 1 := ⟨d - 1, by omega⟩
  have h5 := h0.1.2.2.2.2.2.1
  refine r_entry mx123 rfl ?_
  refine r_loadI a123_0 rfl ?_
  refine r_pushI a123_1 ?_
  refine r_pushI a123_2 ?_
  refine r_callI_3 a123_4 (Nat.le_of_ble_eq_true rfl) (le_mx mx119 (Nat.le_of_ble_eq_true rfl)) (Or.inl rfl) (c_Mo_in e z m a 0 127) (fun x_4 m_4 h_4 => ?_)
  obtain ⟨hm_4, h_4⟩ := h_4
  rw [hm_4]
  refine r_ifne a123_7 (fun h_7 => ?_) (fun h_7 => ?_)
  · refine r_loadA a123_13 rfl (by decide) ?_
    refine r_getR a123_14 ty121 rf121_1 (by decide) ?_
    refine r_pushI a123_17 ?_
    refine r_iald a123_18 ty122 (by omega) ?_
    refine r_pushI a123_19 ?_
    refine r_icne a123_21 (fun h_21 => ?_) (fun h_21 => ?_)
    · refine r_loadA a123_27 rfl (by decide) ?_
      refine r_getR a123_28 ty121 rf121_1 (by decide) ?_
      refine r_pushI a123_31 ?_
      refine r_loadA a123_33 rfl (by decide) ?_
      refine r_getR a123_34 ty121 rf121_1 (by decide) ?_
      refine r_pushI a123_37 ?_
      refine r_iald a123_38 ty122 (by omega) ?_
      refine r_add a123_39 (by omega) ?_
      refine r_loadI a123_40 rfl ?_
      refine r_iast a123_41 ty122 (by omega) ?_
      refine r_loadA a123_42 rfl (by decide) ?_
      refine r_getR a123_43 ty121 rf121_1 (by decide) ?_
      refine r_pushI a123_46 ?_
      refine r_dup2 a123_47 rfl rfl ?_
      refine r_iald a123_48 ty122 (by omega) ?_
      rw [up2_k (show (5 : Int) ≠ 99 + m 122 5 by omega)]
      refine r_pushI a123_49 ?_
      refine r_add a123_50 (by omega) ?_
      refine r_iast a123_51 ty122 (by omega) ?_
      refine r_loadA a123_52 rfl (by decide) ?_
      refine r_getR a123_53 ty121 rf121_1 (by decide) ?_
      refine r_pushI a123_56 ?_
      refine r_iald a123_57 ty122 (by omega) ?_
      rw [up2_s]
      refine r_retIq a123_58 ?_
      refine Or.inr (Or.inr ⟨by omega, by omega, rfl, ?_⟩)
      rw [up2_C, up2_C, upC_s, upC_upC]
    · refine r_pushI a123_24 ?_
      refine r_retIq a123_26 ?_
      exact Or.inr (Or.inl ⟨by omega, by omega, rfl, rfl⟩)
  · refine r_pushI a123_10 ?_
    refine r_retIq a123_12 ?_
    exact Or.inl ⟨by omega, rfl, rfl⟩
