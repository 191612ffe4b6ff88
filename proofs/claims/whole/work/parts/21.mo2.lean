theorem l_Mo_gate {e z : Nat} {m : XM} {g kd v t : Int} {Q : Option XV → XH → Prop} (hg : 0 ≤ g ∧ g < 7) (σ : Int → Int)
    (hend : RZ (e + 1) k_Mo_gate 132 [vR 121, vI kd, vI v, vI t, vI g, vI 4] [] (zH z (upC m 122 (fun j => if 36 + 4 * g ≤ j ∧ j < 36 + 4 * g + 4 then 0 else σ j))) Q) :
    ∀ (n : Nat) (k : Int), 4 < k + n → 0 ≤ k → k ≤ 4 → RZ (e + 1) k_Mo_gate 104 [vR 121, vI kd, vI v, vI t, vI g, vI k] [] (zH z (upC m 122 (fun j => if 36 + 4 * g ≤ j ∧ j < 36 + 4 * g + k then 0 else σ j))) Q := by
  intro n
  induction n with
  | zero => intro k h1 h2 h3; omega
  | succ n ih =>
    intro k h1 h2 h3
    refine r_loadI a139_104 rfl ?_
    refine r_pushI a139_106 ?_
    refine r_icge a139_107 (fun h_107 => ?_) (fun h_107 => ?_)
    · obtain rfl : k = 4 := by omega
      exact hend
    · refine r_loadA a139_110 rfl (by decide) ?_
      refine r_getR a139_111 ty121 rf121_1 (by decide) ?_
      refine r_pushI a139_114 ?_
      refine r_pushI a139_116 ?_
      refine r_loadI a139_117 rfl ?_
      refine r_mul a139_119 (by omega) ?_
      refine r_add a139_120 (by omega) ?_
      refine r_loadI a139_121 rfl ?_
      refine r_add a139_123 (by omega) ?_
      refine r_pushI a139_124 ?_
      refine r_iast a139_125 ty122 (by omega) ?_
      refine r_iinc_5 a139_126 rfl (by omega) ?_
      refine r_goto a139_129 ?_
      have e1 : up2 (upC m 122 (fun j => if 36 + 4 * g ≤ j ∧ j < 36 + 4 * g + k then 0 else σ j)) 122 (36 + 4 * g + k) 0 = upC m 122 (fun j => if 36 + 4 * g ≤ j ∧ j < 36 + 4 * g + (k + 1) then 0 else σ j) := by
        rw [up2_C, upC_s, upC_upC]
        congr 1
        funext j
        rw [upi_at]
        by_cases q : j = 36 + 4 * g + k
        · rw [if_pos q, if_pos (by omega)]
        · rw [if_neg q]
          by_cases q2 : 36 + 4 * g ≤ j ∧ j < 36 + 4 * g + k
          · rw [if_pos q2, if_pos (by omega)]
          · rw [if_neg q2, if_neg (by omega)]
      rw [e1]
      exact ih (k + 1) (by omega) (by omega) (by omega)
/-- the row behind a new gate -/
def gateS (s : Int → Int) (kd v t : Int) : Int → Int := fun j => if j = 0 then s 0 + 1 else if 36 + 4 * s 0 ≤ j ∧ j < 36 + 4 * s 0 + 4 then 0 else if j = 29 + s 0 then 1 else if j = 22 + s 0 then t else if j = 15 + s 0 then v else if j = 8 + s 0 then kd else s j
theorem c_Mo_gate (d z : Nat) (m : XM) (kd v t : Int) (hd : 1 ≤ d) (h0 : okS (m 122)) : CI d k_Mo_gate z m [vR 121, vI kd, vI v, vI t] (fun x m' =>
    (¬ (0 ≤ kd ∧ kd ≤ 6) ∧ x = -1 ∧ m' = m) ∨ ((0 ≤ kd ∧ kd ≤ 6) ∧ ¬ ((0 ≤ v ∧ v ≤ 9) ∧ 0 ≤ t ∧ t ≤ 9) ∧ x = -2 ∧ m' = m) ∨ ((0 ≤ kd ∧ kd ≤ 6) ∧ ((0 ≤ v ∧ v ≤ 9) ∧ 0 ≤ t ∧ t ≤ 9) ∧ m 122 0 = 7 ∧ x = -4 ∧ m' = m) ∨
    ((0 ≤ kd ∧ kd ≤ 6) ∧ ((0 ≤ v ∧ v ≤ 9) ∧ 0 ≤ t ∧ t ≤ 9) ∧ m 122 0 < 7 ∧ x = m 122 0 ∧ m' = upC m 122 (gateS (m 122) kd v t))) := by
  obtain ⟨e, rfl⟩ : ∃ e, d = e + 1 := ⟨d - 1, by omega⟩
  have h1 := h0.1.1
  refine r_entry mx139 rfl ?_
  refine r_loadI a139_0 rfl ?_
  refine r_pushI a139_1 ?_
  refine r_pushI a139_2 ?_
  refine r_callI_3 a139_4 (Nat.le_of_ble_eq_true rfl) (le_mx mx119 (Nat.le_of_ble_eq_true rfl)) (Or.inl rfl) (c_Mo_in e z m kd 0 6) (fun x_4 m_4 h_4 => ?_)
  obtain ⟨hm_4, h_4⟩ := h_4
  rw [hm_4]
  refine r_ifne a139_7 (fun h_7 => ?_) (fun h_7 => ?_)
  · refine r_loadI a139_12 rfl ?_
    refine r_pushI a139_13 ?_
    refine r_pushI a139_14 ?_
    refine r_callI_3 a139_16 (Nat.le_of_ble_eq_true rfl) (le_mx mx119 (Nat.le_of_ble_eq_true rfl)) (Or.inl rfl) (c_Mo_in e z m v 0 9) (fun x_16 m_16 h_16 => ?_)
    obtain ⟨hm_16, h_16⟩ := h_16
    rw [hm_16]
    refine r_ifeq a139_19 (fun h_19 => ?_) (fun h_19 => ?_)
    · refine r_pushI a139_32 ?_
      refine r_retIq a139_34 ?_
      exact Or.inr (Or.inl ⟨by omega, by omega, rfl, rfl⟩)
    · refine r_loadI a139_22 rfl ?_
      refine r_pushI a139_23 ?_
      refine r_pushI a139_24 ?_
      refine r_callI_3 a139_26 (Nat.le_of_ble_eq_true rfl) (le_mx mx119 (Nat.le_of_ble_eq_true rfl)) (Or.inl rfl) (c_Mo_in e z m t 0 9) (fun x_26 m_26 h_26 => ?_)
      obtain ⟨hm_26, h_26⟩ := h_26
      rw [hm_26]
      refine r_ifne a139_29 (fun h_29 => ?_) (fun h_29 => ?_)
      · refine r_loadA a139_35 rfl (by decide) ?_
        refine r_getR a139_36 ty121 rf121_1 (by decide) ?_
        refine r_pushI a139_39 ?_
        refine r_iald a139_40 ty122 (by omega) ?_
        refine r_pushI a139_41 ?_
        refine r_icne a139_43 (fun h_43 => ?_) (fun h_43 => ?_)
        · refine r_loadA a139_49 rfl (by decide) ?_
          refine r_getR a139_50 ty121 rf121_1 (by decide) ?_
          refine r_pushI a139_53 ?_
          refine r_iald a139_54 ty122 (by omega) ?_
          refine r_storeI_4 a139_55 rfl ?_
          refine r_loadA a139_57 rfl (by decide) ?_
          refine r_getR a139_58 ty121 rf121_1 (by decide) ?_
          refine r_pushI a139_61 ?_
          refine r_loadI a139_63 rfl ?_
          refine r_add a139_65 (by omega) ?_
          refine r_loadI a139_66 rfl ?_
          refine r_iast a139_67 ty122 (by omega) ?_
          refine r_loadA a139_68 rfl (by decide) ?_
          refine r_getR a139_69 ty121 rf121_1 (by decide) ?_
          refine r_pushI a139_72 ?_
          refine r_loadI a139_74 rfl ?_
          refine r_add a139_76 (by omega) ?_
          refine r_loadI a139_77 rfl ?_
          refine r_iast a139_78 ty122 (by omega) ?_
          refine r_loadA a139_79 rfl (by decide) ?_
          refine r_getR a139_80 ty121 rf121_1 (by decide) ?_
          refine r_pushI a139_83 ?_
          refine r_loadI a139_85 rfl ?_
          refine r_add a139_87 (by omega) ?_
          refine r_loadI a139_88 rfl ?_
          refine r_iast a139_89 ty122 (by omega) ?_
          refine r_loadA a139_90 rfl (by decide) ?_
          refine r_getR a139_91 ty121 rf121_1 (by decide) ?_
          refine r_pushI a139_94 ?_
          refine r_loadI a139_96 rfl ?_
          refine r_add a139_98 (by omega) ?_
          refine r_pushI a139_99 ?_
          refine r_iast a139_100 ty122 (by omega) ?_
          refine r_pushI a139_101 ?_
          refine r_storeI_5 a139_102 rfl ?_
          have e0 : up2 (up2 (up2 (up2 m 122 (8 + m 122 0) kd) 122 (15 + m 122 0) v) 122 (22 + m 122 0) t) 122 (29 + m 122 0) 1 = upC m 122 (fun j => if 36 + 4 * m 122 0 ≤ j ∧ j < 36 + 4 * m 122 0 + 0 then 0 else (upi (upi (upi (upi (m 122) (8 + m 122 0) kd) (15 + m 122 0) v) (22 + m 122 0) t) (29 + m 122 0) 1) j) := by
            simp only [up2_C, upC_s, upC_upC]
            congr 1
            funext j
            rw [if_neg (by omega)]
          rw [e0]
          refine l_Mo_gate (by omega) _ ?_ 5 0 (by omega) (by omega) (by omega)
          refine r_loadA a139_132 rfl (by decide) ?_
          refine r_getR a139_133 ty121 rf121_1 (by decide) ?_
          refine r_pushI a139_136 ?_
          refine r_dup2 a139_137 rfl rfl ?_
          refine r_iald a139_138 ty122 (by omega) ?_
          refine r_pushI a139_139 ?_
          have e1 : upC m 122 (fun j => if 36 + 4 * m 122 0 ≤ j ∧ j < 36 + 4 * m 122 0 + 4 then 0 else (upi (upi (upi (upi (m 122) (8 + m 122 0) kd) (15 + m 122 0) v) (22 + m 122 0) t) (29 + m 122 0) 1) j) 122 0 = m 122 0 := by
            rw [upC_s]
            show (if _ then _ else _) = _
            rw [if_neg (by omega), upi_n (by omega), upi_n (by omega), upi_n (by omega), upi_n (by omega)]
          rw [e1]
          refine r_add a139_140 (by omega) ?_
          refine r_iast a139_141 ty122 (by omega) ?_
          refine r_loadI a139_142 rfl ?_
          refine r_retIq a139_144 ?_
          refine Or.inr (Or.inr (Or.inr ⟨by omega, by omega, by omega, rfl, ?_⟩))
          rw [up2_C, upC_s, upC_upC]
          congr 1
        · refine r_pushI a139_46 ?_
          refine r_retIq a139_48 ?_
          exact Or.inr (Or.inr (Or.inl ⟨by omega, by omega, by omega, rfl, rfl⟩))
      · refine r_pushI a139_32 ?_
        refine r_retIq a139_34 ?_
        exact Or.inr (Or.inl ⟨by omega, by omega, rfl, rfl⟩)
  · refine r_pushI a139_10 ?_
    refine r_retIq a139_11 ?_
    exact Or.inl ⟨by omega, rfl, rfl⟩
theorem c_Mo_of (d z : Nat) (m : XM) (g w : Int) (hd : 2 ≤ d) (h0 : okS (m 122)) : CI d k_Mo_of z m [vR 121, vI g, vI w] (fun x m' => m' = m ∧ (((0 ≤ g ∧ g < m 122 0) ∧ (0 ≤ w ∧ w ≤ 3) ∧ x = m 122 (8 + 7 * w + g)) ∨ (¬ ((0 ≤ g ∧ g < m 122 0) ∧ (0 ≤ w ∧ w ≤ 3)) ∧ x = -1))) := by
  obtain ⟨e, rfl⟩ : ∃ e, d = e + 1 := ⟨d - 1, by omega⟩
  have h1 := h0.1.1
  refine r_entry mx140 rfl ?_
  refine r_loadA a140_0 rfl (by decide) ?_
  refine r_loadI a140_1 rfl ?_
  refine r_callI_2 a140_2 (Nat.le_of_ble_eq_true rfl) (le_mx mx121 (Nat.le_of_ble_eq_true rfl)) (Or.inr (recv_ok ty121 ow121 (by decide))) (c_Mo_isGate e z m g (by omega) h0) (fun x_2 m_2 h_2 => ?_)
  obtain ⟨hm_2, h_2⟩ := h_2
  rw [hm_2]
  refine r_ifeq a140_5 (fun h_5 => ?_) (fun h_5 => ?_)
  · refine r_pushI a140_34 ?_
    refine r_retIq a140_35 ?_
    exact ⟨rfl, by omega⟩
  · refine r_loadI a140_8 rfl ?_
    refine r_pushI a140_9 ?_
    refine r_pushI a140_10 ?_
    refine r_callI_3 a140_11 (Nat.le_of_ble_eq_true rfl) (le_mx mx119 (Nat.le_of_ble_eq_true rfl)) (Or.inl rfl) (c_Mo_in e z m w 0 3) (fun x_11 m_11 h_11 => ?_)
    obtain ⟨hm_11, h_11⟩ := h_11
    rw [hm_11]
    refine r_ifeq a140_14 (fun h_14 => ?_) (fun h_14 => ?_)
    · refine r_pushI a140_34 ?_
      refine r_retIq a140_35 ?_
      exact ⟨rfl, by omega⟩
    · refine r_loadA a140_17 rfl (by decide) ?_
      refine r_getR a140_18 ty121 rf121_1 (by decide) ?_
      refine r_pushI a140_21 ?_
      refine r_pushI a140_23 ?_
      refine r_loadI a140_25 rfl ?_
      refine r_mul a140_26 (by omega) ?_
      refine r_add a140_27 (by omega) ?_
      refine r_loadI a140_28 rfl ?_
      refine r_add a140_29 (by omega) ?_
      refine r_iald a140_30 ty122 (by omega) ?_
      refine r_goto a140_31 ?_
      refine r_retIq a140_35 ?_
      exact ⟨rfl, by omega⟩
theorem c_Mo_turn (d z : Nat) (m : XM) (g n : Int) (hd : 2 ≤ d) (h0 : okS (m 122)) : CI d k_Mo_turn z m [vR 121, vI g, vI n] (fun x m' => (¬ (0 ≤ g ∧ g < m 122 0) ∧ x = -1 ∧ m' = m) ∨ ((0 ≤ g ∧ g < m 122 0) ∧ ¬ (0 ≤ n ∧ n ≤ 9) ∧ x = -2 ∧ m' = m) ∨ ((0 ≤ g ∧ g < m 122 0) ∧ (0 ≤ n ∧ n ≤ 9) ∧ x = m 122 (22 + g) ∧ m' = upC m 122 (upi (m 122) (22 + g) n))) := by
  obtain ⟨e, rfl⟩ : ∃ e, d = e + 1 := ⟨d - 1, by omega⟩
  have h1 := h0.1.1
  refine r_entry mx141 rfl ?_
  refine r_loadA a141_0 rfl (by decide) ?_
  refine r_loadI a141_1 rfl ?_
  refine r_callI_2 a141_2 (Nat.le_of_ble_eq_true rfl) (le_mx mx121 (Nat.le_of_ble_eq_true rfl)) (Or.inr (recv_ok ty121 ow121 (by decide))) (c_Mo_isGate e z m g (by omega) h0) (fun x_2 m_2 h_2 => ?_)
  obtain ⟨hm_2, h_2⟩ := h_2
  rw [hm_2]
  refine r_ifne a141_5 (fun h_5 => ?_) (fun h_5 => ?_)
  · refine r_loadI a141_10 rfl ?_
    refine r_pushI a141_11 ?_
    refine r_pushI a141_12 ?_
    refine r_callI_3 a141_14 (Nat.le_of_ble_eq_true rfl) (le_mx mx119 (Nat.le_of_ble_eq_true rfl)) (Or.inl rfl) (c_Mo_in e z m n 0 9) (fun x_14 m_14 h_14 => ?_)
    obtain ⟨hm_14, h_14⟩ := h_14
    rw [hm_14]
    refine r_ifne a141_17 (fun h_17 => ?_) (fun h_17 => ?_)
    · refine r_loadA a141_23 rfl (by decide) ?_
      refine r_getR a141_24 ty121 rf121_1 (by decide) ?_
      refine r_pushI a141_27 ?_
      refine r_loadI a141_29 rfl ?_
      refine r_add a141_30 (by omega) ?_
      refine r_iald a141_31 ty122 (by omega) ?_
      refine r_storeI_3 a141_32 rfl ?_
      refine r_loadA a141_33 rfl (by decide) ?_
      refine r_getR a141_34 ty121 rf121_1 (by decide) ?_
      refine r_pushI a141_37 ?_
      refine r_loadI a141_39 rfl ?_
      refine r_add a141_40 (by omega) ?_
      refine r_loadI a141_41 rfl ?_
      refine r_iast a141_42 ty122 (by omega) ?_
      refine r_loadI a141_43 rfl ?_
      refine r_retIq a141_44 ?_
      exact Or.inr (Or.inr ⟨by omega, by omega, rfl, rfl⟩)
    · refine r_pushI a141_20 ?_
      refine r_retIq a141_22 ?_
      exact Or.inr (Or.inl ⟨by omega, by omega, rfl, rfl⟩)
  · refine r_pushI a141_8 ?_
    refine r_retIq a141_9 ?_
    exact Or.inl ⟨by omega, rfl, rfl⟩
theorem c_Mo_plan (d z : Nat) (m : XM) (g n : Int) (hd : 2 ≤ d) (h0 : okS (m 122)) : CI d k_Mo_plan z m [vR 121, vI g, vI n] (fun x m' => (¬ (0 ≤ g ∧ g < m 122 0) ∧ x = -1 ∧ m' = m) ∨ ((0 ≤ g ∧ g < m 122 0) ∧ ¬ (0 ≤ n ∧ n ≤ 2) ∧ x = -2 ∧ m' = m) ∨ ((0 ≤ g ∧ g < m 122 0) ∧ (0 ≤ n ∧ n ≤ 2) ∧ x = m 122 (29 + g) ∧ m' = upC m 122 (upi (m 122) (29 + g) n))) := by
  obtain ⟨e, rfl⟩ : ∃ e, d = e + 1 := ⟨d - 1, by omega⟩
  have h1 := h0.1.1
  refine r_entry mx142 rfl ?_
  refine r_loadA a142_0 rfl (by decide) ?_
  refine r_loadI a142_1 rfl ?_
  refine r_callI_2 a142_2 (Nat.le_of_ble_eq_true rfl) (le_mx mx121 (Nat.le_of_ble_eq_true rfl)) (Or.inr (recv_ok ty121 ow121 (by decide))) (c_Mo_isGate e z m g (by omega) h0) (fun x_2 m_2 h_2 => ?_)
  obtain ⟨hm_2, h_2⟩ := h_2
  rw [hm_2]
  refine r_ifne a142_5 (fun h_5 => ?_) (fun h_5 => ?_)
  · refine r_loadI a142_10 rfl ?_
    refine r_pushI a142_11 ?_
    refine r_pushI a142_12 ?_
    refine r_callI_3 a142_13 (Nat.le_of_ble_eq_true rfl) (le_mx mx119 (Nat.le_of_ble_eq_true rfl)) (Or.inl rfl) (c_Mo_in e z m n 0 2) (fun x_13 m_13 h_13 => ?_)
    obtain ⟨hm_13, h_13⟩ := h_13
    rw [hm_13]
    refine r_ifne a142_16 (fun h_16 => ?_) (fun h_16 => ?_)
    · refine r_loadA a142_22 rfl (by decide) ?_
      refine r_getR a142_23 ty121 rf121_1 (by decide) ?_
      refine r_pushI a142_26 ?_
      refine r_loadI a142_28 rfl ?_
      refine r_add a142_29 (by omega) ?_
      refine r_iald a142_30 ty122 (by omega) ?_
      refine r_storeI_3 a142_31 rfl ?_
      refine r_loadA a142_32 rfl (by decide) ?_
      refine r_getR a142_33 ty121 rf121_1 (by decide) ?_
      refine r_pushI a142_36 ?_
      refine r_loadI a142_38 rfl ?_
      refine r_add a142_39 (by omega) ?_
      refine r_loadI a142_40 rfl ?_
      refine r_iast a142_41 ty122 (by omega) ?_
      refine r_loadI a142_42 rfl ?_
      refine r_retIq a142_43 ?_
      exact Or.inr (Or.inr ⟨by omega, by omega, rfl, rfl⟩)
    · refine r_pushI a142_19 ?_
      refine r_retIq a142_21 ?_
      exact Or.inr (Or.inl ⟨by omega, by omega, rfl, rfl⟩)
  · refine r_pushI a142_8 ?_
    refine r_retIq a142_9 ?_
    exact Or.inl ⟨by omega, rfl, rfl⟩
theorem c_Mo_row (d z : Nat) (m : XM) (g k n : Int) (hd : 2 ≤ d) (h0 : okS (m 122)) : CI d k_Mo_row z m [vR 121, vI g, vI k, vI n] (fun x m' => (¬ ((0 ≤ g ∧ g < m 122 0) ∧ 0 ≤ k ∧ k ≤ 3) ∧ x = -1 ∧ m' = m) ∨ (((0 ≤ g ∧ g < m 122 0) ∧ 0 ≤ k ∧ k ≤ 3) ∧ ¬ (0 ≤ n ∧ n ≤ 9) ∧ x = -2 ∧ m' = m) ∨
    (((0 ≤ g ∧ g < m 122 0) ∧ 0 ≤ k ∧ k ≤ 3) ∧ (0 ≤ n ∧ n ≤ 9) ∧ m 122 (8 + g) ≠ 6 ∧ x = -3 ∧ m' = m) ∨ (((0 ≤ g ∧ g < m 122 0) ∧ 0 ≤ k ∧ k ≤ 3) ∧ (0 ≤ n ∧ n ≤ 9) ∧ m 122 (8 + g) = 6 ∧ x = m 122 (36 + 4 * g + k) ∧ m' = upC m 122 (upi (m 122) (36 + 4 * g + k) n))) := by
  obtain ⟨e, rfl⟩ : ∃ e, d = e + 1 := ⟨d - 1, by omega⟩
  have h1 := h0.1.1
  refine r_entry mx143 rfl ?_
  refine r_loadA a143_0 rfl (by decide) ?_
  refine r_loadI a143_1 rfl ?_
  refine r_callI_2 a143_2 (Nat.le_of_ble_eq_true rfl) (le_mx mx121 (Nat.le_of_ble_eq_true rfl)) (Or.inr (recv_ok ty121 ow121 (by decide))) (c_Mo_isGate e z m g (by omega) h0) (fun x_2 m_2 h_2 => ?_)
  obtain ⟨hm_2, h_2⟩ := h_2
  rw [hm_2]
  refine r_ifeq a143_5 (fun h_5 => ?_) (fun h_5 => ?_)
  · refine r_pushI a143_17 ?_
    refine r_retIq a143_18 ?_
    exact Or.inl ⟨by omega, rfl, rfl⟩
  · refine r_loadI a143_8 rfl ?_
    refine r_pushI a143_9 ?_
    refine r_pushI a143_10 ?_
    refine r_callI_3 a143_11 (Nat.le_of_ble_eq_true rfl) (le_mx mx119 (Nat.le_of_ble_eq_true rfl)) (Or.inl rfl) (c_Mo_in e z m k 0 3) (fun x_11 m_11 h_11 => ?_)
    obtain ⟨hm_11, h_11⟩ := h_11
    rw [hm_11]
    refine r_ifne a143_14 (fun h_14 => ?_) (fun h_14 => ?_)
    · refine r_loadI a143_19 rfl ?_
      refine r_pushI a143_20 ?_
      refine r_pushI a143_21 ?_
      refine r_callI_3 a143_23 (Nat.le_of_ble_eq_true rfl) (le_mx mx119 (Nat.le_of_ble_eq_true rfl)) (Or.inl rfl) (c_Mo_in e z m n 0 9) (fun x_23 m_23 h_23 => ?_)
      obtain ⟨hm_23, h_23⟩ := h_23
      rw [hm_23]
      refine r_ifne a143_26 (fun h_26 => ?_) (fun h_26 => ?_)
      · refine r_loadA a143_32 rfl (by decide) ?_
        refine r_getR a143_33 ty121 rf121_1 (by decide) ?_
        refine r_pushI a143_36 ?_
        refine r_loadI a143_38 rfl ?_
        refine r_add a143_39 (by omega) ?_
        refine r_iald a143_40 ty122 (by omega) ?_
        refine r_pushI a143_41 ?_
        refine r_iceq a143_43 (fun h_43 => ?_) (fun h_43 => ?_)
        · refine r_loadA a143_49 rfl (by decide) ?_
          refine r_getR a143_50 ty121 rf121_1 (by decide) ?_
          refine r_pushI a143_53 ?_
          refine r_pushI a143_55 ?_
          refine r_loadI a143_56 rfl ?_
          refine r_mul a143_57 (by omega) ?_
          refine r_add a143_58 (by omega) ?_
          refine r_loadI a143_59 rfl ?_
          refine r_add a143_60 (by omega) ?_
          refine r_iald a143_61 ty122 (by omega) ?_
          refine r_storeI_4 a143_62 rfl ?_
          refine r_loadA a143_64 rfl (by decide) ?_
          refine r_getR a143_65 ty121 rf121_1 (by decide) ?_
          refine r_pushI a143_68 ?_
          refine r_pushI a143_70 ?_
          refine r_loadI a143_71 rfl ?_
          refine r_mul a143_72 (by omega) ?_
          refine r_add a143_73 (by omega) ?_
          refine r_loadI a143_74 rfl ?_
          refine r_add a143_75 (by omega) ?_
          refine r_loadI a143_76 rfl ?_
          refine r_iast a143_77 ty122 (by omega) ?_
          refine r_loadI a143_78 rfl ?_
          refine r_retIq a143_80 ?_
          exact Or.inr (Or.inr (Or.inr ⟨by omega, by omega, by omega, rfl, rfl⟩))
        · refine r_pushI a143_46 ?_
          refine r_retIq a143_48 ?_
          exact Or.inr (Or.inr (Or.inl ⟨by omega, by omega, by omega, rfl, rfl⟩))
      · refine r_pushI a143_29 ?_
        refine r_retIq a143_31 ?_
        exact Or.inr (Or.inl ⟨by omega, by omega, rfl, rfl⟩)
    · refine r_pushI a143_17 ?_
      refine r_retIq a143_18 ?_
      exact Or.inl ⟨by omega, rfl, rfl⟩
theorem c_Mo_skier (d z : Nat) (m : XM) (a : Int) (hd : 1 ≤ d) (h0 : okS (m 122)) : CI d k_Mo_skier z m [vR 121, vI a] (fun x m' => (¬ (0 ≤ a ∧ a ≤ 9) ∧ x = -2 ∧ m' = m) ∨ ((0 ≤ a ∧ a ≤ 9) ∧ m 122 1 = 5 ∧ x = -4 ∧ m' = m) ∨ ((0 ≤ a ∧ a ≤ 9) ∧ m 122 1 < 5 ∧ x = m 122 1 ∧ m' = upC m 122 (upi (upi (m 122) (64 + m 122 1) a) 1 (m 122 1 + 1)))) := by
  obtain ⟨e, rfl⟩ : ∃ e, d = e + 1 := ⟨d - 1, by omega⟩
  have h1 := h0.1.2.1
  refine r_entry mx144 rfl ?_
  refine r_loadI a144_0 rfl ?_
  refine r_pushI a144_1 ?_
  refine r_pushI a144_2 ?_
  refine r_callI_3 a144_4 (Nat.le_of_ble_eq_true rfl) (le_mx mx119 (Nat.le_of_ble_eq_true rfl)) (Or.inl rfl) (c_Mo_in e z m a 0 9) (fun x_4 m_4 h_4 => ?_)
  obtain ⟨hm_4, h_4⟩ := h_4
  rw [hm_4]
  refine r_ifne a144_7 (fun h_7 => ?_) (fun h_7 => ?_)
  · refine r_loadA a144_13 rfl (by decide) ?_
    refine r_getR a144_14 ty121 rf121_1 (by decide) ?_
    refine r_pushI a144_17 ?_
    refine r_iald a144_18 ty122 (by omega) ?_
    refine r_pushI a144_19 ?_
    refine r_icne a144_20 (fun h_20 => ?_) (fun h_20 => ?_)
    · refine r_loadA a144_26 rfl (by decide) ?_
      refine r_getR a144_27 ty121 rf121_1 (by decide) ?_
      refine r_pushI a144_30 ?_
      refine r_loadA a144_32 rfl (by decide) ?_
      refine r_getR a144_33 ty121 rf121_1 (by decide) ?_
      refine r_pushI a144_36 ?_
      refine r_iald a144_37 ty122 (by omega) ?_
      refine r_add a144_38 (by omega) ?_
      refine r_loadI a144_39 rfl ?_
      refine r_iast a144_40 ty122 (by omega) ?_
      refine r_loadA a144_41 rfl (by decide) ?_
      refine r_getR a144_42 ty121 rf121_1 (by decide) ?_
      refine r_pushI a144_45 ?_
      refine r_dup2 a144_46 rfl rfl ?_
      refine r_iald a144_47 ty122 (by omega) ?_
      rw [up2_k (show (1 : Int) ≠ 64 + m 122 1 by omega)]
      refine r_pushI a144_48 ?_
      refine r_add a144_49 (by omega) ?_
      refine r_iast a144_50 ty122 (by omega) ?_
      refine r_loadA a144_51 rfl (by decide) ?_
      refine r_getR a144_52 ty121 rf121_1 (by decide) ?_
      refine r_pushI a144_55 ?_
      refine r_iald a144_56 ty122 (by omega) ?_
      rw [up2_s]
      refine r_pushI a144_57 ?_
      refine r_sub a144_58 (by omega) ?_
      refine r_retIq a144_59 ?_
      refine Or.inr (Or.inr ⟨by omega, by omega, by omega, ?_⟩)
      rw [up2_C, up2_C, upC_s, upC_upC]
    · refine r_pushI a144_23 ?_
      refine r_retIq a144_25 ?_
      exact Or.inr (Or.inl ⟨by omega, by omega, rfl, rfl⟩)
  · refine r_pushI a144_10 ?_
    refine r_retIq a144_12 ?_
    exact Or.inl ⟨by omega, rfl, rfl⟩
theorem c_Mo_skill (d z : Nat) (m : XM) (g n : Int) (hd : 2 ≤ d) (h0 : okS (m 122)) : CI d k_Mo_skill z m [vR 121, vI g, vI n] (fun x m' => (¬ (0 ≤ g ∧ g < m 122 1) ∧ x = -1 ∧ m' = m) ∨ ((0 ≤ g ∧ g < m 122 1) ∧ ¬ (-1 ≤ n ∧ n ≤ 9) ∧ x = -2 ∧ m' = m) ∨ ((0 ≤ g ∧ g < m 122 1) ∧ n = -1 ∧ x = m 122 (64 + g) ∧ m' = m) ∨ ((0 ≤ g ∧ g < m 122 1) ∧ (0 ≤ n ∧ n ≤ 9) ∧ x = m 122 (64 + g) ∧ m' = upC m 122 (upi (m 122) (64 + g) n))) := by
  obtain ⟨e, rfl⟩ : ∃ e, d = e + 1 := ⟨d - 1, by omega⟩
  have h1 := h0.1.2.1
  refine r_entry mx145 rfl ?_
  refine r_loadA a145_0 rfl (by decide) ?_
  refine r_loadI a145_1 rfl ?_
  refine r_callI_2 a145_2 (Nat.le_of_ble_eq_true rfl) (le_mx mx122 (Nat.le_of_ble_eq_true rfl)) (Or.inr (recv_ok ty121 ow122 (by decide))) (c_Mo_isSkier e z m g (by omega) h0) (fun x_2 m_2 h_2 => ?_)
  obtain ⟨hm_2, h_2⟩ := h_2
  rw [hm_2]
  refine r_ifne a145_5 (fun h_5 => ?_) (fun h_5 => ?_)
  · refine r_loadI a145_10 rfl ?_
    refine r_pushI a145_11 ?_
    refine r_pushI a145_12 ?_
    refine r_callI_3 a145_14 (Nat.le_of_ble_eq_true rfl) (le_mx mx119 (Nat.le_of_ble_eq_true rfl)) (Or.inl rfl) (c_Mo_in e z m n (-1) 9) (fun x_14 m_14 h_14 => ?_)
    obtain ⟨hm_14, h_14⟩ := h_14
    rw [hm_14]
    refine r_ifne a145_17 (fun h_17 => ?_) (fun h_17 => ?_)
    · refine r_loadA a145_23 rfl (by decide) ?_
      refine r_getR a145_24 ty121 rf121_1 (by decide) ?_
      refine r_pushI a145_27 ?_
      refine r_loadI a145_29 rfl ?_
      refine r_add a145_30 (by omega) ?_
      refine r_iald a145_31 ty122 (by omega) ?_
      refine r_storeI_3 a145_32 rfl ?_
      refine r_loadA a145_33 rfl (by decide) ?_
      refine r_getR a145_34 ty121 rf121_1 (by decide) ?_
      refine r_pushI a145_37 ?_
      refine r_loadI a145_39 rfl ?_
      refine r_add a145_40 (by omega) ?_
      refine r_loadI a145_41 rfl ?_
      refine r_pushI a145_42 ?_
      refine r_icne a145_43 (fun h_43 => ?_) (fun h_43 => ?_)
      · refine r_loadI a145_50 rfl ?_
        refine r_iast a145_51 ty122 (by omega) ?_
        refine r_loadI a145_52 rfl ?_
        refine r_retIq a145_53 ?_
        by_cases q : n = -1
        · refine Or.inr (Or.inr (Or.inl ⟨by omega, q, rfl, ?_⟩))
          have q2 : ∀ f : Int → Int, upi f (64 + g) (f (64 + g)) = f := fun f => by funext j; rw [upi_at]; by_cases w : j = 64 + g; rw [if_pos w, w]; rw [if_neg w]
          first | (rw [up2_C, q2, upC_id]; done) | exact absurd q (by omega)
        · first | exact Or.inr (Or.inr (Or.inr ⟨by omega, by omega, rfl, rfl⟩)) | exact absurd (by omega) q
      · refine r_loadI a145_46 rfl ?_
        refine r_goto a145_47 ?_
        refine r_iast a145_51 ty122 (by omega) ?_
        refine r_loadI a145_52 rfl ?_
        refine r_retIq a145_53 ?_
        by_cases q : n = -1
        · refine Or.inr (Or.inr (Or.inl ⟨by omega, q, rfl, ?_⟩))
          have q2 : ∀ f : Int → Int, upi f (64 + g) (f (64 + g)) = f := fun f => by funext j; rw [upi_at]; by_cases w : j = 64 + g; rw [if_pos w, w]; rw [if_neg w]
          first | (rw [up2_C, q2, upC_id]; done) | exact absurd q (by omega)
        · first | exact Or.inr (Or.inr (Or.inr ⟨by omega, by omega, rfl, rfl⟩)) | exact absurd (by omega) q
    · refine r_pushI a145_20 ?_
      refine r_retIq a145_22 ?_
      exact Or.inr (Or.inl ⟨by omega, by omega, rfl, rfl⟩)
  · refine r_pushI a145_8 ?_
    refine r_retIq a145_9 ?_
    exact Or.inl ⟨by omega, rfl, rfl⟩
theorem c_Mo_tellsOf (d z : Nat) (m : XM) (w v : Int) (h0 : okS (m 122)) (hw : w = 199 ∨ w = 204 ∨ w = 209) : CI d k_Mo_tellsOf z m [vR 121, vI w, vI v] (fun x m' => m' = m ∧ ((m 122 6 = -1 ∧ x = v) ∨ (0 ≤ m 122 6 ∧ x = m 122 (w + m 122 6)))) := by
  have h1 := h0.1.2.2.1
  have h6 := h0.1.2.2.2.2.2.2.1
  refine r_entry mx137 rfl ?_
  refine r_loadA a137_0 rfl (by decide) ?_
  refine r_getR a137_1 ty121 rf121_1 (by decide) ?_
  refine r_pushI a137_4 ?_
  refine r_iald a137_6 ty122 (by omega) ?_
  refine r_pushI a137_7 ?_
  refine r_icne a137_8 (fun h_8 => ?_) (fun h_8 => ?_)
  · refine r_loadA a137_15 rfl (by decide) ?_
    refine r_getR a137_16 ty121 rf121_1 (by decide) ?_
    refine r_loadI a137_19 rfl ?_
    refine r_loadA a137_20 rfl (by decide) ?_
    refine r_getR a137_21 ty121 rf121_1 (by decide) ?_
    refine r_pushI a137_24 ?_
    refine r_iald a137_26 ty122 (by omega) ?_
    refine r_add a137_27 (by omega) ?_
    refine r_iald a137_28 ty122 (by omega) ?_
    refine r_retIq a137_29 ?_
    exact ⟨rfl, by first | exact Or.inl ⟨by omega, rfl⟩ | exact Or.inr ⟨by omega, rfl⟩⟩
  · refine r_loadI a137_11 rfl ?_
    refine r_goto a137_12 ?_
    refine r_retIq a137_29 ?_
    exact ⟨rfl, by first | exact Or.inl ⟨by omega, rfl⟩ | exact Or.inr ⟨by omega, rfl⟩⟩
theorem c_Mo_told (d z : Nat) (m : XM) (w : Int) (hd : 1 ≤ d) (h0 : okS (m 122)) : CI d k_Mo_told z m [vR 121, vI w] (fun x m' => m' = m ∧ ((w = 0 ∧ x = m 122 7) ∨ (w = 1 ∧ ((m 122 6 = -1 ∧ x = 0) ∨ (0 ≤ m 122 6 ∧ x = m 122 (199 + m 122 6)))) ∨ (w = 2 ∧ ((m 122 6 = -1 ∧ x = 0) ∨ (0 ≤ m 122 6 ∧ x = m 122 (204 + m 122 6)))) ∨ (w ≠ 0 ∧ w ≠ 1 ∧ w ≠ 2 ∧ x = -1))) := by
  obtain ⟨e, rfl⟩ : ∃ e, d = e + 1 := ⟨d - 1, by omega⟩
  refine r_entry mx146 rfl ?_
  refine r_loadI a146_0 rfl ?_
  refine r_ifne a146_1 (fun h_1 => ?_) (fun h_1 => ?_)
  · refine r_loadI a146_14 rfl ?_
    refine r_pushI a146_15 ?_
    refine r_icne a146_16 (fun h_16 => ?_) (fun h_16 => ?_)
    · refine r_loadI a146_30 rfl ?_
      refine r_pushI a146_31 ?_
      refine r_icne a146_32 (fun h_32 => ?_) (fun h_32 => ?_)
      · refine r_pushI a146_46 ?_
        refine r_retIq a146_47 ?_
        exact ⟨rfl, by omega⟩
      · refine r_loadA a146_35 rfl (by decide) ?_
        refine r_pushI a146_36 ?_
        refine r_pushI a146_39 ?_
        refine r_callI_3 a146_40 (Nat.le_of_ble_eq_true rfl) (le_mx mx137 (Nat.le_of_ble_eq_true rfl)) (Or.inr (recv_ok ty121 ow137 (by decide))) (c_Mo_tellsOf e z m 204 0 h0 (by omega)) (fun x_40 m_40 h_40 => ?_)
        obtain ⟨hm_40, h_40⟩ := h_40
        rw [hm_40]
        refine r_goto a146_43 ?_
        refine r_retIq a146_47 ?_
        exact ⟨rfl, by omega⟩
    · refine r_loadA a146_19 rfl (by decide) ?_
      refine r_pushI a146_20 ?_
      refine r_pushI a146_23 ?_
      refine r_callI_3 a146_24 (Nat.le_of_ble_eq_true rfl) (le_mx mx137 (Nat.le_of_ble_eq_true rfl)) (Or.inr (recv_ok ty121 ow137 (by decide))) (c_Mo_tellsOf e z m 199 0 h0 (by omega)) (fun x_24 m_24 h_24 => ?_)
      obtain ⟨hm_24, h_24⟩ := h_24
      rw [hm_24]
      refine r_goto a146_27 ?_
      refine r_retIq a146_47 ?_
      exact ⟨rfl, by omega⟩
  · refine r_loadA a146_4 rfl (by decide) ?_
    refine r_getR a146_5 ty121 rf121_1 (by decide) ?_
    refine r_pushI a146_8 ?_
    refine r_iald a146_10 ty122 (by omega) ?_
    refine r_goto a146_11 ?_
    refine r_retIq a146_47 ?_
    exact ⟨rfl, by omega⟩
theorem c_Mo_see (d z : Nat) (m : XM) (g t : Int) (hd : 2 ≤ d) (h0 : okS (m 122)) : CI d k_Mo_see z m [vR 121, vI g, vI t] (fun x m' => (g = -1 ∧ x = 0 ∧ m' = upC m 122 (upi (m 122) 3 0)) ∨ (g ≠ -1 ∧ ¬ (0 ≤ g ∧ g < m 122 0) ∧ x = -1 ∧ m' = m) ∨ ((0 ≤ g ∧ g < m 122 0) ∧ ¬ (0 ≤ t ∧ t ≤ 9999) ∧ x = -2 ∧ m' = m) ∨ ((0 ≤ g ∧ g < m 122 0) ∧ (0 ≤ t ∧ t ≤ 9999) ∧ m 122 3 = 7 ∧ x = -4 ∧ m' = m) ∨
    ((0 ≤ g ∧ g < m 122 0) ∧ (0 ≤ t ∧ t ≤ 9999) ∧ m 122 3 < 7 ∧ x = m 122 3 + 1 ∧ m' = upC m 122 (upi (upi (upi (m 122) (69 + m 122 3) g) (76 + m 122 3) t) 3 (m 122 3 + 1)))) := by
  obtain ⟨e, rfl⟩ : ∃ e, d = e + 1 := ⟨d - 1, by omega⟩
  have h1 := h0.1.2.2.2.1
  refine r_entry mx189 rfl ?_
  refine r_loadI a189_0 rfl ?_
  refine r_pushI a189_1 ?_
  refine r_icne a189_2 (fun h_2 => ?_) (fun h_2 => ?_)
  · refine r_loadA a189_14 rfl (by decide) ?_
    refine r_loadI a189_15 rfl ?_
    refine r_callI_2 a189_16 (Nat.le_of_ble_eq_true rfl) (le_mx mx121 (Nat.le_of_ble_eq_true rfl)) (Or.inr (recv_ok ty121 ow121 (by decide))) (c_Mo_isGate e z m g (by omega) h0) (fun x_16 m_16 h_16 => ?_)
    obtain ⟨hm_16, h_16⟩ := h_16
    rw [hm_16]
    refine r_ifne a189_19 (fun h_19 => ?_) (fun h_19 => ?_)
    · refine r_loadI a189_24 rfl ?_
      refine r_pushI a189_25 ?_
      refine r_pushI a189_26 ?_
      refine r_callI_3 a189_29 (Nat.le_of_ble_eq_true rfl) (le_mx mx119 (Nat.le_of_ble_eq_true rfl)) (Or.inl rfl) (c_Mo_in e z m t 0 9999) (fun x_29 m_29 h_29 => ?_)
      obtain ⟨hm_29, h_29⟩ := h_29
      rw [hm_29]
      refine r_ifne a189_32 (fun h_32 => ?_) (fun h_32 => ?_)
      · refine r_loadA a189_38 rfl (by decide) ?_
        refine r_getR a189_39 ty121 rf121_1 (by decide) ?_
        refine r_pushI a189_42 ?_
        refine r_iald a189_43 ty122 (by omega) ?_
        refine r_pushI a189_44 ?_
        refine r_icne a189_46 (fun h_46 => ?_) (fun h_46 => ?_)
        · refine r_loadA a189_52 rfl (by decide) ?_
          refine r_getR a189_53 ty121 rf121_1 (by decide) ?_
          refine r_pushI a189_56 ?_
          refine r_loadA a189_58 rfl (by decide) ?_
          refine r_getR a189_59 ty121 rf121_1 (by decide) ?_
          refine r_pushI a189_62 ?_
          refine r_iald a189_63 ty122 (by omega) ?_
          refine r_add a189_64 (by omega) ?_
          refine r_loadI a189_65 rfl ?_
          refine r_iast a189_66 ty122 (by omega) ?_
          refine r_loadA a189_67 rfl (by decide) ?_
          refine r_getR a189_68 ty121 rf121_1 (by decide) ?_
          refine r_pushI a189_71 ?_
          refine r_loadA a189_73 rfl (by decide) ?_
          refine r_getR a189_74 ty121 rf121_1 (by decide) ?_
          refine r_pushI a189_77 ?_
          refine r_iald a189_78 ty122 (by omega) ?_
          rw [up2_k (show (3 : Int) ≠ 69 + m 122 3 by omega)]
          refine r_add a189_79 (by omega) ?_
          refine r_loadI a189_80 rfl ?_
          refine r_iast a189_81 ty122 (by omega) ?_
          refine r_loadA a189_82 rfl (by decide) ?_
          refine r_getR a189_83 ty121 rf121_1 (by decide) ?_
          refine r_pushI a189_86 ?_
          refine r_dup2 a189_87 rfl rfl ?_
          refine r_iald a189_88 ty122 (by omega) ?_
          rw [up2_k (show (3 : Int) ≠ 76 + m 122 3 by omega), up2_k (show (3 : Int) ≠ 69 + m 122 3 by omega)]
          refine r_pushI a189_89 ?_
          refine r_add a189_90 (by omega) ?_
          refine r_iast a189_91 ty122 (by omega) ?_
          refine r_loadA a189_92 rfl (by decide) ?_
          refine r_getR a189_93 ty121 rf121_1 (by decide) ?_
          refine r_pushI a189_96 ?_
          refine r_iald a189_97 ty122 (by omega) ?_
          rw [up2_s]
          refine r_retIq a189_98 ?_
          refine Or.inr (Or.inr (Or.inr (Or.inr ⟨by omega, by omega, by omega, rfl, ?_⟩)))
          simp only [up2_C, upC_s, upC_upC]
        · refine r_pushI a189_49 ?_
          refine r_retIq a189_51 ?_
          exact Or.inr (Or.inr (Or.inr (Or.inl ⟨by omega, by omega, by omega, rfl, rfl⟩)))
      · refine r_pushI a189_35 ?_
        refine r_retIq a189_37 ?_
        exact Or.inr (Or.inr (Or.inl ⟨by omega, by omega, rfl, rfl⟩))
    · refine r_pushI a189_22 ?_
      refine r_retIq a189_23 ?_
      exact Or.inr (Or.inl ⟨by omega, by omega, rfl, rfl⟩)
  · refine r_loadA a189_5 rfl (by decide) ?_
    refine r_getR a189_6 ty121 rf121_1 (by decide) ?_
    refine r_pushI a189_9 ?_
    refine r_pushI a189_10 ?_
    refine r_iast a189_11 ty122 (by omega) ?_
    refine r_pushI a189_12 ?_
    refine r_retIq a189_13 ?_
    exact Or.inl ⟨by omega, rfl, rfl⟩
theorem c_Mo_book (d z : Nat) (m : XM) (g t : Int) (hd : 2 ≤ d) (h0 : okS (m 122)) : CI d k_Mo_book z m [vR 121, vI g, vI t] (fun x m' => (g = -1 ∧ x = 0 ∧ m' = upC m 122 (upi (m 122) 4 0)) ∨ (g ≠ -1 ∧ ¬ (0 ≤ g ∧ g < m 122 1) ∧ x = -1 ∧ m' = m) ∨ ((0 ≤ g ∧ g < m 122 1) ∧ ¬ (0 ≤ t ∧ t ≤ 9999) ∧ x = -2 ∧ m' = m) ∨ ((0 ≤ g ∧ g < m 122 1) ∧ (0 ≤ t ∧ t ≤ 9999) ∧ m 122 4 = 8 ∧ x = -4 ∧ m' = m) ∨
    ((0 ≤ g ∧ g < m 122 1) ∧ (0 ≤ t ∧ t ≤ 9999) ∧ m 122 4 < 8 ∧ x = m 122 4 + 1 ∧ m' = upC m 122 (upi (upi (upi (m 122) (83 + m 122 4) g) (91 + m 122 4) t) 4 (m 122 4 + 1)))) := by
  obtain ⟨e, rfl⟩ : ∃ e, d = e + 1 := ⟨d - 1, by omega⟩
  have h1 := h0.1.2.2.2.2.1
  refine r_entry mx193 rfl ?_
  refine r_loadI a193_0 rfl ?_
  refine r_pushI a193_1 ?_
  refine r_icne a193_2 (fun h_2 => ?_) (fun h_2 => ?_)
  · refine r_loadA a193_14 rfl (by decide) ?_
    refine r_loadI a193_15 rfl ?_
    refine r_callI_2 a193_16 (Nat.le_of_ble_eq_true rfl) (le_mx mx122 (Nat.le_of_ble_eq_true rfl)) (Or.inr (recv_ok ty121 ow122 (by decide))) (c_Mo_isSkier e z m g (by omega) h0) (fun x_16 m_16 h_16 => ?_)
    obtain ⟨hm_16, h_16⟩ := h_16
    rw [hm_16]
    refine r_ifne a193_19 (fun h_19 => ?_) (fun h_19 => ?_)
    · refine r_loadI a193_24 rfl ?_
      refine r_pushI a193_25 ?_
      refine r_pushI a193_26 ?_
      refine r_callI_3 a193_29 (Nat.le_of_ble_eq_true rfl) (le_mx mx119 (Nat.le_of_ble_eq_true rfl)) (Or.inl rfl) (c_Mo_in e z m t 0 9999) (fun x_29 m_29 h_29 => ?_)
      obtain ⟨hm_29, h_29⟩ := h_29
      rw [hm_29]
      refine r_ifne a193_32 (fun h_32 => ?_) (fun h_32 => ?_)
      · refine r_loadA a193_38 rfl (by decide) ?_
        refine r_getR a193_39 ty121 rf121_1 (by decide) ?_
        refine r_pushI a193_42 ?_
        refine r_iald a193_43 ty122 (by omega) ?_
        refine r_pushI a193_44 ?_
        refine r_icne a193_46 (fun h_46 => ?_) (fun h_46 => ?_)
        · refine r_loadA a193_52 rfl (by decide) ?_
          refine r_getR a193_53 ty121 rf121_1 (by decide) ?_
          refine r_pushI a193_56 ?_
          refine r_loadA a193_58 rfl (by decide) ?_
          refine r_getR a193_59 ty121 rf121_1 (by decide) ?_
          refine r_pushI a193_62 ?_
          refine r_iald a193_63 ty122 (by omega) ?_
          refine r_add a193_64 (by omega) ?_
          refine r_loadI a193_65 rfl ?_
          refine r_iast a193_66 ty122 (by omega) ?_
          refine r_loadA a193_67 rfl (by decide) ?_
          refine r_getR a193_68 ty121 rf121_1 (by decide) ?_
          refine r_pushI a193_71 ?_
          refine r_loadA a193_73 rfl (by decide) ?_
          refine r_getR a193_74 ty121 rf121_1 (by decide) ?_
          refine r_pushI a193_77 ?_
          refine r_iald a193_78 ty122 (by omega) ?_
          rw [up2_k (show (4 : Int) ≠ 83 + m 122 4 by omega)]
          refine r_add a193_79 (by omega) ?_
          refine r_loadI a193_80 rfl ?_
          refine r_iast a193_81 ty122 (by omega) ?_
          refine r_loadA a193_82 rfl (by decide) ?_
          refine r_getR a193_83 ty121 rf121_1 (by decide) ?_
          refine r_pushI a193_86 ?_
          refine r_dup2 a193_87 rfl rfl ?_
          refine r_iald a193_88 ty122 (by omega) ?_
          rw [up2_k (show (4 : Int) ≠ 91 + m 122 4 by omega), up2_k (show (4 : Int) ≠ 83 + m 122 4 by omega)]
          refine r_pushI a193_89 ?_
          refine r_add a193_90 (by omega) ?_
          refine r_iast a193_91 ty122 (by omega) ?_
          refine r_loadA a193_92 rfl (by decide) ?_
          refine r_getR a193_93 ty121 rf121_1 (by decide) ?_
          refine r_pushI a193_96 ?_
          refine r_iald a193_97 ty122 (by omega) ?_
          rw [up2_s]
          refine r_retIq a193_98 ?_
          refine Or.inr (Or.inr (Or.inr (Or.inr ⟨by omega, by omega, by omega, rfl, ?_⟩)))
          simp only [up2_C, upC_s, upC_upC]
        · refine r_pushI a193_49 ?_
          refine r_retIq a193_51 ?_
          exact Or.inr (Or.inr (Or.inr (Or.inl ⟨by omega, by omega, by omega, rfl, rfl⟩)))
      · refine r_pushI a193_35 ?_
        refine r_retIq a193_37 ?_
        exact Or.inr (Or.inr (Or.inl ⟨by omega, by omega, rfl, rfl⟩))
    · refine r_pushI a193_22 ?_
      refine r_retIq a193_23 ?_
      exact Or.inr (Or.inl ⟨by omega, by omega, rfl, rfl⟩)
  · refine r_loadA a193_5 rfl (by decide) ?_
    refine r_getR a193_6 ty121 rf121_1 (by decide) ?_
    refine r_pushI a193_9 ?_
    refine r_pushI a193_10 ?_
    refine r_iast a193_11 ty122 (by omega) ?_
    refine r_pushI a193_12 ?_
    refine r_retIq a193_13 ?_
    exact Or.inl ⟨by omega, rfl, rfl⟩
theorem l_Mo_image {d z : Nat} {m : XM} {Q : Option XV → XH → Prop}
    (hend : RZ d k_Mo_image 27 [vR 121, vI 914] [] (zH z (upC m 123 (fun j => if 0 ≤ j ∧ j < 914 then m 122 j else m 123 j))) Q) :
    ∀ (n : Nat) (k : Int), 914 < k + n → 0 ≤ k → k ≤ 914 → RZ d k_Mo_image 2 [vR 121, vI k] [] (zH z (upC m 123 (fun j => if 0 ≤ j ∧ j < k then m 122 j else m 123 j))) Q := by
  intro n
  induction n with
  | zero => intro k h1 h2 h3; omega
  | succ n ih =>
    intro k h1 h2 h3
    refine r_loadI a206_2 rfl ?_
    refine r_pushI a206_3 ?_
    refine r_icge a206_6 (fun h_6 => ?_) (fun h_6 => ?_)
    · obtain rfl : k = 914 := by omega
      exact hend
    · refine r_loadA a206_9 rfl (by decide) ?_
      refine r_getR a206_10 ty121 rf121_2 (by decide) ?_
      refine r_loadI a206_13 rfl ?_
      refine r_loadA a206_14 rfl (by decide) ?_
      refine r_getR a206_15 ty121 rf121_1 (by decide) ?_
      refine r_loadI a206_18 rfl ?_
      refine r_iald a206_19 ty122 (by omega) ?_
      refine r_iast a206_20 ty123 (by omega) ?_
      refine r_iinc_1 a206_21 rfl (by omega) ?_
      refine r_goto a206_24 ?_
      have e1 : up2 (upC m 123 (fun j => if 0 ≤ j ∧ j < k then m 122 j else m 123 j)) 123 k (upC m 123 (fun j => if 0 ≤ j ∧ j < k then m 122 j else m 123 j) 122 k) = upC m 123 (fun j => if 0 ≤ j ∧ j < k + 1 then m 122 j else m 123 j) := by
        rw [up2_C, upC_s, upC_upC, upC_n (by decide)]
        congr 1
        funext j
        rw [upi_at]
        by_cases q : j = k
        · rw [if_pos q, if_pos (by omega), q]
        · rw [if_neg q]
          by_cases q2 : 0 ≤ j ∧ j < k
          · rw [if_pos q2, if_pos (by omega)]
          · rw [if_neg q2, if_neg (by omega)]
      rw [e1]
      exact ih (k + 1) (by omega) (by omega) (by omega)
theorem c_Mo_image (d z : Nat) (m : XM) : CI d k_Mo_image z m [vR 121] (fun x m' => x = m 122 0 ∧ m' = upC (upC m 123 (fun j => if 0 ≤ j ∧ j < 914 then m 122 j else m 123 j)) 121 (upi (m 121) 3 1)) := by
  refine r_entry mx206 rfl ?_
  refine r_pushI a206_0 ?_
  refine r_storeI_1 a206_1 rfl ?_
  have e0 : zH z m = zH z (upC m 123 (fun j => if 0 ≤ j ∧ j < 0 then m 122 j else m 123 j)) := by
    have : (fun j => if 0 ≤ j ∧ j < 0 then m 122 j else m 123 j) = m 123 := by funext j; rw [if_neg (by omega)]
    rw [this, upC_id]
  rw [e0]
  refine l_Mo_image (m := m) ?_ 915 0 (by omega) (by omega) (by omega)
  refine r_loadA a206_27 rfl (by decide) ?_
  refine r_pushI a206_28 ?_
  refine r_putZ (ki := 3) a206_29 ty121 rfl (by omega) ?_
  refine r_loadA a206_32 rfl (by decide) ?_
  refine r_getR a206_33 ty121 rf121_1 (by decide) ?_
  refine r_pushI a206_36 ?_
  refine r_iald a206_37 ty122 (by omega) ?_
  refine r_retIq a206_38 ?_
  exact ⟨by rw [up2_c (by decide), upC_n (by decide)], by rw [up2_C, upC_n (by decide)]⟩
theorem l_Mo_undo {d z : Nat} {m : XM} {Q : Option XV → XH → Prop}
    (hend : RZ d k_Mo_undo 37 [vR 121, vI 914] [] (zH z (upC m 122 (fun j => if 0 ≤ j ∧ j < 914 then m 123 j else m 122 j))) Q) :
    ∀ (n : Nat) (k : Int), 914 < k + n → 0 ≤ k → k ≤ 914 → RZ d k_Mo_undo 12 [vR 121, vI k] [] (zH z (upC m 122 (fun j => if 0 ≤ j ∧ j < k then m 123 j else m 122 j))) Q := by
  intro n
  induction n with
  | zero => intro k h1 h2 h3; omega
  | succ n ih =>
    intro k h1 h2 h3
    refine r_loadI a207_12 rfl ?_
    refine r_pushI a207_13 ?_
    refine r_icge a207_16 (fun h_16 => ?_) (fun h_16 => ?_)
    · obtain rfl : k = 914 := by omega
      exact hend
    · refine r_loadA a207_19 rfl (by decide) ?_
      refine r_getR a207_20 ty121 rf121_1 (by decide) ?_
      refine r_loadI a207_23 rfl ?_
      refine r_loadA a207_24 rfl (by decide) ?_
      refine r_getR a207_25 ty121 rf121_2 (by decide) ?_
      refine r_loadI a207_28 rfl ?_
      refine r_iald a207_29 ty123 (by omega) ?_
      refine r_iast a207_30 ty122 (by omega) ?_
      refine r_iinc_1 a207_31 rfl (by omega) ?_
      refine r_goto a207_34 ?_
      have e1 : up2 (upC m 122 (fun j => if 0 ≤ j ∧ j < k then m 123 j else m 122 j)) 122 k (upC m 122 (fun j => if 0 ≤ j ∧ j < k then m 123 j else m 122 j) 123 k) = upC m 122 (fun j => if 0 ≤ j ∧ j < k + 1 then m 123 j else m 122 j) := by
        rw [up2_C, upC_s, upC_upC, upC_n (by decide)]
        congr 1
        funext j
        rw [upi_at]
        by_cases q : j = k
        · rw [if_pos q, if_pos (by omega), q]
        · rw [if_neg q]
          by_cases q2 : 0 ≤ j ∧ j < k
          · rw [if_pos q2, if_pos (by omega)]
          · rw [if_neg q2, if_neg (by omega)]
      rw [e1]
      exact ih (k + 1) (by omega) (by omega) (by omega)
theorem c_Mo_undo (d z : Nat) (m : XM) : CI d k_Mo_undo z m [vR 121] (fun x m' => (m 121 3 = 0 ∧ x = -3 ∧ m' = m) ∨ (m 121 3 ≠ 0 ∧ x = m 123 0 ∧ m' = upC m 122 (fun j => if 0 ≤ j ∧ j < 914 then m 123 j else m 122 j))) := by
  refine r_entry mx207 rfl ?_
  refine r_loadA a207_0 rfl (by decide) ?_
  refine r_getI (ki := 3) a207_1 ty121 rfl ?_
  refine r_ifne a207_4 (fun h_4 => ?_) (fun h_4 => ?_)
  · refine r_pushI a207_10 ?_
    refine r_storeI_1 a207_11 rfl ?_
    have e0 : zH z m = zH z (upC m 122 (fun j => if 0 ≤ j ∧ j < 0 then m 123 j else m 122 j)) := by
      have : (fun j => if 0 ≤ j ∧ j < 0 then m 123 j else m 122 j) = m 122 := by funext j; rw [if_neg (by omega)]
      rw [this, upC_id]
    rw [e0]
    refine l_Mo_undo (m := m) ?_ 915 0 (by omega) (by omega) (by omega)
    refine r_loadA a207_37 rfl (by decide) ?_
    refine r_getR a207_38 ty121 rf121_1 (by decide) ?_
    refine r_pushI a207_41 ?_
    refine r_iald a207_42 ty122 (by omega) ?_
    refine r_retIq a207_43 ?_
    exact Or.inr ⟨by omega, by rw [upC_s, if_pos (by omega)], rfl⟩
  · refine r_pushI a207_7 ?_
    refine r_retIq a207_9 ?_
    exact Or.inl ⟨by omega, rfl, rfl⟩
theorem c_Mo_isUnder (d z : Nat) (m : XM) (kd k : Int) (hk : 0 ≤ kd ∧ kd ≤ 6) : CI d k_Mo_isUnder z m [vI kd, vI k] (fun x m' => m' = m ∧ ((x = 1 ∧ (k = 0 ∨ k = kd ∨ (0 < k ∧ k < 4 ∧ kd = k + 3))) ∨ (x = 0 ∧ ¬ (k = 0 ∨ k = kd ∨ (0 < k ∧ k < 4 ∧ kd = k + 3))))) := by
  refine r_entry mx196 rfl ?_
  refine r_loadI a196_0 rfl ?_
  refine r_ifeq a196_1 (fun h_1 => ?_) (fun h_1 => ?_)
  · refine r_pushI a196_25 ?_
    refine r_goto a196_26 ?_
    refine r_retZq a196_30 (by omega) ?_
    exact ⟨rfl, by omega⟩
  · refine r_loadI a196_4 rfl ?_
    refine r_loadI a196_5 rfl ?_
    refine r_iceq a196_6 (fun h_6 => ?_) (fun h_6 => ?_)
    · refine r_pushI a196_25 ?_
      refine r_goto a196_26 ?_
      refine r_retZq a196_30 (by omega) ?_
      exact ⟨rfl, by omega⟩
    · refine r_loadI a196_9 rfl ?_
      refine r_ifle a196_10 (fun h_10 => ?_) (fun h_10 => ?_)
      · refine r_pushI a196_29 ?_
        refine r_retZq a196_30 (by omega) ?_
        exact ⟨rfl, by omega⟩
      · refine r_loadI a196_13 rfl ?_
        refine r_pushI a196_14 ?_
        refine r_icge a196_15 (fun h_15 => ?_) (fun h_15 => ?_)
        · refine r_pushI a196_29 ?_
          refine r_retZq a196_30 (by omega) ?_
          exact ⟨rfl, by omega⟩
        · refine r_loadI a196_18 rfl ?_
          refine r_loadI a196_19 rfl ?_
          refine r_pushI a196_20 ?_
          refine r_add a196_21 (by omega) ?_
          refine r_icne a196_22 (fun h_22 => ?_) (fun h_22 => ?_)
          · refine r_pushI a196_29 ?_
            refine r_retZq a196_30 (by omega) ?_
            exact ⟨rfl, by omega⟩
          · refine r_pushI a196_25 ?_
            refine r_goto a196_26 ?_
            refine r_retZq a196_30 (by omega) ?_
            exact ⟨rfl, by omega⟩
theorem c_Mo_as (d z : Nat) (m : XM) (g k : Int) (hd : 2 ≤ d) (h0 : okS (m 122)) : CI d k_Mo_as z m [vR 121, vI g, vI k] (fun x m' => m' = m ∧ ((¬ ((0 ≤ g ∧ g < m 122 0) ∧ 0 ≤ k ∧ k ≤ 6) ∧ x = -1) ∨ (((0 ≤ g ∧ g < m 122 0) ∧ 0 ≤ k ∧ k ≤ 6) ∧ (k = 0 ∨ k = m 122 (8 + g) ∨ (0 < k ∧ k < 4 ∧ m 122 (8 + g) = k + 3)) ∧ x = m 122 (15 + g)) ∨ (((0 ≤ g ∧ g < m 122 0) ∧ 0 ≤ k ∧ k ≤ 6) ∧ ¬ (k = 0 ∨ k = m 122 (8 + g) ∨ (0 < k ∧ k < 4 ∧ m 122 (8 + g) = k + 3)) ∧ x = -6))) := by
  obtain ⟨e, rfl⟩ : ∃ e, d = e + 1 := ⟨d - 1, by omega⟩
  have h1 := h0.1.1
  refine r_entry mx205 rfl ?_
  refine r_loadA a205_0 rfl (by decide) ?_
  refine r_loadI a205_1 rfl ?_
  refine r_callI_2 a205_2 (Nat.le_of_ble_eq_true rfl) (le_mx mx121 (Nat.le_of_ble_eq_true rfl)) (Or.inr (recv_ok ty121 ow121 (by decide))) (c_Mo_isGate e z m g (by omega) h0) (fun x_2 m_2 h_2 => ?_)
  obtain ⟨hm_2, h_2⟩ := h_2
  rw [hm_2]
  refine r_ifeq a205_5 (fun h_5 => ?_) (fun h_5 => ?_)
  · refine r_pushI a205_18 ?_
    refine r_retIq a205_19 ?_
    exact ⟨rfl, by omega⟩
  · refine r_loadI a205_8 rfl ?_
    refine r_pushI a205_9 ?_
    refine r_pushI a205_10 ?_
    refine r_callI_3 a205_12 (Nat.le_of_ble_eq_true rfl) (le_mx mx119 (Nat.le_of_ble_eq_true rfl)) (Or.inl rfl) (c_Mo_in e z m k 0 6) (fun x_12 m_12 h_12 => ?_)
    obtain ⟨hm_12, h_12⟩ := h_12
    rw [hm_12]
    refine r_ifne a205_15 (fun h_15 => ?_) (fun h_15 => ?_)
    · refine r_loadA a205_20 rfl (by decide) ?_
      refine r_getR a205_21 ty121 rf121_1 (by decide) ?_
      refine r_pushI a205_24 ?_
      refine r_loadI a205_26 rfl ?_
      refine r_add a205_27 (by omega) ?_
      refine r_iald a205_28 ty122 (by omega) ?_
      refine r_loadI a205_29 rfl ?_
      refine r_callI_2 a205_30 (Nat.le_of_ble_eq_true rfl) (le_mx mx196 (Nat.le_of_ble_eq_true rfl)) (Or.inl rfl) (c_Mo_isUnder e z m (m 122 (8 + g)) k (h0.2.1 g (by omega) (by omega)).1) (fun x_30 m_30 h_30 => ?_)
      obtain ⟨hm_30, h_30⟩ := h_30
      rw [hm_30]
      refine r_ifeq a205_33 (fun h_33 => ?_) (fun h_33 => ?_)
      · refine r_pushI a205_48 ?_
        refine r_retIq a205_50 ?_
        exact ⟨rfl, by omega⟩
      · refine r_loadA a205_36 rfl (by decide) ?_
        refine r_getR a205_37 ty121 rf121_1 (by decide) ?_
        refine r_pushI a205_40 ?_
        refine r_loadI a205_42 rfl ?_
        refine r_add a205_43 (by omega) ?_
        refine r_iald a205_44 ty122 (by omega) ?_
        refine r_goto a205_45 ?_
        refine r_retIq a205_50 ?_
        exact ⟨rfl, by omega⟩
    · refine r_pushI a205_18 ?_
      refine r_retIq a205_19 ?_
      exact ⟨rfl, by omega⟩
theorem c_Mo_count (d z : Nat) (m : XM) (w : Int) (hd : 1 ≤ d) : CI d k_Mo_count z m [vR 121, vI w] (fun x m' => m' = m ∧ ((w = 6 ∧ x = m 121 43) ∨ ((0 ≤ w ∧ w ≤ 5) ∧ x = m 122 w) ∨ (¬ (0 ≤ w ∧ w ≤ 6) ∧ x = -1))) := by
  obtain ⟨e, rfl⟩ : ∃ e, d = e + 1 := ⟨d - 1, by omega⟩
  refine r_entry mx208 rfl ?_
  refine r_loadI a208_0 rfl ?_
  refine r_pushI a208_1 ?_
  refine r_icne a208_3 (fun h_3 => ?_) (fun h_3 => ?_)
  · refine r_loadI a208_13 rfl ?_
    refine r_pushI a208_14 ?_
    refine r_pushI a208_15 ?_
    refine r_callI_3 a208_16 (Nat.le_of_ble_eq_true rfl) (le_mx mx119 (Nat.le_of_ble_eq_true rfl)) (Or.inl rfl) (c_Mo_in e z m w 0 5) (fun x_16 m_16 h_16 => ?_)
    obtain ⟨hm_16, h_16⟩ := h_16
    rw [hm_16]
    refine r_ifeq a208_19 (fun h_19 => ?_) (fun h_19 => ?_)
    · refine r_pushI a208_31 ?_
      refine r_retIq a208_32 ?_
      exact ⟨rfl, by omega⟩
    · refine r_loadA a208_22 rfl (by decide) ?_
      refine r_getR a208_23 ty121 rf121_1 (by decide) ?_
      refine r_loadI a208_26 rfl ?_
      refine r_iald a208_27 ty122 (by omega) ?_
      refine r_goto a208_28 ?_
      refine r_retIq a208_32 ?_
      exact ⟨rfl, by omega⟩
  · refine r_loadA a208_6 rfl (by decide) ?_
    refine r_getI (ki := 43) a208_7 ty121 rfl ?_
    refine r_goto a208_10 ?_
    refine r_retIq a208_32 ?_
    exact ⟨rfl, by omega⟩
theorem c_Mo_trace (d z : Nat) (m : XM) (i : Int) (hd : 1 ≤ d) (hr : 0 ≤ m 121 43 ∧ m 121 43 < 1000) : CI d k_Mo_trace z m [vR 121, vI i] (fun x m' => m' = m ∧ (((0 ≤ i ∧ i < m 121 43 ∧ i < 20) ∧ x = m 140 i) ∨ (¬ (0 ≤ i ∧ i < m 121 43 ∧ i < 20) ∧ x = -1))) := by
  obtain ⟨e, rfl⟩ : ∃ e, d = e + 1 := ⟨d - 1, by omega⟩
  refine r_entry mx204 rfl ?_
  refine r_loadI a204_0 rfl ?_
  refine r_pushI a204_1 ?_
  refine r_loadA a204_2 rfl (by decide) ?_
  refine r_getI (ki := 43) a204_3 ty121 rfl ?_
  refine r_pushI a204_6 ?_
  refine r_icge a204_8 (fun h_8 => ?_) (fun h_8 => ?_)
  · refine r_pushI a204_18 ?_
    refine r_pushI a204_20 ?_
    refine r_sub a204_21 (by omega) ?_
    refine r_callI_3 a204_22 (Nat.le_of_ble_eq_true rfl) (le_mx mx119 (Nat.le_of_ble_eq_true rfl)) (Or.inl rfl) (c_Mo_in e z m i 0 _) (fun x_22 m_22 h_22 => ?_)
    obtain ⟨hm_22, h_22⟩ := h_22
    rw [hm_22]
    refine r_ifeq a204_25 (fun h_25 => ?_) (fun h_25 => ?_)
    · refine r_pushI a204_37 ?_
      refine r_retIq a204_38 ?_
      exact ⟨rfl, by omega⟩
    · refine r_loadA a204_28 rfl (by decide) ?_
      refine r_getR a204_29 ty121 rf121_42 (by decide) ?_
      refine r_loadI a204_32 rfl ?_
      refine r_iald a204_33 ty140 (by omega) ?_
      refine r_goto a204_34 ?_
      refine r_retIq a204_38 ?_
      exact ⟨rfl, by omega⟩
  · refine r_loadA a204_11 rfl (by decide) ?_
    refine r_getI (ki := 43) a204_12 ty121 rfl ?_
    refine r_goto a204_15 ?_
    refine r_pushI a204_20 ?_
    refine r_sub a204_21 (by omega) ?_
    refine r_callI_3 a204_22 (Nat.le_of_ble_eq_true rfl) (le_mx mx119 (Nat.le_of_ble_eq_true rfl)) (Or.inl rfl) (c_Mo_in e z m i 0 _) (fun x_22 m_22 h_22 => ?_)
    obtain ⟨hm_22, h_22⟩ := h_22
    rw [hm_22]
    refine r_ifeq a204_25 (fun h_25 => ?_) (fun h_25 => ?_)
    · refine r_pushI a204_37 ?_
      refine r_retIq a204_38 ?_
      exact ⟨rfl, by omega⟩
    · refine r_loadA a204_28 rfl (by decide) ?_
      refine r_getR a204_29 ty121 rf121_42 (by decide) ?_
      refine r_loadI a204_32 rfl ?_
      refine r_iald a204_33 ty140 (by omega) ?_
      refine r_goto a204_34 ?_
      refine r_retIq a204_38 ?_
      exact ⟨rfl, by omega⟩
