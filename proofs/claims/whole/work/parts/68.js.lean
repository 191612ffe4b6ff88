-- ===== strings =====
theorem i2B_id {x : Int} (h : 0 ≤ x ∧ x ≤ 127) : i2B x = x := by
  have e : ∀ n : Fin 128, i2B (n.val : Int) = (n.val : Int) := by decide
  have := e ⟨x.toNat, by omega⟩
  have ex : ((x.toNat : Nat) : Int) = x := by omega
  show i2B x = x
  rw [← ex]; exact this
theorem c_J1_canEncode (d z : Nat) (m : XM) (c : Int) (h : 0 ≤ c ∧ c ≤ 127) : CI d k_J1_canEncode z m [vI c] (fun x m' => m' = m ∧ x = 1) := by
  refine r_entry mx217 rfl ?_
  refine r_loadI a217_0 rfl ?_
  refine r_iflt a217_1 (fun h_1 => ?_) (fun h_1 => ?_)
  · refine r_pushI a217_15 ?_
    refine r_retZq a217_16 (by omega) ?_
    first
      | exact ⟨rfl, rfl⟩
      | (exfalso; omega)
  · refine r_loadI a217_4 rfl ?_
    refine r_pushI a217_5 ?_
    refine r_icgt a217_8 (fun h_8 => ?_) (fun h_8 => ?_)
    · refine r_pushI a217_15 ?_
      refine r_retZq a217_16 (by omega) ?_
      first
        | exact ⟨rfl, rfl⟩
        | (exfalso; omega)
    · refine r_pushI a217_11 ?_
      refine r_goto a217_12 ?_
      refine r_retZq a217_16 (by omega) ?_
      first
        | exact ⟨rfl, rfl⟩
        | (exfalso; omega)
theorem c_J3_checkIndex (d z : Nat) (m : XM) (i n : Int) (h : 0 ≤ i ∧ i < n) : CI d k_J3_checkIndex z m [vI i, vI n, vR 5] (fun x m' => m' = m ∧ x = i) := by
  refine r_entry mx220 rfl ?_
  refine r_loadI a220_0 rfl ?_
  refine r_iflt a220_1 (fun h_1 => ?_) (fun h_1 => ?_)
  · exfalso
    omega
  · refine r_loadI a220_4 rfl ?_
    refine r_loadI a220_5 rfl ?_
    refine r_iclt a220_6 (fun h_6 => ?_) (fun h_6 => ?_)
    · refine r_loadI a220_16 rfl ?_
      refine r_retIq a220_17 ?_
      exact ⟨rfl, rfl⟩
    · exfalso
      omega
theorem c_J0_checkIndex (d z : Nat) (m : XM) (i n : Int) (hd : 1 ≤ d) (h : 0 ≤ i ∧ i < n) : CV d k_J0_checkIndex z m [vI i, vI n] (fun m' => m' = m) := by
  obtain ⟨e, rfl⟩ : ∃ e, d = e + 1 := ⟨d - 1, by omega⟩
  refine r_entry mx215 rfl ?_
  refine r_loadI a215_0 rfl ?_
  refine r_loadI a215_1 rfl ?_
  refine r_statR a215_2 ?_
  refine r_callI_3 a215_5 (Nat.le_of_ble_eq_true rfl) (le_mx mx220 (Nat.le_of_ble_eq_true rfl)) (Or.inl rfl) (c_J3_checkIndex e z m i n h) (fun x_5 m_5 h_5 => ?_)
  refine r_pop a215_8 rfl ?_
  refine r_retVq a215_9 ?_
  exact h_5.1
theorem zLen_19 : zLen 19 = 4 := by decide
theorem zTab_19 {i : Int} (h : 0 ≤ i ∧ i < 4) : iAnd (zTab 19 i) 255 = zTab 19 i ∧ 0 ≤ zTab 19 i ∧ zTab 19 i ≤ 127 := by
  have hc : i = 0 ∨ i = 1 ∨ i = 2 ∨ i = 3 := by omega
  rcases hc with q | q | q | q <;> subst q <;> decide
theorem c_J0_coder_6 (d z : Nat) (m : XM) : CI d k_J0_coder z m [vR 6] (fun x m' => m' = m ∧ x = 0) := by
  refine r_entry mx213 rfl ?_
  refine r_pushI a213_0 ?_
  refine r_ifeq a213_3 (fun h_3 => ?_) (fun h_3 => ?_)
  · exfalso
    omega
  · refine r_loadA a213_6 rfl (by decide) ?_
    refine r_strC a213_7 (by decide) ?_
    refine r_goto a213_10 ?_
    refine r_retBq a213_14 (by omega) ?_
    exact ⟨rfl, rfl⟩
theorem c_J0_isLatin1_6 (d z : Nat) (m : XM) : CI d k_J0_isLatin1 z m [vR 6] (fun x m' => m' = m ∧ x = 1) := by
  refine r_entry mx214 rfl ?_
  refine r_pushI a214_0 ?_
  refine r_ifeq a214_3 (fun h_3 => ?_) (fun h_3 => ?_)
  · exfalso
    omega
  · refine r_loadA a214_6 rfl (by decide) ?_
    refine r_strC a214_7 (by decide) ?_
    refine r_ifne a214_10 (fun h_10 => ?_) (fun h_10 => ?_)
    · exfalso
      omega
    · refine r_pushI a214_13 ?_
      refine r_goto a214_14 ?_
      refine r_retZq a214_18 (by omega) ?_
      exact ⟨rfl, rfl⟩
theorem c_J0_length_6 (d z : Nat) (m : XM) (hd : 1 ≤ d) : CI d k_J0_length z m [vR 6] (fun x m' => m' = m ∧ x = 4) := by
  obtain ⟨e, rfl⟩ : ∃ e, d = e + 1 := ⟨d - 1, by omega⟩
  have hs : iShr ((4 : Nat) : Int) 0 = 4 := by decide
  refine r_entry mx209 rfl ?_
  refine r_loadA a209_0 rfl (by decide) ?_
  refine r_strV a209_1 (by decide) ?_
  refine r_alenT a209_4 (by omega) ?_
  refine r_loadA a209_5 rfl (by decide) ?_
  refine r_callI_1 a209_6 (Nat.le_of_ble_eq_true rfl) (le_mx mx213 (Nat.le_of_ble_eq_true rfl)) (Or.inr (recv_str ow213 (by omega) (by omega))) (c_J0_coder_6 e z m) (fun x_6 m_6 h_6 => ?_)
  obtain ⟨hm_6, h_6⟩ := h_6
  rw [hm_6]
  rw [h_6, show zLen (6 + 13) = 4 from zLen_19]
  refine r_shr a209_9 ?_
  rw [hs]
  refine r_retIq a209_10 ?_
  exact ⟨rfl, rfl⟩
theorem c_J1_charAt_19 (d z : Nat) (m : XM) (i : Int) (hd : 2 ≤ d) (h : 0 ≤ i ∧ i < 4) : CI d k_J1_charAt z m [vR 19, vI i] (fun x m' => m' = m ∧ x = zTab 19 i) := by
  obtain ⟨e, rfl⟩ : ∃ e, d = e + 1 := ⟨d - 1, by omega⟩
  obtain ⟨h1, h2, h3⟩ := zTab_19 h
  refine r_entry mx216 rfl ?_
  refine r_loadI a216_0 rfl ?_
  refine r_loadA a216_1 rfl (by decide) ?_
  refine r_alenT a216_2 (by omega) ?_
  rw [zLen_19]
  refine r_callV_2 a216_3 (Nat.le_of_ble_eq_true rfl) (le_mx mx215 (Nat.le_of_ble_eq_true rfl)) (Or.inl rfl) (c_J0_checkIndex e z m i ((4 : Nat) : Int) (by omega) (by omega)) (fun m_3 h_3 => ?_)
  rw [h_3]
  refine r_loadA a216_6 rfl (by decide) ?_
  refine r_loadI a216_7 rfl ?_
  refine r_baldT a216_8 (by omega) (by rw [zLen_19]; omega) ?_
  refine r_pushI a216_9 ?_
  refine r_and a216_12 ?_
  rw [h1]
  refine r_i2c a216_13 (by omega) ?_
  refine r_retCq a216_14 (by omega) ?_
  exact ⟨rfl, rfl⟩
theorem c_J0_charAt_6 (d z : Nat) (m : XM) (i : Int) (hd : 3 ≤ d) (h : 0 ≤ i ∧ i < 4) : CI d k_J0_charAt z m [vR 6, vI i] (fun x m' => m' = m ∧ x = zTab 19 i) := by
  obtain ⟨e, rfl⟩ : ∃ e, d = e + 1 := ⟨d - 1, by omega⟩
  obtain ⟨h1, h2, h3⟩ := zTab_19 h
  refine r_entry mx210 rfl ?_
  refine r_loadA a210_0 rfl (by decide) ?_
  refine r_callI_1 a210_1 (Nat.le_of_ble_eq_true rfl) (le_mx mx214 (Nat.le_of_ble_eq_true rfl)) (Or.inr (recv_str ow214 (by omega) (by omega))) (c_J0_isLatin1_6 e z m) (fun x_1 m_1 h_1 => ?_)
  obtain ⟨hm_1, h_1⟩ := h_1
  rw [hm_1]
  refine r_ifeq a210_4 (fun h_4 => ?_) (fun h_4 => ?_)
  · exfalso
    omega
  · refine r_loadA a210_7 rfl (by decide) ?_
    refine r_strV a210_8 (by decide) ?_
    refine r_loadI a210_11 rfl ?_
    refine r_callI_2 a210_12 (Nat.le_of_ble_eq_true rfl) (le_mx mx216 (Nat.le_of_ble_eq_true rfl)) (Or.inl rfl) (c_J1_charAt_19 e z m i (by omega) h) (fun x_12 m_12 h_12 => ?_)
    obtain ⟨hm_12, h_12⟩ := h_12
    rw [hm_12]
    refine r_retCq a210_15 (by omega) ?_
    exact ⟨rfl, h_12⟩
theorem zLen_20 : zLen 20 = 4 := by decide
theorem zTab_20 {i : Int} (h : 0 ≤ i ∧ i < 4) : iAnd (zTab 20 i) 255 = zTab 20 i ∧ 0 ≤ zTab 20 i ∧ zTab 20 i ≤ 127 := by
  have hc : i = 0 ∨ i = 1 ∨ i = 2 ∨ i = 3 := by omega
  rcases hc with q | q | q | q <;> subst q <;> decide
theorem c_J0_coder_7 (d z : Nat) (m : XM) : CI d k_J0_coder z m [vR 7] (fun x m' => m' = m ∧ x = 0) := by
  refine r_entry mx213 rfl ?_
  refine r_pushI a213_0 ?_
  refine r_ifeq a213_3 (fun h_3 => ?_) (fun h_3 => ?_)
  · exfalso
    omega
  · refine r_loadA a213_6 rfl (by decide) ?_
    refine r_strC a213_7 (by decide) ?_
    refine r_goto a213_10 ?_
    refine r_retBq a213_14 (by omega) ?_
    exact ⟨rfl, rfl⟩
theorem c_J0_isLatin1_7 (d z : Nat) (m : XM) : CI d k_J0_isLatin1 z m [vR 7] (fun x m' => m' = m ∧ x = 1) := by
  refine r_entry mx214 rfl ?_
  refine r_pushI a214_0 ?_
  refine r_ifeq a214_3 (fun h_3 => ?_) (fun h_3 => ?_)
  · exfalso
    omega
  · refine r_loadA a214_6 rfl (by decide) ?_
    refine r_strC a214_7 (by decide) ?_
    refine r_ifne a214_10 (fun h_10 => ?_) (fun h_10 => ?_)
    · exfalso
      omega
    · refine r_pushI a214_13 ?_
      refine r_goto a214_14 ?_
      refine r_retZq a214_18 (by omega) ?_
      exact ⟨rfl, rfl⟩
theorem c_J0_length_7 (d z : Nat) (m : XM) (hd : 1 ≤ d) : CI d k_J0_length z m [vR 7] (fun x m' => m' = m ∧ x = 4) := by
  obtain ⟨e, rfl⟩ : ∃ e, d = e + 1 := ⟨d - 1, by omega⟩
  have hs : iShr ((4 : Nat) : Int) 0 = 4 := by decide
  refine r_entry mx209 rfl ?_
  refine r_loadA a209_0 rfl (by decide) ?_
  refine r_strV a209_1 (by decide) ?_
  refine r_alenT a209_4 (by omega) ?_
  refine r_loadA a209_5 rfl (by decide) ?_
  refine r_callI_1 a209_6 (Nat.le_of_ble_eq_true rfl) (le_mx mx213 (Nat.le_of_ble_eq_true rfl)) (Or.inr (recv_str ow213 (by omega) (by omega))) (c_J0_coder_7 e z m) (fun x_6 m_6 h_6 => ?_)
  obtain ⟨hm_6, h_6⟩ := h_6
  rw [hm_6]
  rw [h_6, show zLen (7 + 13) = 4 from zLen_20]
  refine r_shr a209_9 ?_
  rw [hs]
  refine r_retIq a209_10 ?_
  exact ⟨rfl, rfl⟩
theorem c_J1_charAt_20 (d z : Nat) (m : XM) (i : Int) (hd : 2 ≤ d) (h : 0 ≤ i ∧ i < 4) : CI d k_J1_charAt z m [vR 20, vI i] (fun x m' => m' = m ∧ x = zTab 20 i) := by
  obtain ⟨e, rfl⟩ : ∃ e, d = e + 1 := ⟨d - 1, by omega⟩
  obtain ⟨h1, h2, h3⟩ := zTab_20 h
  refine r_entry mx216 rfl ?_
  refine r_loadI a216_0 rfl ?_
  refine r_loadA a216_1 rfl (by decide) ?_
  refine r_alenT a216_2 (by omega) ?_
  rw [zLen_20]
  refine r_callV_2 a216_3 (Nat.le_of_ble_eq_true rfl) (le_mx mx215 (Nat.le_of_ble_eq_true rfl)) (Or.inl rfl) (c_J0_checkIndex e z m i ((4 : Nat) : Int) (by omega) (by omega)) (fun m_3 h_3 => ?_)
  rw [h_3]
  refine r_loadA a216_6 rfl (by decide) ?_
  refine r_loadI a216_7 rfl ?_
  refine r_baldT a216_8 (by omega) (by rw [zLen_20]; omega) ?_
  refine r_pushI a216_9 ?_
  refine r_and a216_12 ?_
  rw [h1]
  refine r_i2c a216_13 (by omega) ?_
  refine r_retCq a216_14 (by omega) ?_
  exact ⟨rfl, rfl⟩
theorem c_J0_charAt_7 (d z : Nat) (m : XM) (i : Int) (hd : 3 ≤ d) (h : 0 ≤ i ∧ i < 4) : CI d k_J0_charAt z m [vR 7, vI i] (fun x m' => m' = m ∧ x = zTab 20 i) := by
  obtain ⟨e, rfl⟩ : ∃ e, d = e + 1 := ⟨d - 1, by omega⟩
  obtain ⟨h1, h2, h3⟩ := zTab_20 h
  refine r_entry mx210 rfl ?_
  refine r_loadA a210_0 rfl (by decide) ?_
  refine r_callI_1 a210_1 (Nat.le_of_ble_eq_true rfl) (le_mx mx214 (Nat.le_of_ble_eq_true rfl)) (Or.inr (recv_str ow214 (by omega) (by omega))) (c_J0_isLatin1_7 e z m) (fun x_1 m_1 h_1 => ?_)
  obtain ⟨hm_1, h_1⟩ := h_1
  rw [hm_1]
  refine r_ifeq a210_4 (fun h_4 => ?_) (fun h_4 => ?_)
  · exfalso
    omega
  · refine r_loadA a210_7 rfl (by decide) ?_
    refine r_strV a210_8 (by decide) ?_
    refine r_loadI a210_11 rfl ?_
    refine r_callI_2 a210_12 (Nat.le_of_ble_eq_true rfl) (le_mx mx216 (Nat.le_of_ble_eq_true rfl)) (Or.inl rfl) (c_J1_charAt_20 e z m i (by omega) h) (fun x_12 m_12 h_12 => ?_)
    obtain ⟨hm_12, h_12⟩ := h_12
    rw [hm_12]
    refine r_retCq a210_15 (by omega) ?_
    exact ⟨rfl, h_12⟩
theorem zLen_21 : zLen 21 = 10 := by decide
theorem zTab_21 {i : Int} (h : 0 ≤ i ∧ i < 10) : iAnd (zTab 21 i) 255 = zTab 21 i ∧ 0 ≤ zTab 21 i ∧ zTab 21 i ≤ 127 := by
  have hc : i = 0 ∨ i = 1 ∨ i = 2 ∨ i = 3 ∨ i = 4 ∨ i = 5 ∨ i = 6 ∨ i = 7 ∨ i = 8 ∨ i = 9 := by omega
  rcases hc with q | q | q | q | q | q | q | q | q | q <;> subst q <;> decide
theorem c_J0_coder_8 (d z : Nat) (m : XM) : CI d k_J0_coder z m [vR 8] (fun x m' => m' = m ∧ x = 0) := by
  refine r_entry mx213 rfl ?_
  refine r_pushI a213_0 ?_
  refine r_ifeq a213_3 (fun h_3 => ?_) (fun h_3 => ?_)
  · exfalso
    omega
  · refine r_loadA a213_6 rfl (by decide) ?_
    refine r_strC a213_7 (by decide) ?_
    refine r_goto a213_10 ?_
    refine r_retBq a213_14 (by omega) ?_
    exact ⟨rfl, rfl⟩
theorem c_J0_isLatin1_8 (d z : Nat) (m : XM) : CI d k_J0_isLatin1 z m [vR 8] (fun x m' => m' = m ∧ x = 1) := by
  refine r_entry mx214 rfl ?_
  refine r_pushI a214_0 ?_
  refine r_ifeq a214_3 (fun h_3 => ?_) (fun h_3 => ?_)
  · exfalso
    omega
  · refine r_loadA a214_6 rfl (by decide) ?_
    refine r_strC a214_7 (by decide) ?_
    refine r_ifne a214_10 (fun h_10 => ?_) (fun h_10 => ?_)
    · exfalso
      omega
    · refine r_pushI a214_13 ?_
      refine r_goto a214_14 ?_
      refine r_retZq a214_18 (by omega) ?_
      exact ⟨rfl, rfl⟩
theorem c_J0_length_8 (d z : Nat) (m : XM) (hd : 1 ≤ d) : CI d k_J0_length z m [vR 8] (fun x m' => m' = m ∧ x = 10) := by
  obtain ⟨e, rfl⟩ : ∃ e, d = e + 1 := ⟨d - 1, by omega⟩
  have hs : iShr ((10 : Nat) : Int) 0 = 10 := by decide
  refine r_entry mx209 rfl ?_
  refine r_loadA a209_0 rfl (by decide) ?_
  refine r_strV a209_1 (by decide) ?_
  refine r_alenT a209_4 (by omega) ?_
  refine r_loadA a209_5 rfl (by decide) ?_
  refine r_callI_1 a209_6 (Nat.le_of_ble_eq_true rfl) (le_mx mx213 (Nat.le_of_ble_eq_true rfl)) (Or.inr (recv_str ow213 (by omega) (by omega))) (c_J0_coder_8 e z m) (fun x_6 m_6 h_6 => ?_)
  obtain ⟨hm_6, h_6⟩ := h_6
  rw [hm_6]
  rw [h_6, show zLen (8 + 13) = 10 from zLen_21]
  refine r_shr a209_9 ?_
  rw [hs]
  refine r_retIq a209_10 ?_
  exact ⟨rfl, rfl⟩
theorem c_J1_charAt_21 (d z : Nat) (m : XM) (i : Int) (hd : 2 ≤ d) (h : 0 ≤ i ∧ i < 10) : CI d k_J1_charAt z m [vR 21, vI i] (fun x m' => m' = m ∧ x = zTab 21 i) := by
  obtain ⟨e, rfl⟩ : ∃ e, d = e + 1 := ⟨d - 1, by omega⟩
  obtain ⟨h1, h2, h3⟩ := zTab_21 h
  refine r_entry mx216 rfl ?_
  refine r_loadI a216_0 rfl ?_
  refine r_loadA a216_1 rfl (by decide) ?_
  refine r_alenT a216_2 (by omega) ?_
  rw [zLen_21]
  refine r_callV_2 a216_3 (Nat.le_of_ble_eq_true rfl) (le_mx mx215 (Nat.le_of_ble_eq_true rfl)) (Or.inl rfl) (c_J0_checkIndex e z m i ((10 : Nat) : Int) (by omega) (by omega)) (fun m_3 h_3 => ?_)
  rw [h_3]
  refine r_loadA a216_6 rfl (by decide) ?_
  refine r_loadI a216_7 rfl ?_
  refine r_baldT a216_8 (by omega) (by rw [zLen_21]; omega) ?_
  refine r_pushI a216_9 ?_
  refine r_and a216_12 ?_
  rw [h1]
  refine r_i2c a216_13 (by omega) ?_
  refine r_retCq a216_14 (by omega) ?_
  exact ⟨rfl, rfl⟩
theorem c_J0_charAt_8 (d z : Nat) (m : XM) (i : Int) (hd : 3 ≤ d) (h : 0 ≤ i ∧ i < 10) : CI d k_J0_charAt z m [vR 8, vI i] (fun x m' => m' = m ∧ x = zTab 21 i) := by
  obtain ⟨e, rfl⟩ : ∃ e, d = e + 1 := ⟨d - 1, by omega⟩
  obtain ⟨h1, h2, h3⟩ := zTab_21 h
  refine r_entry mx210 rfl ?_
  refine r_loadA a210_0 rfl (by decide) ?_
  refine r_callI_1 a210_1 (Nat.le_of_ble_eq_true rfl) (le_mx mx214 (Nat.le_of_ble_eq_true rfl)) (Or.inr (recv_str ow214 (by omega) (by omega))) (c_J0_isLatin1_8 e z m) (fun x_1 m_1 h_1 => ?_)
  obtain ⟨hm_1, h_1⟩ := h_1
  rw [hm_1]
  refine r_ifeq a210_4 (fun h_4 => ?_) (fun h_4 => ?_)
  · exfalso
    omega
  · refine r_loadA a210_7 rfl (by decide) ?_
    refine r_strV a210_8 (by decide) ?_
    refine r_loadI a210_11 rfl ?_
    refine r_callI_2 a210_12 (Nat.le_of_ble_eq_true rfl) (le_mx mx216 (Nat.le_of_ble_eq_true rfl)) (Or.inl rfl) (c_J1_charAt_21 e z m i (by omega) h) (fun x_12 m_12 h_12 => ?_)
    obtain ⟨hm_12, h_12⟩ := h_12
    rw [hm_12]
    refine r_retCq a210_15 (by omega) ?_
    exact ⟨rfl, h_12⟩
theorem zLen_22 : zLen 22 = 4 := by decide
theorem zTab_22 {i : Int} (h : 0 ≤ i ∧ i < 4) : iAnd (zTab 22 i) 255 = zTab 22 i ∧ 0 ≤ zTab 22 i ∧ zTab 22 i ≤ 127 := by
  have hc : i = 0 ∨ i = 1 ∨ i = 2 ∨ i = 3 := by omega
  rcases hc with q | q | q | q <;> subst q <;> decide
theorem c_J0_coder_9 (d z : Nat) (m : XM) : CI d k_J0_coder z m [vR 9] (fun x m' => m' = m ∧ x = 0) := by
  refine r_entry mx213 rfl ?_
  refine r_pushI a213_0 ?_
  refine r_ifeq a213_3 (fun h_3 => ?_) (fun h_3 => ?_)
  · exfalso
    omega
  · refine r_loadA a213_6 rfl (by decide) ?_
    refine r_strC a213_7 (by decide) ?_
    refine r_goto a213_10 ?_
    refine r_retBq a213_14 (by omega) ?_
    exact ⟨rfl, rfl⟩
theorem c_J0_isLatin1_9 (d z : Nat) (m : XM) : CI d k_J0_isLatin1 z m [vR 9] (fun x m' => m' = m ∧ x = 1) := by
  refine r_entry mx214 rfl ?_
  refine r_pushI a214_0 ?_
  refine r_ifeq a214_3 (fun h_3 => ?_) (fun h_3 => ?_)
  · exfalso
    omega
  · refine r_loadA a214_6 rfl (by decide) ?_
    refine r_strC a214_7 (by decide) ?_
    refine r_ifne a214_10 (fun h_10 => ?_) (fun h_10 => ?_)
    · exfalso
      omega
    · refine r_pushI a214_13 ?_
      refine r_goto a214_14 ?_
      refine r_retZq a214_18 (by omega) ?_
      exact ⟨rfl, rfl⟩
theorem c_J0_length_9 (d z : Nat) (m : XM) (hd : 1 ≤ d) : CI d k_J0_length z m [vR 9] (fun x m' => m' = m ∧ x = 4) := by
  obtain ⟨e, rfl⟩ : ∃ e, d = e + 1 := ⟨d - 1, by omega⟩
  have hs : iShr ((4 : Nat) : Int) 0 = 4 := by decide
  refine r_entry mx209 rfl ?_
  refine r_loadA a209_0 rfl (by decide) ?_
  refine r_strV a209_1 (by decide) ?_
  refine r_alenT a209_4 (by omega) ?_
  refine r_loadA a209_5 rfl (by decide) ?_
  refine r_callI_1 a209_6 (Nat.le_of_ble_eq_true rfl) (le_mx mx213 (Nat.le_of_ble_eq_true rfl)) (Or.inr (recv_str ow213 (by omega) (by omega))) (c_J0_coder_9 e z m) (fun x_6 m_6 h_6 => ?_)
  obtain ⟨hm_6, h_6⟩ := h_6
  rw [hm_6]
  rw [h_6, show zLen (9 + 13) = 4 from zLen_22]
  refine r_shr a209_9 ?_
  rw [hs]
  refine r_retIq a209_10 ?_
  exact ⟨rfl, rfl⟩
theorem c_J1_charAt_22 (d z : Nat) (m : XM) (i : Int) (hd : 2 ≤ d) (h : 0 ≤ i ∧ i < 4) : CI d k_J1_charAt z m [vR 22, vI i] (fun x m' => m' = m ∧ x = zTab 22 i) := by
  obtain ⟨e, rfl⟩ : ∃ e, d = e + 1 := ⟨d - 1, by omega⟩
  obtain ⟨h1, h2, h3⟩ := zTab_22 h
  refine r_entry mx216 rfl ?_
  refine r_loadI a216_0 rfl ?_
  refine r_loadA a216_1 rfl (by decide) ?_
  refine r_alenT a216_2 (by omega) ?_
  rw [zLen_22]
  refine r_callV_2 a216_3 (Nat.le_of_ble_eq_true rfl) (le_mx mx215 (Nat.le_of_ble_eq_true rfl)) (Or.inl rfl) (c_J0_checkIndex e z m i ((4 : Nat) : Int) (by omega) (by omega)) (fun m_3 h_3 => ?_)
  rw [h_3]
  refine r_loadA a216_6 rfl (by decide) ?_
  refine r_loadI a216_7 rfl ?_
  refine r_baldT a216_8 (by omega) (by rw [zLen_22]; omega) ?_
  refine r_pushI a216_9 ?_
  refine r_and a216_12 ?_
  rw [h1]
  refine r_i2c a216_13 (by omega) ?_
  refine r_retCq a216_14 (by omega) ?_
  exact ⟨rfl, rfl⟩
theorem c_J0_charAt_9 (d z : Nat) (m : XM) (i : Int) (hd : 3 ≤ d) (h : 0 ≤ i ∧ i < 4) : CI d k_J0_charAt z m [vR 9, vI i] (fun x m' => m' = m ∧ x = zTab 22 i) := by
  obtain ⟨e, rfl⟩ : ∃ e, d = e + 1 := ⟨d - 1, by omega⟩
  obtain ⟨h1, h2, h3⟩ := zTab_22 h
  refine r_entry mx210 rfl ?_
  refine r_loadA a210_0 rfl (by decide) ?_
  refine r_callI_1 a210_1 (Nat.le_of_ble_eq_true rfl) (le_mx mx214 (Nat.le_of_ble_eq_true rfl)) (Or.inr (recv_str ow214 (by omega) (by omega))) (c_J0_isLatin1_9 e z m) (fun x_1 m_1 h_1 => ?_)
  obtain ⟨hm_1, h_1⟩ := h_1
  rw [hm_1]
  refine r_ifeq a210_4 (fun h_4 => ?_) (fun h_4 => ?_)
  · exfalso
    omega
  · refine r_loadA a210_7 rfl (by decide) ?_
    refine r_strV a210_8 (by decide) ?_
    refine r_loadI a210_11 rfl ?_
    refine r_callI_2 a210_12 (Nat.le_of_ble_eq_true rfl) (le_mx mx216 (Nat.le_of_ble_eq_true rfl)) (Or.inl rfl) (c_J1_charAt_22 e z m i (by omega) h) (fun x_12 m_12 h_12 => ?_)
    obtain ⟨hm_12, h_12⟩ := h_12
    rw [hm_12]
    refine r_retCq a210_15 (by omega) ?_
    exact ⟨rfl, h_12⟩
theorem zLen_23 : zLen 23 = 4 := by decide
theorem zTab_23 {i : Int} (h : 0 ≤ i ∧ i < 4) : iAnd (zTab 23 i) 255 = zTab 23 i ∧ 0 ≤ zTab 23 i ∧ zTab 23 i ≤ 127 := by
  have hc : i = 0 ∨ i = 1 ∨ i = 2 ∨ i = 3 := by omega
  rcases hc with q | q | q | q <;> subst q <;> decide
theorem c_J0_coder_10 (d z : Nat) (m : XM) : CI d k_J0_coder z m [vR 10] (fun x m' => m' = m ∧ x = 0) := by
  refine r_entry mx213 rfl ?_
  refine r_pushI a213_0 ?_
  refine r_ifeq a213_3 (fun h_3 => ?_) (fun h_3 => ?_)
  · exfalso
    omega
  · refine r_loadA a213_6 rfl (by decide) ?_
    refine r_strC a213_7 (by decide) ?_
    refine r_goto a213_10 ?_
    refine r_retBq a213_14 (by omega) ?_
    exact ⟨rfl, rfl⟩
theorem c_J0_isLatin1_10 (d z : Nat) (m : XM) : CI d k_J0_isLatin1 z m [vR 10] (fun x m' => m' = m ∧ x = 1) := by
  refine r_entry mx214 rfl ?_
  refine r_pushI a214_0 ?_
  refine r_ifeq a214_3 (fun h_3 => ?_) (fun h_3 => ?_)
  · exfalso
    omega
  · refine r_loadA a214_6 rfl (by decide) ?_
    refine r_strC a214_7 (by decide) ?_
    refine r_ifne a214_10 (fun h_10 => ?_) (fun h_10 => ?_)
    · exfalso
      omega
    · refine r_pushI a214_13 ?_
      refine r_goto a214_14 ?_
      refine r_retZq a214_18 (by omega) ?_
      exact ⟨rfl, rfl⟩
theorem c_J0_length_10 (d z : Nat) (m : XM) (hd : 1 ≤ d) : CI d k_J0_length z m [vR 10] (fun x m' => m' = m ∧ x = 4) := by
  obtain ⟨e, rfl⟩ : ∃ e, d = e + 1 := ⟨d - 1, by omega⟩
  have hs : iShr ((4 : Nat) : Int) 0 = 4 := by decide
  refine r_entry mx209 rfl ?_
  refine r_loadA a209_0 rfl (by decide) ?_
  refine r_strV a209_1 (by decide) ?_
  refine r_alenT a209_4 (by omega) ?_
  refine r_loadA a209_5 rfl (by decide) ?_
  refine r_callI_1 a209_6 (Nat.le_of_ble_eq_true rfl) (le_mx mx213 (Nat.le_of_ble_eq_true rfl)) (Or.inr (recv_str ow213 (by omega) (by omega))) (c_J0_coder_10 e z m) (fun x_6 m_6 h_6 => ?_)
  obtain ⟨hm_6, h_6⟩ := h_6
  rw [hm_6]
  rw [h_6, show zLen (10 + 13) = 4 from zLen_23]
  refine r_shr a209_9 ?_
  rw [hs]
  refine r_retIq a209_10 ?_
  exact ⟨rfl, rfl⟩
theorem c_J1_charAt_23 (d z : Nat) (m : XM) (i : Int) (hd : 2 ≤ d) (h : 0 ≤ i ∧ i < 4) : CI d k_J1_charAt z m [vR 23, vI i] (fun x m' => m' = m ∧ x = zTab 23 i) := by
  obtain ⟨e, rfl⟩ : ∃ e, d = e + 1 := ⟨d - 1, by omega⟩
  obtain ⟨h1, h2, h3⟩ := zTab_23 h
  refine r_entry mx216 rfl ?_
  refine r_loadI a216_0 rfl ?_
  refine r_loadA a216_1 rfl (by decide) ?_
  refine r_alenT a216_2 (by omega) ?_
  rw [zLen_23]
  refine r_callV_2 a216_3 (Nat.le_of_ble_eq_true rfl) (le_mx mx215 (Nat.le_of_ble_eq_true rfl)) (Or.inl rfl) (c_J0_checkIndex e z m i ((4 : Nat) : Int) (by omega) (by omega)) (fun m_3 h_3 => ?_)
  rw [h_3]
  refine r_loadA a216_6 rfl (by decide) ?_
  refine r_loadI a216_7 rfl ?_
  refine r_baldT a216_8 (by omega) (by rw [zLen_23]; omega) ?_
  refine r_pushI a216_9 ?_
  refine r_and a216_12 ?_
  rw [h1]
  refine r_i2c a216_13 (by omega) ?_
  refine r_retCq a216_14 (by omega) ?_
  exact ⟨rfl, rfl⟩
theorem c_J0_charAt_10 (d z : Nat) (m : XM) (i : Int) (hd : 3 ≤ d) (h : 0 ≤ i ∧ i < 4) : CI d k_J0_charAt z m [vR 10, vI i] (fun x m' => m' = m ∧ x = zTab 23 i) := by
  obtain ⟨e, rfl⟩ : ∃ e, d = e + 1 := ⟨d - 1, by omega⟩
  obtain ⟨h1, h2, h3⟩ := zTab_23 h
  refine r_entry mx210 rfl ?_
  refine r_loadA a210_0 rfl (by decide) ?_
  refine r_callI_1 a210_1 (Nat.le_of_ble_eq_true rfl) (le_mx mx214 (Nat.le_of_ble_eq_true rfl)) (Or.inr (recv_str ow214 (by omega) (by omega))) (c_J0_isLatin1_10 e z m) (fun x_1 m_1 h_1 => ?_)
  obtain ⟨hm_1, h_1⟩ := h_1
  rw [hm_1]
  refine r_ifeq a210_4 (fun h_4 => ?_) (fun h_4 => ?_)
  · exfalso
    omega
  · refine r_loadA a210_7 rfl (by decide) ?_
    refine r_strV a210_8 (by decide) ?_
    refine r_loadI a210_11 rfl ?_
    refine r_callI_2 a210_12 (Nat.le_of_ble_eq_true rfl) (le_mx mx216 (Nat.le_of_ble_eq_true rfl)) (Or.inl rfl) (c_J1_charAt_23 e z m i (by omega) h) (fun x_12 m_12 h_12 => ?_)
    obtain ⟨hm_12, h_12⟩ := h_12
    rw [hm_12]
    refine r_retCq a210_15 (by omega) ?_
    exact ⟨rfl, h_12⟩
theorem zLen_24 : zLen 24 = 6 := by decide
theorem zTab_24 {i : Int} (h : 0 ≤ i ∧ i < 6) : iAnd (zTab 24 i) 255 = zTab 24 i ∧ 0 ≤ zTab 24 i ∧ zTab 24 i ≤ 127 := by
  have hc : i = 0 ∨ i = 1 ∨ i = 2 ∨ i = 3 ∨ i = 4 ∨ i = 5 := by omega
  rcases hc with q | q | q | q | q | q <;> subst q <;> decide
theorem c_J0_coder_11 (d z : Nat) (m : XM) : CI d k_J0_coder z m [vR 11] (fun x m' => m' = m ∧ x = 0) := by
  refine r_entry mx213 rfl ?_
  refine r_pushI a213_0 ?_
  refine r_ifeq a213_3 (fun h_3 => ?_) (fun h_3 => ?_)
  · exfalso
    omega
  · refine r_loadA a213_6 rfl (by decide) ?_
    refine r_strC a213_7 (by decide) ?_
    refine r_goto a213_10 ?_
    refine r_retBq a213_14 (by omega) ?_
    exact ⟨rfl, rfl⟩
theorem c_J0_isLatin1_11 (d z : Nat) (m : XM) : CI d k_J0_isLatin1 z m [vR 11] (fun x m' => m' = m ∧ x = 1) := by
  refine r_entry mx214 rfl ?_
  refine r_pushI a214_0 ?_
  refine r_ifeq a214_3 (fun h_3 => ?_) (fun h_3 => ?_)
  · exfalso
    omega
  · refine r_loadA a214_6 rfl (by decide) ?_
    refine r_strC a214_7 (by decide) ?_
    refine r_ifne a214_10 (fun h_10 => ?_) (fun h_10 => ?_)
    · exfalso
      omega
    · refine r_pushI a214_13 ?_
      refine r_goto a214_14 ?_
      refine r_retZq a214_18 (by omega) ?_
      exact ⟨rfl, rfl⟩
theorem c_J0_length_11 (d z : Nat) (m : XM) (hd : 1 ≤ d) : CI d k_J0_length z m [vR 11] (fun x m' => m' = m ∧ x = 6) := by
  obtain ⟨e, rfl⟩ : ∃ e, d = e + 1 := ⟨d - 1, by omega⟩
  have hs : iShr ((6 : Nat) : Int) 0 = 6 := by decide
  refine r_entry mx209 rfl ?_
  refine r_loadA a209_0 rfl (by decide) ?_
  refine r_strV a209_1 (by decide) ?_
  refine r_alenT a209_4 (by omega) ?_
  refine r_loadA a209_5 rfl (by decide) ?_
  refine r_callI_1 a209_6 (Nat.le_of_ble_eq_true rfl) (le_mx mx213 (Nat.le_of_ble_eq_true rfl)) (Or.inr (recv_str ow213 (by omega) (by omega))) (c_J0_coder_11 e z m) (fun x_6 m_6 h_6 => ?_)
  obtain ⟨hm_6, h_6⟩ := h_6
  rw [hm_6]
  rw [h_6, show zLen (11 + 13) = 6 from zLen_24]
  refine r_shr a209_9 ?_
  rw [hs]
  refine r_retIq a209_10 ?_
  exact ⟨rfl, rfl⟩
theorem c_J1_charAt_24 (d z : Nat) (m : XM) (i : Int) (hd : 2 ≤ d) (h : 0 ≤ i ∧ i < 6) : CI d k_J1_charAt z m [vR 24, vI i] (fun x m' => m' = m ∧ x = zTab 24 i) := by
  obtain ⟨e, rfl⟩ : ∃ e, d = e + 1 := ⟨d - 1, by omega⟩
  obtain ⟨h1, h2, h3⟩ := zTab_24 h
  refine r_entry mx216 rfl ?_
  refine r_loadI a216_0 rfl ?_
  refine r_loadA a216_1 rfl (by decide) ?_
  refine r_alenT a216_2 (by omega) ?_
  rw [zLen_24]
  refine r_callV_2 a216_3 (Nat.le_of_ble_eq_true rfl) (le_mx mx215 (Nat.le_of_ble_eq_true rfl)) (Or.inl rfl) (c_J0_checkIndex e z m i ((6 : Nat) : Int) (by omega) (by omega)) (fun m_3 h_3 => ?_)
  rw [h_3]
  refine r_loadA a216_6 rfl (by decide) ?_
  refine r_loadI a216_7 rfl ?_
  refine r_baldT a216_8 (by omega) (by rw [zLen_24]; omega) ?_
  refine r_pushI a216_9 ?_
  refine r_and a216_12 ?_
  rw [h1]
  refine r_i2c a216_13 (by omega) ?_
  refine r_retCq a216_14 (by omega) ?_
  exact ⟨rfl, rfl⟩
theorem c_J0_charAt_11 (d z : Nat) (m : XM) (i : Int) (hd : 3 ≤ d) (h : 0 ≤ i ∧ i < 6) : CI d k_J0_charAt z m [vR 11, vI i] (fun x m' => m' = m ∧ x = zTab 24 i) := by
  obtain ⟨e, rfl⟩ : ∃ e, d = e + 1 := ⟨d - 1, by omega⟩
  obtain ⟨h1, h2, h3⟩ := zTab_24 h
  refine r_entry mx210 rfl ?_
  refine r_loadA a210_0 rfl (by decide) ?_
  refine r_callI_1 a210_1 (Nat.le_of_ble_eq_true rfl) (le_mx mx214 (Nat.le_of_ble_eq_true rfl)) (Or.inr (recv_str ow214 (by omega) (by omega))) (c_J0_isLatin1_11 e z m) (fun x_1 m_1 h_1 => ?_)
  obtain ⟨hm_1, h_1⟩ := h_1
  rw [hm_1]
  refine r_ifeq a210_4 (fun h_4 => ?_) (fun h_4 => ?_)
  · exfalso
    omega
  · refine r_loadA a210_7 rfl (by decide) ?_
    refine r_strV a210_8 (by decide) ?_
    refine r_loadI a210_11 rfl ?_
    refine r_callI_2 a210_12 (Nat.le_of_ble_eq_true rfl) (le_mx mx216 (Nat.le_of_ble_eq_true rfl)) (Or.inl rfl) (c_J1_charAt_24 e z m i (by omega) h) (fun x_12 m_12 h_12 => ?_)
    obtain ⟨hm_12, h_12⟩ := h_12
    rw [hm_12]
    refine r_retCq a210_15 (by omega) ?_
    exact ⟨rfl, h_12⟩
theorem zLen_25 : zLen 25 = 3 := by decide
theorem zTab_25 {i : Int} (h : 0 ≤ i ∧ i < 3) : iAnd (zTab 25 i) 255 = zTab 25 i ∧ 0 ≤ zTab 25 i ∧ zTab 25 i ≤ 127 := by
  have hc : i = 0 ∨ i = 1 ∨ i = 2 := by omega
  rcases hc with q | q | q <;> subst q <;> decide
theorem c_J0_coder_12 (d z : Nat) (m : XM) : CI d k_J0_coder z m [vR 12] (fun x m' => m' = m ∧ x = 0) := by
  refine r_entry mx213 rfl ?_
  refine r_pushI a213_0 ?_
  refine r_ifeq a213_3 (fun h_3 => ?_) (fun h_3 => ?_)
  · exfalso
    omega
  · refine r_loadA a213_6 rfl (by decide) ?_
    refine r_strC a213_7 (by decide) ?_
    refine r_goto a213_10 ?_
    refine r_retBq a213_14 (by omega) ?_
    exact ⟨rfl, rfl⟩
theorem c_J0_isLatin1_12 (d z : Nat) (m : XM) : CI d k_J0_isLatin1 z m [vR 12] (fun x m' => m' = m ∧ x = 1) := by
  refine r_entry mx214 rfl ?_
  refine r_pushI a214_0 ?_
  refine r_ifeq a214_3 (fun h_3 => ?_) (fun h_3 => ?_)
  · exfalso
    omega
  · refine r_loadA a214_6 rfl (by decide) ?_
    refine r_strC a214_7 (by decide) ?_
    refine r_ifne a214_10 (fun h_10 => ?_) (fun h_10 => ?_)
    · exfalso
      omega
    · refine r_pushI a214_13 ?_
      refine r_goto a214_14 ?_
      refine r_retZq a214_18 (by omega) ?_
      exact ⟨rfl, rfl⟩
theorem c_J0_length_12 (d z : Nat) (m : XM) (hd : 1 ≤ d) : CI d k_J0_length z m [vR 12] (fun x m' => m' = m ∧ x = 3) := by
  obtain ⟨e, rfl⟩ : ∃ e, d = e + 1 := ⟨d - 1, by omega⟩
  have hs : iShr ((3 : Nat) : Int) 0 = 3 := by decide
  refine r_entry mx209 rfl ?_
  refine r_loadA a209_0 rfl (by decide) ?_
  refine r_strV a209_1 (by decide) ?_
  refine r_alenT a209_4 (by omega) ?_
  refine r_loadA a209_5 rfl (by decide) ?_
  refine r_callI_1 a209_6 (Nat.le_of_ble_eq_true rfl) (le_mx mx213 (Nat.le_of_ble_eq_true rfl)) (Or.inr (recv_str ow213 (by omega) (by omega))) (c_J0_coder_12 e z m) (fun x_6 m_6 h_6 => ?_)
  obtain ⟨hm_6, h_6⟩ := h_6
  rw [hm_6]
  rw [h_6, show zLen (12 + 13) = 3 from zLen_25]
  refine r_shr a209_9 ?_
  rw [hs]
  refine r_retIq a209_10 ?_
  exact ⟨rfl, rfl⟩
theorem c_J1_charAt_25 (d z : Nat) (m : XM) (i : Int) (hd : 2 ≤ d) (h : 0 ≤ i ∧ i < 3) : CI d k_J1_charAt z m [vR 25, vI i] (fun x m' => m' = m ∧ x = zTab 25 i) := by
  obtain ⟨e, rfl⟩ : ∃ e, d = e + 1 := ⟨d - 1, by omega⟩
  obtain ⟨h1, h2, h3⟩ := zTab_25 h
  refine r_entry mx216 rfl ?_
  refine r_loadI a216_0 rfl ?_
  refine r_loadA a216_1 rfl (by decide) ?_
  refine r_alenT a216_2 (by omega) ?_
  rw [zLen_25]
  refine r_callV_2 a216_3 (Nat.le_of_ble_eq_true rfl) (le_mx mx215 (Nat.le_of_ble_eq_true rfl)) (Or.inl rfl) (c_J0_checkIndex e z m i ((3 : Nat) : Int) (by omega) (by omega)) (fun m_3 h_3 => ?_)
  rw [h_3]
  refine r_loadA a216_6 rfl (by decide) ?_
  refine r_loadI a216_7 rfl ?_
  refine r_baldT a216_8 (by omega) (by rw [zLen_25]; omega) ?_
  refine r_pushI a216_9 ?_
  refine r_and a216_12 ?_
  rw [h1]
  refine r_i2c a216_13 (by omega) ?_
  refine r_retCq a216_14 (by omega) ?_
  exact ⟨rfl, rfl⟩
theorem c_J0_charAt_12 (d z : Nat) (m : XM) (i : Int) (hd : 3 ≤ d) (h : 0 ≤ i ∧ i < 3) : CI d k_J0_charAt z m [vR 12, vI i] (fun x m' => m' = m ∧ x = zTab 25 i) := by
  obtain ⟨e, rfl⟩ : ∃ e, d = e + 1 := ⟨d - 1, by omega⟩
  obtain ⟨h1, h2, h3⟩ := zTab_25 h
  refine r_entry mx210 rfl ?_
  refine r_loadA a210_0 rfl (by decide) ?_
  refine r_callI_1 a210_1 (Nat.le_of_ble_eq_true rfl) (le_mx mx214 (Nat.le_of_ble_eq_true rfl)) (Or.inr (recv_str ow214 (by omega) (by omega))) (c_J0_isLatin1_12 e z m) (fun x_1 m_1 h_1 => ?_)
  obtain ⟨hm_1, h_1⟩ := h_1
  rw [hm_1]
  refine r_ifeq a210_4 (fun h_4 => ?_) (fun h_4 => ?_)
  · exfalso
    omega
  · refine r_loadA a210_7 rfl (by decide) ?_
    refine r_strV a210_8 (by decide) ?_
    refine r_loadI a210_11 rfl ?_
    refine r_callI_2 a210_12 (Nat.le_of_ble_eq_true rfl) (le_mx mx216 (Nat.le_of_ble_eq_true rfl)) (Or.inl rfl) (c_J1_charAt_25 e z m i (by omega) h) (fun x_12 m_12 h_12 => ?_)
    obtain ⟨hm_12, h_12⟩ := h_12
    rw [hm_12]
    refine r_retCq a210_15 (by omega) ?_
    exact ⟨rfl, h_12⟩
theorem zLen_26 : zLen 26 = 4 := by decide
theorem zTab_26 {i : Int} (h : 0 ≤ i ∧ i < 4) : iAnd (zTab 26 i) 255 = zTab 26 i ∧ 0 ≤ zTab 26 i ∧ zTab 26 i ≤ 127 := by
  have hc : i = 0 ∨ i = 1 ∨ i = 2 ∨ i = 3 := by omega
  rcases hc with q | q | q | q <;> subst q <;> decide
theorem c_J0_coder_13 (d z : Nat) (m : XM) : CI d k_J0_coder z m [vR 13] (fun x m' => m' = m ∧ x = 0) := by
  refine r_entry mx213 rfl ?_
  refine r_pushI a213_0 ?_
  refine r_ifeq a213_3 (fun h_3 => ?_) (fun h_3 => ?_)
  · exfalso
    omega
  · refine r_loadA a213_6 rfl (by decide) ?_
    refine r_strC a213_7 (by decide) ?_
    refine r_goto a213_10 ?_
    refine r_retBq a213_14 (by omega) ?_
    exact ⟨rfl, rfl⟩
theorem c_J0_isLatin1_13 (d z : Nat) (m : XM) : CI d k_J0_isLatin1 z m [vR 13] (fun x m' => m' = m ∧ x = 1) := by
  refine r_entry mx214 rfl ?_
  refine r_pushI a214_0 ?_
  refine r_ifeq a214_3 (fun h_3 => ?_) (fun h_3 => ?_)
  · exfalso
    omega
  · refine r_loadA a214_6 rfl (by decide) ?_
    refine r_strC a214_7 (by decide) ?_
    refine r_ifne a214_10 (fun h_10 => ?_) (fun h_10 => ?_)
    · exfalso
      omega
    · refine r_pushI a214_13 ?_
      refine r_goto a214_14 ?_
      refine r_retZq a214_18 (by omega) ?_
      exact ⟨rfl, rfl⟩
theorem c_J0_length_13 (d z : Nat) (m : XM) (hd : 1 ≤ d) : CI d k_J0_length z m [vR 13] (fun x m' => m' = m ∧ x = 4) := by
  obtain ⟨e, rfl⟩ : ∃ e, d = e + 1 := ⟨d - 1, by omega⟩
  have hs : iShr ((4 : Nat) : Int) 0 = 4 := by decide
  refine r_entry mx209 rfl ?_
  refine r_loadA a209_0 rfl (by decide) ?_
  refine r_strV a209_1 (by decide) ?_
  refine r_alenT a209_4 (by omega) ?_
  refine r_loadA a209_5 rfl (by decide) ?_
  refine r_callI_1 a209_6 (Nat.le_of_ble_eq_true rfl) (le_mx mx213 (Nat.le_of_ble_eq_true rfl)) (Or.inr (recv_str ow213 (by omega) (by omega))) (c_J0_coder_13 e z m) (fun x_6 m_6 h_6 => ?_)
  obtain ⟨hm_6, h_6⟩ := h_6
  rw [hm_6]
  rw [h_6, show zLen (13 + 13) = 4 from zLen_26]
  refine r_shr a209_9 ?_
  rw [hs]
  refine r_retIq a209_10 ?_
  exact ⟨rfl, rfl⟩
theorem c_J1_charAt_26 (d z : Nat) (m : XM) (i : Int) (hd : 2 ≤ d) (h : 0 ≤ i ∧ i < 4) : CI d k_J1_charAt z m [vR 26, vI i] (fun x m' => m' = m ∧ x = zTab 26 i) := by
  obtain ⟨e, rfl⟩ : ∃ e, d = e + 1 := ⟨d - 1, by omega⟩
  obtain ⟨h1, h2, h3⟩ := zTab_26 h
  refine r_entry mx216 rfl ?_
  refine r_loadI a216_0 rfl ?_
  refine r_loadA a216_1 rfl (by decide) ?_
  refine r_alenT a216_2 (by omega) ?_
  rw [zLen_26]
  refine r_callV_2 a216_3 (Nat.le_of_ble_eq_true rfl) (le_mx mx215 (Nat.le_of_ble_eq_true rfl)) (Or.inl rfl) (c_J0_checkIndex e z m i ((4 : Nat) : Int) (by omega) (by omega)) (fun m_3 h_3 => ?_)
  rw [h_3]
  refine r_loadA a216_6 rfl (by decide) ?_
  refine r_loadI a216_7 rfl ?_
  refine r_baldT a216_8 (by omega) (by rw [zLen_26]; omega) ?_
  refine r_pushI a216_9 ?_
  refine r_and a216_12 ?_
  rw [h1]
  refine r_i2c a216_13 (by omega) ?_
  refine r_retCq a216_14 (by omega) ?_
  exact ⟨rfl, rfl⟩
theorem c_J0_charAt_13 (d z : Nat) (m : XM) (i : Int) (hd : 3 ≤ d) (h : 0 ≤ i ∧ i < 4) : CI d k_J0_charAt z m [vR 13, vI i] (fun x m' => m' = m ∧ x = zTab 26 i) := by
  obtain ⟨e, rfl⟩ : ∃ e, d = e + 1 := ⟨d - 1, by omega⟩
  obtain ⟨h1, h2, h3⟩ := zTab_26 h
  refine r_entry mx210 rfl ?_
  refine r_loadA a210_0 rfl (by decide) ?_
  refine r_callI_1 a210_1 (Nat.le_of_ble_eq_true rfl) (le_mx mx214 (Nat.le_of_ble_eq_true rfl)) (Or.inr (recv_str ow214 (by omega) (by omega))) (c_J0_isLatin1_13 e z m) (fun x_1 m_1 h_1 => ?_)
  obtain ⟨hm_1, h_1⟩ := h_1
  rw [hm_1]
  refine r_ifeq a210_4 (fun h_4 => ?_) (fun h_4 => ?_)
  · exfalso
    omega
  · refine r_loadA a210_7 rfl (by decide) ?_
    refine r_strV a210_8 (by decide) ?_
    refine r_loadI a210_11 rfl ?_
    refine r_callI_2 a210_12 (Nat.le_of_ble_eq_true rfl) (le_mx mx216 (Nat.le_of_ble_eq_true rfl)) (Or.inl rfl) (c_J1_charAt_26 e z m i (by omega) h) (fun x_12 m_12 h_12 => ?_)
    obtain ⟨hm_12, h_12⟩ := h_12
    rw [hm_12]
    refine r_retCq a210_15 (by omega) ?_
    exact ⟨rfl, h_12⟩
theorem zLen_27 : zLen 27 = 4 := by decide
theorem zTab_27 {i : Int} (h : 0 ≤ i ∧ i < 4) : iAnd (zTab 27 i) 255 = zTab 27 i ∧ 0 ≤ zTab 27 i ∧ zTab 27 i ≤ 127 := by
  have hc : i = 0 ∨ i = 1 ∨ i = 2 ∨ i = 3 := by omega
  rcases hc with q | q | q | q <;> subst q <;> decide
theorem c_J0_coder_14 (d z : Nat) (m : XM) : CI d k_J0_coder z m [vR 14] (fun x m' => m' = m ∧ x = 0) := by
  refine r_entry mx213 rfl ?_
  refine r_pushI a213_0 ?_
  refine r_ifeq a213_3 (fun h_3 => ?_) (fun h_3 => ?_)
  · exfalso
    omega
  · refine r_loadA a213_6 rfl (by decide) ?_
    refine r_strC a213_7 (by decide) ?_
    refine r_goto a213_10 ?_
    refine r_retBq a213_14 (by omega) ?_
    exact ⟨rfl, rfl⟩
theorem c_J0_isLatin1_14 (d z : Nat) (m : XM) : CI d k_J0_isLatin1 z m [vR 14] (fun x m' => m' = m ∧ x = 1) := by
  refine r_entry mx214 rfl ?_
  refine r_pushI a214_0 ?_
  refine r_ifeq a214_3 (fun h_3 => ?_) (fun h_3 => ?_)
  · exfalso
    omega
  · refine r_loadA a214_6 rfl (by decide) ?_
    refine r_strC a214_7 (by decide) ?_
    refine r_ifne a214_10 (fun h_10 => ?_) (fun h_10 => ?_)
    · exfalso
      omega
    · refine r_pushI a214_13 ?_
      refine r_goto a214_14 ?_
      refine r_retZq a214_18 (by omega) ?_
      exact ⟨rfl, rfl⟩
theorem c_J0_length_14 (d z : Nat) (m : XM) (hd : 1 ≤ d) : CI d k_J0_length z m [vR 14] (fun x m' => m' = m ∧ x = 4) := by
  obtain ⟨e, rfl⟩ : ∃ e, d = e + 1 := ⟨d - 1, by omega⟩
  have hs : iShr ((4 : Nat) : Int) 0 = 4 := by decide
  refine r_entry mx209 rfl ?_
  refine r_loadA a209_0 rfl (by decide) ?_
  refine r_strV a209_1 (by decide) ?_
  refine r_alenT a209_4 (by omega) ?_
  refine r_loadA a209_5 rfl (by decide) ?_
  refine r_callI_1 a209_6 (Nat.le_of_ble_eq_true rfl) (le_mx mx213 (Nat.le_of_ble_eq_true rfl)) (Or.inr (recv_str ow213 (by omega) (by omega))) (c_J0_coder_14 e z m) (fun x_6 m_6 h_6 => ?_)
  obtain ⟨hm_6, h_6⟩ := h_6
  rw [hm_6]
  rw [h_6, show zLen (14 + 13) = 4 from zLen_27]
  refine r_shr a209_9 ?_
  rw [hs]
  refine r_retIq a209_10 ?_
  exact ⟨rfl, rfl⟩
theorem c_J1_charAt_27 (d z : Nat) (m : XM) (i : Int) (hd : 2 ≤ d) (h : 0 ≤ i ∧ i < 4) : CI d k_J1_charAt z m [vR 27, vI i] (fun x m' => m' = m ∧ x = zTab 27 i) := by
  obtain ⟨e, rfl⟩ : ∃ e, d = e + 1 := ⟨d - 1, by omega⟩
  obtain ⟨h1, h2, h3⟩ := zTab_27 h
  refine r_entry mx216 rfl ?_
  refine r_loadI a216_0 rfl ?_
  refine r_loadA a216_1 rfl (by decide) ?_
  refine r_alenT a216_2 (by omega) ?_
  rw [zLen_27]
  refine r_callV_2 a216_3 (Nat.le_of_ble_eq_true rfl) (le_mx mx215 (Nat.le_of_ble_eq_true rfl)) (Or.inl rfl) (c_J0_checkIndex e z m i ((4 : Nat) : Int) (by omega) (by omega)) (fun m_3 h_3 => ?_)
  rw [h_3]
  refine r_loadA a216_6 rfl (by decide) ?_
  refine r_loadI a216_7 rfl ?_
  refine r_baldT a216_8 (by omega) (by rw [zLen_27]; omega) ?_
  refine r_pushI a216_9 ?_
  refine r_and a216_12 ?_
  rw [h1]
  refine r_i2c a216_13 (by omega) ?_
  refine r_retCq a216_14 (by omega) ?_
  exact ⟨rfl, rfl⟩
theorem c_J0_charAt_14 (d z : Nat) (m : XM) (i : Int) (hd : 3 ≤ d) (h : 0 ≤ i ∧ i < 4) : CI d k_J0_charAt z m [vR 14, vI i] (fun x m' => m' = m ∧ x = zTab 27 i) := by
  obtain ⟨e, rfl⟩ : ∃ e, d = e + 1 := ⟨d - 1, by omega⟩
  obtain ⟨h1, h2, h3⟩ := zTab_27 h
  refine r_entry mx210 rfl ?_
  refine r_loadA a210_0 rfl (by decide) ?_
  refine r_callI_1 a210_1 (Nat.le_of_ble_eq_true rfl) (le_mx mx214 (Nat.le_of_ble_eq_true rfl)) (Or.inr (recv_str ow214 (by omega) (by omega))) (c_J0_isLatin1_14 e z m) (fun x_1 m_1 h_1 => ?_)
  obtain ⟨hm_1, h_1⟩ := h_1
  rw [hm_1]
  refine r_ifeq a210_4 (fun h_4 => ?_) (fun h_4 => ?_)
  · exfalso
    omega
  · refine r_loadA a210_7 rfl (by decide) ?_
    refine r_strV a210_8 (by decide) ?_
    refine r_loadI a210_11 rfl ?_
    refine r_callI_2 a210_12 (Nat.le_of_ble_eq_true rfl) (le_mx mx216 (Nat.le_of_ble_eq_true rfl)) (Or.inl rfl) (c_J1_charAt_27 e z m i (by omega) h) (fun x_12 m_12 h_12 => ?_)
    obtain ⟨hm_12, h_12⟩ := h_12
    rw [hm_12]
    refine r_retCq a210_15 (by omega) ?_
    exact ⟨rfl, h_12⟩
theorem zLen_28 : zLen 28 = 4 := by decide
theorem zTab_28 {i : Int} (h : 0 ≤ i ∧ i < 4) : iAnd (zTab 28 i) 255 = zTab 28 i ∧ 0 ≤ zTab 28 i ∧ zTab 28 i ≤ 127 := by
  have hc : i = 0 ∨ i = 1 ∨ i = 2 ∨ i = 3 := by omega
  rcases hc with q | q | q | q <;> subst q <;> decide
theorem c_J0_coder_15 (d z : Nat) (m : XM) : CI d k_J0_coder z m [vR 15] (fun x m' => m' = m ∧ x = 0) := by
  refine r_entry mx213 rfl ?_
  refine r_pushI a213_0 ?_
  refine r_ifeq a213_3 (fun h_3 => ?_) (fun h_3 => ?_)
  · exfalso
    omega
  · refine r_loadA a213_6 rfl (by decide) ?_
    refine r_strC a213_7 (by decide) ?_
    refine r_goto a213_10 ?_
    refine r_retBq a213_14 (by omega) ?_
    exact ⟨rfl, rfl⟩
theorem c_J0_isLatin1_15 (d z : Nat) (m : XM) : CI d k_J0_isLatin1 z m [vR 15] (fun x m' => m' = m ∧ x = 1) := by
  refine r_entry mx214 rfl ?_
  refine r_pushI a214_0 ?_
  refine r_ifeq a214_3 (fun h_3 => ?_) (fun h_3 => ?_)
  · exfalso
    omega
  · refine r_loadA a214_6 rfl (by decide) ?_
    refine r_strC a214_7 (by decide) ?_
    refine r_ifne a214_10 (fun h_10 => ?_) (fun h_10 => ?_)
    · exfalso
      omega
    · refine r_pushI a214_13 ?_
      refine r_goto a214_14 ?_
      refine r_retZq a214_18 (by omega) ?_
      exact ⟨rfl, rfl⟩
theorem c_J0_length_15 (d z : Nat) (m : XM) (hd : 1 ≤ d) : CI d k_J0_length z m [vR 15] (fun x m' => m' = m ∧ x = 4) := by
  obtain ⟨e, rfl⟩ : ∃ e, d = e + 1 := ⟨d - 1, by omega⟩
  have hs : iShr ((4 : Nat) : Int) 0 = 4 := by decide
  refine r_entry mx209 rfl ?_
  refine r_loadA a209_0 rfl (by decide) ?_
  refine r_strV a209_1 (by decide) ?_
  refine r_alenT a209_4 (by omega) ?_
  refine r_loadA a209_5 rfl (by decide) ?_
  refine r_callI_1 a209_6 (Nat.le_of_ble_eq_true rfl) (le_mx mx213 (Nat.le_of_ble_eq_true rfl)) (Or.inr (recv_str ow213 (by omega) (by omega))) (c_J0_coder_15 e z m) (fun x_6 m_6 h_6 => ?_)
  obtain ⟨hm_6, h_6⟩ := h_6
  rw [hm_6]
  rw [h_6, show zLen (15 + 13) = 4 from zLen_28]
  refine r_shr a209_9 ?_
  rw [hs]
  refine r_retIq a209_10 ?_
  exact ⟨rfl, rfl⟩
theorem c_J1_charAt_28 (d z : Nat) (m : XM) (i : Int) (hd : 2 ≤ d) (h : 0 ≤ i ∧ i < 4) : CI d k_J1_charAt z m [vR 28, vI i] (fun x m' => m' = m ∧ x = zTab 28 i) := by
  obtain ⟨e, rfl⟩ : ∃ e, d = e + 1 := ⟨d - 1, by omega⟩
  obtain ⟨h1, h2, h3⟩ := zTab_28 h
  refine r_entry mx216 rfl ?_
  refine r_loadI a216_0 rfl ?_
  refine r_loadA a216_1 rfl (by decide) ?_
  refine r_alenT a216_2 (by omega) ?_
  rw [zLen_28]
  refine r_callV_2 a216_3 (Nat.le_of_ble_eq_true rfl) (le_mx mx215 (Nat.le_of_ble_eq_true rfl)) (Or.inl rfl) (c_J0_checkIndex e z m i ((4 : Nat) : Int) (by omega) (by omega)) (fun m_3 h_3 => ?_)
  rw [h_3]
  refine r_loadA a216_6 rfl (by decide) ?_
  refine r_loadI a216_7 rfl ?_
  refine r_baldT a216_8 (by omega) (by rw [zLen_28]; omega) ?_
  refine r_pushI a216_9 ?_
  refine r_and a216_12 ?_
  rw [h1]
  refine r_i2c a216_13 (by omega) ?_
  refine r_retCq a216_14 (by omega) ?_
  exact ⟨rfl, rfl⟩
theorem c_J0_charAt_15 (d z : Nat) (m : XM) (i : Int) (hd : 3 ≤ d) (h : 0 ≤ i ∧ i < 4) : CI d k_J0_charAt z m [vR 15, vI i] (fun x m' => m' = m ∧ x = zTab 28 i) := by
  obtain ⟨e, rfl⟩ : ∃ e, d = e + 1 := ⟨d - 1, by omega⟩
  obtain ⟨h1, h2, h3⟩ := zTab_28 h
  refine r_entry mx210 rfl ?_
  refine r_loadA a210_0 rfl (by decide) ?_
  refine r_callI_1 a210_1 (Nat.le_of_ble_eq_true rfl) (le_mx mx214 (Nat.le_of_ble_eq_true rfl)) (Or.inr (recv_str ow214 (by omega) (by omega))) (c_J0_isLatin1_15 e z m) (fun x_1 m_1 h_1 => ?_)
  obtain ⟨hm_1, h_1⟩ := h_1
  rw [hm_1]
  refine r_ifeq a210_4 (fun h_4 => ?_) (fun h_4 => ?_)
  · exfalso
    omega
  · refine r_loadA a210_7 rfl (by decide) ?_
    refine r_strV a210_8 (by decide) ?_
    refine r_loadI a210_11 rfl ?_
    refine r_callI_2 a210_12 (Nat.le_of_ble_eq_true rfl) (le_mx mx216 (Nat.le_of_ble_eq_true rfl)) (Or.inl rfl) (c_J1_charAt_28 e z m i (by omega) h) (fun x_12 m_12 h_12 => ?_)
    obtain ⟨hm_12, h_12⟩ := h_12
    rw [hm_12]
    refine r_retCq a210_15 (by omega) ?_
    exact ⟨rfl, h_12⟩
theorem zLen_29 : zLen 29 = 6 := by decide
theorem zTab_29 {i : Int} (h : 0 ≤ i ∧ i < 6) : iAnd (zTab 29 i) 255 = zTab 29 i ∧ 0 ≤ zTab 29 i ∧ zTab 29 i ≤ 127 := by
  have hc : i = 0 ∨ i = 1 ∨ i = 2 ∨ i = 3 ∨ i = 4 ∨ i = 5 := by omega
  rcases hc with q | q | q | q | q | q <;> subst q <;> decide
theorem c_J0_coder_16 (d z : Nat) (m : XM) : CI d k_J0_coder z m [vR 16] (fun x m' => m' = m ∧ x = 0) := by
  refine r_entry mx213 rfl ?_
  refine r_pushI a213_0 ?_
  refine r_ifeq a213_3 (fun h_3 => ?_) (fun h_3 => ?_)
  · exfalso
    omega
  · refine r_loadA a213_6 rfl (by decide) ?_
    refine r_strC a213_7 (by decide) ?_
    refine r_goto a213_10 ?_
    refine r_retBq a213_14 (by omega) ?_
    exact ⟨rfl, rfl⟩
theorem c_J0_isLatin1_16 (d z : Nat) (m : XM) : CI d k_J0_isLatin1 z m [vR 16] (fun x m' => m' = m ∧ x = 1) := by
  refine r_entry mx214 rfl ?_
  refine r_pushI a214_0 ?_
  refine r_ifeq a214_3 (fun h_3 => ?_) (fun h_3 => ?_)
  · exfalso
    omega
  · refine r_loadA a214_6 rfl (by decide) ?_
    refine r_strC a214_7 (by decide) ?_
    refine r_ifne a214_10 (fun h_10 => ?_) (fun h_10 => ?_)
    · exfalso
      omega
    · refine r_pushI a214_13 ?_
      refine r_goto a214_14 ?_
      refine r_retZq a214_18 (by omega) ?_
      exact ⟨rfl, rfl⟩
theorem c_J0_length_16 (d z : Nat) (m : XM) (hd : 1 ≤ d) : CI d k_J0_length z m [vR 16] (fun x m' => m' = m ∧ x = 6) := by
  obtain ⟨e, rfl⟩ : ∃ e, d = e + 1 := ⟨d - 1, by omega⟩
  have hs : iShr ((6 : Nat) : Int) 0 = 6 := by decide
  refine r_entry mx209 rfl ?_
  refine r_loadA a209_0 rfl (by decide) ?_
  refine r_strV a209_1 (by decide) ?_
  refine r_alenT a209_4 (by omega) ?_
  refine r_loadA a209_5 rfl (by decide) ?_
  refine r_callI_1 a209_6 (Nat.le_of_ble_eq_true rfl) (le_mx mx213 (Nat.le_of_ble_eq_true rfl)) (Or.inr (recv_str ow213 (by omega) (by omega))) (c_J0_coder_16 e z m) (fun x_6 m_6 h_6 => ?_)
  obtain ⟨hm_6, h_6⟩ := h_6
  rw [hm_6]
  rw [h_6, show zLen (16 + 13) = 6 from zLen_29]
  refine r_shr a209_9 ?_
  rw [hs]
  refine r_retIq a209_10 ?_
  exact ⟨rfl, rfl⟩
theorem c_J1_charAt_29 (d z : Nat) (m : XM) (i : Int) (hd : 2 ≤ d) (h : 0 ≤ i ∧ i < 6) : CI d k_J1_charAt z m [vR 29, vI i] (fun x m' => m' = m ∧ x = zTab 29 i) := by
  obtain ⟨e, rfl⟩ : ∃ e, d = e + 1 := ⟨d - 1, by omega⟩
  obtain ⟨h1, h2, h3⟩ := zTab_29 h
  refine r_entry mx216 rfl ?_
  refine r_loadI a216_0 rfl ?_
  refine r_loadA a216_1 rfl (by decide) ?_
  refine r_alenT a216_2 (by omega) ?_
  rw [zLen_29]
  refine r_callV_2 a216_3 (Nat.le_of_ble_eq_true rfl) (le_mx mx215 (Nat.le_of_ble_eq_true rfl)) (Or.inl rfl) (c_J0_checkIndex e z m i ((6 : Nat) : Int) (by omega) (by omega)) (fun m_3 h_3 => ?_)
  rw [h_3]
  refine r_loadA a216_6 rfl (by decide) ?_
  refine r_loadI a216_7 rfl ?_
  refine r_baldT a216_8 (by omega) (by rw [zLen_29]; omega) ?_
  refine r_pushI a216_9 ?_
  refine r_and a216_12 ?_
  rw [h1]
  refine r_i2c a216_13 (by omega) ?_
  refine r_retCq a216_14 (by omega) ?_
  exact ⟨rfl, rfl⟩
theorem c_J0_charAt_16 (d z : Nat) (m : XM) (i : Int) (hd : 3 ≤ d) (h : 0 ≤ i ∧ i < 6) : CI d k_J0_charAt z m [vR 16, vI i] (fun x m' => m' = m ∧ x = zTab 29 i) := by
  obtain ⟨e, rfl⟩ : ∃ e, d = e + 1 := ⟨d - 1, by omega⟩
  obtain ⟨h1, h2, h3⟩ := zTab_29 h
  refine r_entry mx210 rfl ?_
  refine r_loadA a210_0 rfl (by decide) ?_
  refine r_callI_1 a210_1 (Nat.le_of_ble_eq_true rfl) (le_mx mx214 (Nat.le_of_ble_eq_true rfl)) (Or.inr (recv_str ow214 (by omega) (by omega))) (c_J0_isLatin1_16 e z m) (fun x_1 m_1 h_1 => ?_)
  obtain ⟨hm_1, h_1⟩ := h_1
  rw [hm_1]
  refine r_ifeq a210_4 (fun h_4 => ?_) (fun h_4 => ?_)
  · exfalso
    omega
  · refine r_loadA a210_7 rfl (by decide) ?_
    refine r_strV a210_8 (by decide) ?_
    refine r_loadI a210_11 rfl ?_
    refine r_callI_2 a210_12 (Nat.le_of_ble_eq_true rfl) (le_mx mx216 (Nat.le_of_ble_eq_true rfl)) (Or.inl rfl) (c_J1_charAt_29 e z m i (by omega) h) (fun x_12 m_12 h_12 => ?_)
    obtain ⟨hm_12, h_12⟩ := h_12
    rw [hm_12]
    refine r_retCq a210_15 (by omega) ?_
    exact ⟨rfl, h_12⟩
theorem zLen_30 : zLen 30 = 3 := by decide
theorem zTab_30 {i : Int} (h : 0 ≤ i ∧ i < 3) : iAnd (zTab 30 i) 255 = zTab 30 i ∧ 0 ≤ zTab 30 i ∧ zTab 30 i ≤ 127 := by
  have hc : i = 0 ∨ i = 1 ∨ i = 2 := by omega
  rcases hc with q | q | q <;> subst q <;> decide
theorem c_J0_coder_17 (d z : Nat) (m : XM) : CI d k_J0_coder z m [vR 17] (fun x m' => m' = m ∧ x = 0) := by
  refine r_entry mx213 rfl ?_
  refine r_pushI a213_0 ?_
  refine r_ifeq a213_3 (fun h_3 => ?_) (fun h_3 => ?_)
  · exfalso
    omega
  · refine r_loadA a213_6 rfl (by decide) ?_
    refine r_strC a213_7 (by decide) ?_
    refine r_goto a213_10 ?_
    refine r_retBq a213_14 (by omega) ?_
    exact ⟨rfl, rfl⟩
theorem c_J0_isLatin1_17 (d z : Nat) (m : XM) : CI d k_J0_isLatin1 z m [vR 17] (fun x m' => m' = m ∧ x = 1) := by
  refine r_entry mx214 rfl ?_
  refine r_pushI a214_0 ?_
  refine r_ifeq a214_3 (fun h_3 => ?_) (fun h_3 => ?_)
  · exfalso
    omega
  · refine r_loadA a214_6 rfl (by decide) ?_
    refine r_strC a214_7 (by decide) ?_
    refine r_ifne a214_10 (fun h_10 => ?_) (fun h_10 => ?_)
    · exfalso
      omega
    · refine r_pushI a214_13 ?_
      refine r_goto a214_14 ?_
      refine r_retZq a214_18 (by omega) ?_
      exact ⟨rfl, rfl⟩
theorem c_J0_length_17 (d z : Nat) (m : XM) (hd : 1 ≤ d) : CI d k_J0_length z m [vR 17] (fun x m' => m' = m ∧ x = 3) := by
  obtain ⟨e, rfl⟩ : ∃ e, d = e + 1 := ⟨d - 1, by omega⟩
  have hs : iShr ((3 : Nat) : Int) 0 = 3 := by decide
  refine r_entry mx209 rfl ?_
  refine r_loadA a209_0 rfl (by decide) ?_
  refine r_strV a209_1 (by decide) ?_
  refine r_alenT a209_4 (by omega) ?_
  refine r_loadA a209_5 rfl (by decide) ?_
  refine r_callI_1 a209_6 (Nat.le_of_ble_eq_true rfl) (le_mx mx213 (Nat.le_of_ble_eq_true rfl)) (Or.inr (recv_str ow213 (by omega) (by omega))) (c_J0_coder_17 e z m) (fun x_6 m_6 h_6 => ?_)
  obtain ⟨hm_6, h_6⟩ := h_6
  rw [hm_6]
  rw [h_6, show zLen (17 + 13) = 3 from zLen_30]
  refine r_shr a209_9 ?_
  rw [hs]
  refine r_retIq a209_10 ?_
  exact ⟨rfl, rfl⟩
theorem c_J1_charAt_30 (d z : Nat) (m : XM) (i : Int) (hd : 2 ≤ d) (h : 0 ≤ i ∧ i < 3) : CI d k_J1_charAt z m [vR 30, vI i] (fun x m' => m' = m ∧ x = zTab 30 i) := by
  obtain ⟨e, rfl⟩ : ∃ e, d = e + 1 := ⟨d - 1, by omega⟩
  obtain ⟨h1, h2, h3⟩ := zTab_30 h
  refine r_entry mx216 rfl ?_
  refine r_loadI a216_0 rfl ?_
  refine r_loadA a216_1 rfl (by decide) ?_
  refine r_alenT a216_2 (by omega) ?_
  rw [zLen_30]
  refine r_callV_2 a216_3 (Nat.le_of_ble_eq_true rfl) (le_mx mx215 (Nat.le_of_ble_eq_true rfl)) (Or.inl rfl) (c_J0_checkIndex e z m i ((3 : Nat) : Int) (by omega) (by omega)) (fun m_3 h_3 => ?_)
  rw [h_3]
  refine r_loadA a216_6 rfl (by decide) ?_
  refine r_loadI a216_7 rfl ?_
  refine r_baldT a216_8 (by omega) (by rw [zLen_30]; omega) ?_
  refine r_pushI a216_9 ?_
  refine r_and a216_12 ?_
  rw [h1]
  refine r_i2c a216_13 (by omega) ?_
  refine r_retCq a216_14 (by omega) ?_
  exact ⟨rfl, rfl⟩
theorem c_J0_charAt_17 (d z : Nat) (m : XM) (i : Int) (hd : 3 ≤ d) (h : 0 ≤ i ∧ i < 3) : CI d k_J0_charAt z m [vR 17, vI i] (fun x m' => m' = m ∧ x = zTab 30 i) := by
  obtain ⟨e, rfl⟩ : ∃ e, d = e + 1 := ⟨d - 1, by omega⟩
  obtain ⟨h1, h2, h3⟩ := zTab_30 h
  refine r_entry mx210 rfl ?_
  refine r_loadA a210_0 rfl (by decide) ?_
  refine r_callI_1 a210_1 (Nat.le_of_ble_eq_true rfl) (le_mx mx214 (Nat.le_of_ble_eq_true rfl)) (Or.inr (recv_str ow214 (by omega) (by omega))) (c_J0_isLatin1_17 e z m) (fun x_1 m_1 h_1 => ?_)
  obtain ⟨hm_1, h_1⟩ := h_1
  rw [hm_1]
  refine r_ifeq a210_4 (fun h_4 => ?_) (fun h_4 => ?_)
  · exfalso
    omega
  · refine r_loadA a210_7 rfl (by decide) ?_
    refine r_strV a210_8 (by decide) ?_
    refine r_loadI a210_11 rfl ?_
    refine r_callI_2 a210_12 (Nat.le_of_ble_eq_true rfl) (le_mx mx216 (Nat.le_of_ble_eq_true rfl)) (Or.inl rfl) (c_J1_charAt_30 e z m i (by omega) h) (fun x_12 m_12 h_12 => ?_)
    obtain ⟨hm_12, h_12⟩ := h_12
    rw [hm_12]
    refine r_retCq a210_15 (by omega) ?_
    exact ⟨rfl, h_12⟩
theorem zLen_31 : zLen 31 = 4 := by decide
theorem zTab_31 {i : Int} (h : 0 ≤ i ∧ i < 4) : iAnd (zTab 31 i) 255 = zTab 31 i ∧ 0 ≤ zTab 31 i ∧ zTab 31 i ≤ 127 := by
  have hc : i = 0 ∨ i = 1 ∨ i = 2 ∨ i = 3 := by omega
  rcases hc with q | q | q | q <;> subst q <;> decide
theorem c_J0_coder_18 (d z : Nat) (m : XM) : CI d k_J0_coder z m [vR 18] (fun x m' => m' = m ∧ x = 0) := by
  refine r_entry mx213 rfl ?_
  refine r_pushI a213_0 ?_
  refine r_ifeq a213_3 (fun h_3 => ?_) (fun h_3 => ?_)
  · exfalso
    omega
  · refine r_loadA a213_6 rfl (by decide) ?_
    refine r_strC a213_7 (by decide) ?_
    refine r_goto a213_10 ?_
    refine r_retBq a213_14 (by omega) ?_
    exact ⟨rfl, rfl⟩
theorem c_J0_isLatin1_18 (d z : Nat) (m : XM) : CI d k_J0_isLatin1 z m [vR 18] (fun x m' => m' = m ∧ x = 1) := by
  refine r_entry mx214 rfl ?_
  refine r_pushI a214_0 ?_
  refine r_ifeq a214_3 (fun h_3 => ?_) (fun h_3 => ?_)
  · exfalso
    omega
  · refine r_loadA a214_6 rfl (by decide) ?_
    refine r_strC a214_7 (by decide) ?_
    refine r_ifne a214_10 (fun h_10 => ?_) (fun h_10 => ?_)
    · exfalso
      omega
    · refine r_pushI a214_13 ?_
      refine r_goto a214_14 ?_
      refine r_retZq a214_18 (by omega) ?_
      exact ⟨rfl, rfl⟩
theorem c_J0_length_18 (d z : Nat) (m : XM) (hd : 1 ≤ d) : CI d k_J0_length z m [vR 18] (fun x m' => m' = m ∧ x = 4) := by
  obtain ⟨e, rfl⟩ : ∃ e, d = e + 1 := ⟨d - 1, by omega⟩
  have hs : iShr ((4 : Nat) : Int) 0 = 4 := by decide
  refine r_entry mx209 rfl ?_
  refine r_loadA a209_0 rfl (by decide) ?_
  refine r_strV a209_1 (by decide) ?_
  refine r_alenT a209_4 (by omega) ?_
  refine r_loadA a209_5 rfl (by decide) ?_
  refine r_callI_1 a209_6 (Nat.le_of_ble_eq_true rfl) (le_mx mx213 (Nat.le_of_ble_eq_true rfl)) (Or.inr (recv_str ow213 (by omega) (by omega))) (c_J0_coder_18 e z m) (fun x_6 m_6 h_6 => ?_)
  obtain ⟨hm_6, h_6⟩ := h_6
  rw [hm_6]
  rw [h_6, show zLen (18 + 13) = 4 from zLen_31]
  refine r_shr a209_9 ?_
  rw [hs]
  refine r_retIq a209_10 ?_
  exact ⟨rfl, rfl⟩
theorem c_J1_charAt_31 (d z : Nat) (m : XM) (i : Int) (hd : 2 ≤ d) (h : 0 ≤ i ∧ i < 4) : CI d k_J1_charAt z m [vR 31, vI i] (fun x m' => m' = m ∧ x = zTab 31 i) := by
  obtain ⟨e, rfl⟩ : ∃ e, d = e + 1 := ⟨d - 1, by omega⟩
  obtain ⟨h1, h2, h3⟩ := zTab_31 h
  refine r_entry mx216 rfl ?_
  refine r_loadI a216_0 rfl ?_
  refine r_loadA a216_1 rfl (by decide) ?_
  refine r_alenT a216_2 (by omega) ?_
  rw [zLen_31]
  refine r_callV_2 a216_3 (Nat.le_of_ble_eq_true rfl) (le_mx mx215 (Nat.le_of_ble_eq_true rfl)) (Or.inl rfl) (c_J0_checkIndex e z m i ((4 : Nat) : Int) (by omega) (by omega)) (fun m_3 h_3 => ?_)
  rw [h_3]
  refine r_loadA a216_6 rfl (by decide) ?_
  refine r_loadI a216_7 rfl ?_
  refine r_baldT a216_8 (by omega) (by rw [zLen_31]; omega) ?_
  refine r_pushI a216_9 ?_
  refine r_and a216_12 ?_
  rw [h1]
  refine r_i2c a216_13 (by omega) ?_
  refine r_retCq a216_14 (by omega) ?_
  exact ⟨rfl, rfl⟩
theorem c_J0_charAt_18 (d z : Nat) (m : XM) (i : Int) (hd : 3 ≤ d) (h : 0 ≤ i ∧ i < 4) : CI d k_J0_charAt z m [vR 18, vI i] (fun x m' => m' = m ∧ x = zTab 31 i) := by
  obtain ⟨e, rfl⟩ : ∃ e, d = e + 1 := ⟨d - 1, by omega⟩
  obtain ⟨h1, h2, h3⟩ := zTab_31 h
  refine r_entry mx210 rfl ?_
  refine r_loadA a210_0 rfl (by decide) ?_
  refine r_callI_1 a210_1 (Nat.le_of_ble_eq_true rfl) (le_mx mx214 (Nat.le_of_ble_eq_true rfl)) (Or.inr (recv_str ow214 (by omega) (by omega))) (c_J0_isLatin1_18 e z m) (fun x_1 m_1 h_1 => ?_)
  obtain ⟨hm_1, h_1⟩ := h_1
  rw [hm_1]
  refine r_ifeq a210_4 (fun h_4 => ?_) (fun h_4 => ?_)
  · exfalso
    omega
  · refine r_loadA a210_7 rfl (by decide) ?_
    refine r_strV a210_8 (by decide) ?_
    refine r_loadI a210_11 rfl ?_
    refine r_callI_2 a210_12 (Nat.le_of_ble_eq_true rfl) (le_mx mx216 (Nat.le_of_ble_eq_true rfl)) (Or.inl rfl) (c_J1_charAt_31 e z m i (by omega) h) (fun x_12 m_12 h_12 => ?_)
    obtain ⟨hm_12, h_12⟩ := h_12
    rw [hm_12]
    refine r_retCq a210_15 (by omega) ?_
    exact ⟨rfl, h_12⟩
/-- which sign asks of what; how it compares; which figure -/
def ixW (c : Int) : Int := if c = 103 then 0 else if c = 107 then 1 else if c = 116 then 2 else if c = 112 then 3 else if c = 114 then 4 else if c = 115 then 5 else -1
def ixH (c : Int) : Int := if c = 60 then 0 else if c = 61 then 1 else if c = 62 then 2 else -1
def ixD (c : Int) : Int := if 48 ≤ c ∧ c ≤ 57 then c - 48 else -1
theorem ifd {a b : Int} {x y : Int} : (if decide (a = b) = true then x else y) = if b = a then x else y := by
  by_cases h : a = b
  · rw [if_pos (decide_eq_true h), if_pos h.symm]
  · rw [if_neg (by rw [decide_eq_false h]; decide), if_neg (fun q => h q.symm)]
theorem fx_8 (c : Int) : firstI (fun j => decide (zTab 21 j = c)) (-1) 10 0 = ixD c := by
  show (if decide (zTab 21 (0) = c) = true then (0 : Int) else if decide (zTab 21 (0 + 1) = c) = true then (0 + 1 : Int) else if decide (zTab 21 (0 + 1 + 1) = c) = true then (0 + 1 + 1 : Int) else if decide (zTab 21 (0 + 1 + 1 + 1) = c) = true then (0 + 1 + 1 + 1 : Int) else if decide (zTab 21 (0 + 1 + 1 + 1 + 1) = c) = true then (0 + 1 + 1 + 1 + 1 : Int) else if decide (zTab 21 (0 + 1 + 1 + 1 + 1 + 1) = c) = true then (0 + 1 + 1 + 1 + 1 + 1 : Int) else if decide (zTab 21 (0 + 1 + 1 + 1 + 1 + 1 + 1) = c) = true then (0 + 1 + 1 + 1 + 1 + 1 + 1 : Int) else if decide (zTab 21 (0 + 1 + 1 + 1 + 1 + 1 + 1 + 1) = c) = true then (0 + 1 + 1 + 1 + 1 + 1 + 1 + 1 : Int) else if decide (zTab 21 (0 + 1 + 1 + 1 + 1 + 1 + 1 + 1 + 1) = c) = true then (0 + 1 + 1 + 1 + 1 + 1 + 1 + 1 + 1 : Int) else if decide (zTab 21 (0 + 1 + 1 + 1 + 1 + 1 + 1 + 1 + 1 + 1) = c) = true then (0 + 1 + 1 + 1 + 1 + 1 + 1 + 1 + 1 + 1 : Int) else -1 : Int) = _
  rw [ifd, show zTab 21 (0) = 48 by decide]
  rw [ifd, show zTab 21 (0 + 1) = 49 by decide]
  rw [ifd, show zTab 21 (0 + 1 + 1) = 50 by decide]
  rw [ifd, show zTab 21 (0 + 1 + 1 + 1) = 51 by decide]
  rw [ifd, show zTab 21 (0 + 1 + 1 + 1 + 1) = 52 by decide]
  rw [ifd, show zTab 21 (0 + 1 + 1 + 1 + 1 + 1) = 53 by decide]
  rw [ifd, show zTab 21 (0 + 1 + 1 + 1 + 1 + 1 + 1) = 54 by decide]
  rw [ifd, show zTab 21 (0 + 1 + 1 + 1 + 1 + 1 + 1 + 1) = 55 by decide]
  rw [ifd, show zTab 21 (0 + 1 + 1 + 1 + 1 + 1 + 1 + 1 + 1) = 56 by decide]
  rw [ifd, show zTab 21 (0 + 1 + 1 + 1 + 1 + 1 + 1 + 1 + 1 + 1) = 57 by decide]
  unfold ixD
  (repeat' split) <;> omega
theorem c_J1_indexOf_21 (d z : Nat) (m : XM) (c : Int) (hd : 2 ≤ d) (h : 0 ≤ c ∧ c ≤ 127) : CI d k_J1_indexOf z m [vR 21, vI c, vI 0, vI 10] (fun x m' => m' = m ∧ x = ixD c) := by
  obtain ⟨e, rfl⟩ : ∃ e, d = e + 1 := ⟨d - 1, by omega⟩
  have loop : ∀ (k : Nat) (j : Int), j + k = 10 → 0 ≤ j → firstI (fun j => decide (zTab 21 j = c)) (-1) k j = ixD c →
      RZ e k_J1_indexOfChar 7 [vR 21, vI c, vI 0, vI 10, vI c, vI j] [] (zH z m) (qz z (qi fun x m' => m' = m ∧ x = ixD c)) := by
    intro k
    induction k with
    | zero =>
      intro j hj h0 hf
      refine r_loadI a219_7 rfl ?_
      refine r_loadI a219_9 rfl ?_
      refine r_icge a219_10 (fun h_10 => ?_) (fun h_10 => ?_)
      · refine r_pushI a219_31 ?_
        refine r_retIq a219_32 ?_
        exact ⟨rfl, hf⟩
      · exfalso
        omega
    | succ k ih =>
      intro j hj h0 hf
      have hf2 : (if decide (zTab 21 j = c) = true then j else firstI (fun j => decide (zTab 21 j = c)) (-1) k (j + 1)) = ixD c := hf
      refine r_loadI a219_7 rfl ?_
      refine r_loadI a219_9 rfl ?_
      refine r_icge a219_10 (fun h_10 => ?_) (fun h_10 => ?_)
      · exfalso
        omega
      · refine r_loadA a219_13 rfl (by decide) ?_
        refine r_loadI a219_14 rfl ?_
        refine r_baldT a219_16 (by omega) (by rw [zLen_21]; omega) ?_
        refine r_loadI a219_17 rfl ?_
        refine r_icne a219_19 (fun h_19 => ?_) (fun h_19 => ?_)
        · rw [if_neg (by rw [decide_eq_true_iff]; omega)] at hf2
          refine r_iinc_5 a219_25 rfl (by omega) ?_
          refine r_goto a219_28 ?_
          exact ih (j + 1) (by omega) (by omega) hf2
        · refine r_loadI a219_22 rfl ?_
          refine r_retIq a219_24 ?_
          rw [if_pos (by rw [decide_eq_true_iff]; omega)] at hf2
          exact ⟨rfl, hf2⟩
  have ioc : CI e k_J1_indexOfChar z m [vR 21, vI c, vI 0, vI 10] (fun x m' => m' = m ∧ x = ixD c) := by
    refine r_entry mx219 rfl ?_
    refine r_loadI a219_0 rfl ?_
    refine r_i2b a219_1 ?_
    rw [i2B_id h]
    refine r_storeI_4 a219_2 rfl ?_
    refine r_loadI a219_4 rfl ?_
    refine r_storeI_5 a219_5 rfl ?_
    exact loop 10 0 (by omega) (by omega) (fx_8 c)
  have e1 : iMax 0 0 = 0 := by decide
  have e2 : iMin 10 ((10 : Nat) : Int) = 10 := by decide
  refine r_entry mx218 rfl ?_
  refine r_loadI a218_0 rfl ?_
  refine r_callI_1 a218_1 (Nat.le_of_ble_eq_true rfl) (le_mx mx217 (Nat.le_of_ble_eq_true rfl)) (Or.inl rfl) (c_J1_canEncode e z m c h) (fun x_1 m_1 h_1 => ?_)
  obtain ⟨hm_1, h_1⟩ := h_1
  rw [hm_1]
  refine r_ifne a218_4 (fun h_4 => ?_) (fun h_4 => ?_)
  · refine r_loadI a218_9 rfl ?_
    refine r_pushI a218_10 ?_
    refine r_maxI a218_11 (by omega) (Nat.le_of_ble_eq_true rfl) ?_
    rw [e1]
    refine r_storeI_2 a218_14 rfl ?_
    refine r_loadI a218_15 rfl ?_
    refine r_loadA a218_16 rfl (by decide) ?_
    refine r_alenT a218_17 (by omega) ?_
    rw [zLen_21]
    refine r_minI a218_18 (by omega) (Nat.le_of_ble_eq_true rfl) ?_
    rw [e2]
    refine r_storeI_3 a218_21 rfl ?_
    refine r_loadI a218_22 rfl ?_
    refine r_loadI a218_23 rfl ?_
    refine r_iclt a218_24 (fun h_24 => ?_) (fun h_24 => ?_)
    · refine r_loadA a218_29 rfl (by decide) ?_
      refine r_loadI a218_30 rfl ?_
      refine r_loadI a218_31 rfl ?_
      refine r_loadI a218_32 rfl ?_
      refine r_callI_4 a218_33 (Nat.le_of_ble_eq_true rfl) (le_mx mx219 (Nat.le_of_ble_eq_true rfl)) (Or.inl rfl) (ioc) (fun x_33 m_33 h_33 => ?_)
      obtain ⟨hm_33, h_33⟩ := h_33
      rw [hm_33]
      refine r_retIq a218_36 ?_
      exact ⟨rfl, h_33⟩
    · exfalso
      omega
  · exfalso
    omega
theorem c_J0_indexOf1_8 (d z : Nat) (m : XM) (c : Int) (hd : 4 ≤ d) (h : 0 ≤ c ∧ c ≤ 127) : CI d k_J0_indexOf1 z m [vR 8, vI c] (fun x m' => m' = m ∧ x = ixD c) := by
  obtain ⟨e, rfl⟩ : ∃ e, d = e + 2 := ⟨d - 2, by omega⟩
  have two : CI (e + 1) k_J0_indexOf2 z m [vR 8, vI c, vI 0] (fun x m' => m' = m ∧ x = ixD c) := by
    refine r_entry mx212 rfl ?_
    refine r_loadA a212_0 rfl (by decide) ?_
    refine r_callI_1 a212_1 (Nat.le_of_ble_eq_true rfl) (le_mx mx214 (Nat.le_of_ble_eq_true rfl)) (Or.inr (recv_str ow214 (by omega) (by omega))) (c_J0_isLatin1_8 e z m) (fun x_1 m_1 h_1 => ?_)
    obtain ⟨hm_1, h_1⟩ := h_1
    rw [hm_1]
    refine r_ifeq a212_4 (fun h_4 => ?_) (fun h_4 => ?_)
    · exfalso
      omega
    · refine r_loadA a212_7 rfl (by decide) ?_
      refine r_strV a212_8 (by decide) ?_
      refine r_loadI a212_11 rfl ?_
      refine r_loadI a212_12 rfl ?_
      refine r_loadA a212_13 rfl (by decide) ?_
      refine r_callI_1 a212_14 (Nat.le_of_ble_eq_true rfl) (le_mx mx209 (Nat.le_of_ble_eq_true rfl)) (Or.inr (recv_str ow209 (by omega) (by omega))) (c_J0_length_8 e z m (by omega)) (fun x_14 m_14 h_14 => ?_)
      obtain ⟨hm_14, h_14⟩ := h_14
      rw [hm_14]
      rw [h_14]
      refine r_callI_4 a212_17 (Nat.le_of_ble_eq_true rfl) (le_mx mx218 (Nat.le_of_ble_eq_true rfl)) (Or.inl rfl) (c_J1_indexOf_21 e z m c (by omega) h) (fun x_17 m_17 h_17 => ?_)
      obtain ⟨hm_17, h_17⟩ := h_17
      rw [hm_17]
      refine r_goto a212_20 ?_
      refine r_retIq a212_36 ?_
      exact ⟨rfl, h_17⟩
  refine r_entry mx211 rfl ?_
  refine r_loadA a211_0 rfl (by decide) ?_
  refine r_loadI a211_1 rfl ?_
  refine r_pushI a211_2 ?_
  refine r_callI_3 a211_3 (Nat.le_of_ble_eq_true rfl) (le_mx mx212 (Nat.le_of_ble_eq_true rfl)) (Or.inr (recv_str ow212 (by omega) (by omega))) (two) (fun x_3 m_3 h_3 => ?_)
  obtain ⟨hm_3, h_3⟩ := h_3
  rw [hm_3]
  refine r_retIq a211_6 ?_
  exact ⟨rfl, h_3⟩
theorem fx_11 (c : Int) : firstI (fun j => decide (zTab 24 j = c)) (-1) 6 0 = ixW c := by
  show (if decide (zTab 24 (0) = c) = true then (0 : Int) else if decide (zTab 24 (0 + 1) = c) = true then (0 + 1 : Int) else if decide (zTab 24 (0 + 1 + 1) = c) = true then (0 + 1 + 1 : Int) else if decide (zTab 24 (0 + 1 + 1 + 1) = c) = true then (0 + 1 + 1 + 1 : Int) else if decide (zTab 24 (0 + 1 + 1 + 1 + 1) = c) = true then (0 + 1 + 1 + 1 + 1 : Int) else if decide (zTab 24 (0 + 1 + 1 + 1 + 1 + 1) = c) = true then (0 + 1 + 1 + 1 + 1 + 1 : Int) else -1 : Int) = _
  rw [ifd, show zTab 24 (0) = 103 by decide]
  rw [ifd, show zTab 24 (0 + 1) = 107 by decide]
  rw [ifd, show zTab 24 (0 + 1 + 1) = 116 by decide]
  rw [ifd, show zTab 24 (0 + 1 + 1 + 1) = 112 by decide]
  rw [ifd, show zTab 24 (0 + 1 + 1 + 1 + 1) = 114 by decide]
  rw [ifd, show zTab 24 (0 + 1 + 1 + 1 + 1 + 1) = 115 by decide]
  unfold ixW
  (repeat' split) <;> omega
theorem c_J1_indexOf_24 (d z : Nat) (m : XM) (c : Int) (hd : 2 ≤ d) (h : 0 ≤ c ∧ c ≤ 127) : CI d k_J1_indexOf z m [vR 24, vI c, vI 0, vI 6] (fun x m' => m' = m ∧ x = ixW c) := by
  obtain ⟨e, rfl⟩ : ∃ e, d = e + 1 := ⟨d - 1, by omega⟩
  have loop : ∀ (k : Nat) (j : Int), j + k = 6 → 0 ≤ j → firstI (fun j => decide (zTab 24 j = c)) (-1) k j = ixW c →
      RZ e k_J1_indexOfChar 7 [vR 24, vI c, vI 0, vI 6, vI c, vI j] [] (zH z m) (qz z (qi fun x m' => m' = m ∧ x = ixW c)) := by
    intro k
    induction k with
    | zero =>
      intro j hj h0 hf
      refine r_loadI a219_7 rfl ?_
      refine r_loadI a219_9 rfl ?_
      refine r_icge a219_10 (fun h_10 => ?_) (fun h_10 => ?_)
      · refine r_pushI a219_31 ?_
        refine r_retIq a219_32 ?_
        exact ⟨rfl, hf⟩
      · exfalso
        omega
    | succ k ih =>
      intro j hj h0 hf
      have hf2 : (if decide (zTab 24 j = c) = true then j else firstI (fun j => decide (zTab 24 j = c)) (-1) k (j + 1)) = ixW c := hf
      refine r_loadI a219_7 rfl ?_
      refine r_loadI a219_9 rfl ?_
      refine r_icge a219_10 (fun h_10 => ?_) (fun h_10 => ?_)
      · exfalso
        omega
      · refine r_loadA a219_13 rfl (by decide) ?_
        refine r_loadI a219_14 rfl ?_
        refine r_baldT a219_16 (by omega) (by rw [zLen_24]; omega) ?_
        refine r_loadI a219_17 rfl ?_
        refine r_icne a219_19 (fun h_19 => ?_) (fun h_19 => ?_)
        · rw [if_neg (by rw [decide_eq_true_iff]; omega)] at hf2
          refine r_iinc_5 a219_25 rfl (by omega) ?_
          refine r_goto a219_28 ?_
          exact ih (j + 1) (by omega) (by omega) hf2
        · refine r_loadI a219_22 rfl ?_
          refine r_retIq a219_24 ?_
          rw [if_pos (by rw [decide_eq_true_iff]; omega)] at hf2
          exact ⟨rfl, hf2⟩
  have ioc : CI e k_J1_indexOfChar z m [vR 24, vI c, vI 0, vI 6] (fun x m' => m' = m ∧ x = ixW c) := by
    refine r_entry mx219 rfl ?_
    refine r_loadI a219_0 rfl ?_
    refine r_i2b a219_1 ?_
    rw [i2B_id h]
    refine r_storeI_4 a219_2 rfl ?_
    refine r_loadI a219_4 rfl ?_
    refine r_storeI_5 a219_5 rfl ?_
    exact loop 6 0 (by omega) (by omega) (fx_11 c)
  have e1 : iMax 0 0 = 0 := by decide
  have e2 : iMin 6 ((6 : Nat) : Int) = 6 := by decide
  refine r_entry mx218 rfl ?_
  refine r_loadI a218_0 rfl ?_
  refine r_callI_1 a218_1 (Nat.le_of_ble_eq_true rfl) (le_mx mx217 (Nat.le_of_ble_eq_true rfl)) (Or.inl rfl) (c_J1_canEncode e z m c h) (fun x_1 m_1 h_1 => ?_)
  obtain ⟨hm_1, h_1⟩ := h_1
  rw [hm_1]
  refine r_ifne a218_4 (fun h_4 => ?_) (fun h_4 => ?_)
  · refine r_loadI a218_9 rfl ?_
    refine r_pushI a218_10 ?_
    refine r_maxI a218_11 (by omega) (Nat.le_of_ble_eq_true rfl) ?_
    rw [e1]
    refine r_storeI_2 a218_14 rfl ?_
    refine r_loadI a218_15 rfl ?_
    refine r_loadA a218_16 rfl (by decide) ?_
    refine r_alenT a218_17 (by omega) ?_
    rw [zLen_24]
    refine r_minI a218_18 (by omega) (Nat.le_of_ble_eq_true rfl) ?_
    rw [e2]
    refine r_storeI_3 a218_21 rfl ?_
    refine r_loadI a218_22 rfl ?_
    refine r_loadI a218_23 rfl ?_
    refine r_iclt a218_24 (fun h_24 => ?_) (fun h_24 => ?_)
    · refine r_loadA a218_29 rfl (by decide) ?_
      refine r_loadI a218_30 rfl ?_
      refine r_loadI a218_31 rfl ?_
      refine r_loadI a218_32 rfl ?_
      refine r_callI_4 a218_33 (Nat.le_of_ble_eq_true rfl) (le_mx mx219 (Nat.le_of_ble_eq_true rfl)) (Or.inl rfl) (ioc) (fun x_33 m_33 h_33 => ?_)
      obtain ⟨hm_33, h_33⟩ := h_33
      rw [hm_33]
      refine r_retIq a218_36 ?_
      exact ⟨rfl, h_33⟩
    · exfalso
      omega
  · exfalso
    omega
theorem c_J0_indexOf1_11 (d z : Nat) (m : XM) (c : Int) (hd : 4 ≤ d) (h : 0 ≤ c ∧ c ≤ 127) : CI d k_J0_indexOf1 z m [vR 11, vI c] (fun x m' => m' = m ∧ x = ixW c) := by
  obtain ⟨e, rfl⟩ : ∃ e, d = e + 2 := ⟨d - 2, by omega⟩
  have two : CI (e + 1) k_J0_indexOf2 z m [vR 11, vI c, vI 0] (fun x m' => m' = m ∧ x = ixW c) := by
    refine r_entry mx212 rfl ?_
    refine r_loadA a212_0 rfl (by decide) ?_
    refine r_callI_1 a212_1 (Nat.le_of_ble_eq_true rfl) (le_mx mx214 (Nat.le_of_ble_eq_true rfl)) (Or.inr (recv_str ow214 (by omega) (by omega))) (c_J0_isLatin1_11 e z m) (fun x_1 m_1 h_1 => ?_)
    obtain ⟨hm_1, h_1⟩ := h_1
    rw [hm_1]
    refine r_ifeq a212_4 (fun h_4 => ?_) (fun h_4 => ?_)
    · exfalso
      omega
    · refine r_loadA a212_7 rfl (by decide) ?_
      refine r_strV a212_8 (by decide) ?_
      refine r_loadI a212_11 rfl ?_
      refine r_loadI a212_12 rfl ?_
      refine r_loadA a212_13 rfl (by decide) ?_
      refine r_callI_1 a212_14 (Nat.le_of_ble_eq_true rfl) (le_mx mx209 (Nat.le_of_ble_eq_true rfl)) (Or.inr (recv_str ow209 (by omega) (by omega))) (c_J0_length_11 e z m (by omega)) (fun x_14 m_14 h_14 => ?_)
      obtain ⟨hm_14, h_14⟩ := h_14
      rw [hm_14]
      rw [h_14]
      refine r_callI_4 a212_17 (Nat.le_of_ble_eq_true rfl) (le_mx mx218 (Nat.le_of_ble_eq_true rfl)) (Or.inl rfl) (c_J1_indexOf_24 e z m c (by omega) h) (fun x_17 m_17 h_17 => ?_)
      obtain ⟨hm_17, h_17⟩ := h_17
      rw [hm_17]
      refine r_goto a212_20 ?_
      refine r_retIq a212_36 ?_
      exact ⟨rfl, h_17⟩
  refine r_entry mx211 rfl ?_
  refine r_loadA a211_0 rfl (by decide) ?_
  refine r_loadI a211_1 rfl ?_
  refine r_pushI a211_2 ?_
  refine r_callI_3 a211_3 (Nat.le_of_ble_eq_true rfl) (le_mx mx212 (Nat.le_of_ble_eq_true rfl)) (Or.inr (recv_str ow212 (by omega) (by omega))) (two) (fun x_3 m_3 h_3 => ?_)
  obtain ⟨hm_3, h_3⟩ := h_3
  rw [hm_3]
  refine r_retIq a211_6 ?_
  exact ⟨rfl, h_3⟩
theorem fx_12 (c : Int) : firstI (fun j => decide (zTab 25 j = c)) (-1) 3 0 = ixH c := by
  show (if decide (zTab 25 (0) = c) = true then (0 : Int) else if decide (zTab 25 (0 + 1) = c) = true then (0 + 1 : Int) else if decide (zTab 25 (0 + 1 + 1) = c) = true then (0 + 1 + 1 : Int) else -1 : Int) = _
  rw [ifd, show zTab 25 (0) = 60 by decide]
  rw [ifd, show zTab 25 (0 + 1) = 61 by decide]
  rw [ifd, show zTab 25 (0 + 1 + 1) = 62 by decide]
  unfold ixH
  (repeat' split) <;> omega
theorem c_J1_indexOf_25 (d z : Nat) (m : XM) (c : Int) (hd : 2 ≤ d) (h : 0 ≤ c ∧ c ≤ 127) : CI d k_J1_indexOf z m [vR 25, vI c, vI 0, vI 3] (fun x m' => m' = m ∧ x = ixH c) := by
  obtain ⟨e, rfl⟩ : ∃ e, d = e + 1 := ⟨d - 1, by omega⟩
  have loop : ∀ (k : Nat) (j : Int), j + k = 3 → 0 ≤ j → firstI (fun j => decide (zTab 25 j = c)) (-1) k j = ixH c →
      RZ e k_J1_indexOfChar 7 [vR 25, vI c, vI 0, vI 3, vI c, vI j] [] (zH z m) (qz z (qi fun x m' => m' = m ∧ x = ixH c)) := by
    intro k
    induction k with
    | zero =>
      intro j hj h0 hf
      refine r_loadI a219_7 rfl ?_
      refine r_loadI a219_9 rfl ?_
      refine r_icge a219_10 (fun h_10 => ?_) (fun h_10 => ?_)
      · refine r_pushI a219_31 ?_
        refine r_retIq a219_32 ?_
        exact ⟨rfl, hf⟩
      · exfalso
        omega
    | succ k ih =>
      intro j hj h0 hf
      have hf2 : (if decide (zTab 25 j = c) = true then j else firstI (fun j => decide (zTab 25 j = c)) (-1) k (j + 1)) = ixH c := hf
      refine r_loadI a219_7 rfl ?_
      refine r_loadI a219_9 rfl ?_
      refine r_icge a219_10 (fun h_10 => ?_) (fun h_10 => ?_)
      · exfalso
        omega
      · refine r_loadA a219_13 rfl (by decide) ?_
        refine r_loadI a219_14 rfl ?_
        refine r_baldT a219_16 (by omega) (by rw [zLen_25]; omega) ?_
        refine r_loadI a219_17 rfl ?_
        refine r_icne a219_19 (fun h_19 => ?_) (fun h_19 => ?_)
        · rw [if_neg (by rw [decide_eq_true_iff]; omega)] at hf2
          refine r_iinc_5 a219_25 rfl (by omega) ?_
          refine r_goto a219_28 ?_
          exact ih (j + 1) (by omega) (by omega) hf2
        · refine r_loadI a219_22 rfl ?_
          refine r_retIq a219_24 ?_
          rw [if_pos (by rw [decide_eq_true_iff]; omega)] at hf2
          exact ⟨rfl, hf2⟩
  have ioc : CI e k_J1_indexOfChar z m [vR 25, vI c, vI 0, vI 3] (fun x m' => m' = m ∧ x = ixH c) := by
    refine r_entry mx219 rfl ?_
    refine r_loadI a219_0 rfl ?_
    refine r_i2b a219_1 ?_
    rw [i2B_id h]
    refine r_storeI_4 a219_2 rfl ?_
    refine r_loadI a219_4 rfl ?_
    refine r_storeI_5 a219_5 rfl ?_
    exact loop 3 0 (by omega) (by omega) (fx_12 c)
  have e1 : iMax 0 0 = 0 := by decide
  have e2 : iMin 3 ((3 : Nat) : Int) = 3 := by decide
  refine r_entry mx218 rfl ?_
  refine r_loadI a218_0 rfl ?_
  refine r_callI_1 a218_1 (Nat.le_of_ble_eq_true rfl) (le_mx mx217 (Nat.le_of_ble_eq_true rfl)) (Or.inl rfl) (c_J1_canEncode e z m c h) (fun x_1 m_1 h_1 => ?_)
  obtain ⟨hm_1, h_1⟩ := h_1
  rw [hm_1]
  refine r_ifne a218_4 (fun h_4 => ?_) (fun h_4 => ?_)
  · refine r_loadI a218_9 rfl ?_
    refine r_pushI a218_10 ?_
    refine r_maxI a218_11 (by omega) (Nat.le_of_ble_eq_true rfl) ?_
    rw [e1]
    refine r_storeI_2 a218_14 rfl ?_
    refine r_loadI a218_15 rfl ?_
    refine r_loadA a218_16 rfl (by decide) ?_
    refine r_alenT a218_17 (by omega) ?_
    rw [zLen_25]
    refine r_minI a218_18 (by omega) (Nat.le_of_ble_eq_true rfl) ?_
    rw [e2]
    refine r_storeI_3 a218_21 rfl ?_
    refine r_loadI a218_22 rfl ?_
    refine r_loadI a218_23 rfl ?_
    refine r_iclt a218_24 (fun h_24 => ?_) (fun h_24 => ?_)
    · refine r_loadA a218_29 rfl (by decide) ?_
      refine r_loadI a218_30 rfl ?_
      refine r_loadI a218_31 rfl ?_
      refine r_loadI a218_32 rfl ?_
      refine r_callI_4 a218_33 (Nat.le_of_ble_eq_true rfl) (le_mx mx219 (Nat.le_of_ble_eq_true rfl)) (Or.inl rfl) (ioc) (fun x_33 m_33 h_33 => ?_)
      obtain ⟨hm_33, h_33⟩ := h_33
      rw [hm_33]
      refine r_retIq a218_36 ?_
      exact ⟨rfl, h_33⟩
    · exfalso
      omega
  · exfalso
    omega
theorem c_J0_indexOf1_12 (d z : Nat) (m : XM) (c : Int) (hd : 4 ≤ d) (h : 0 ≤ c ∧ c ≤ 127) : CI d k_J0_indexOf1 z m [vR 12, vI c] (fun x m' => m' = m ∧ x = ixH c) := by
  obtain ⟨e, rfl⟩ : ∃ e, d = e + 2 := ⟨d - 2, by omega⟩
  have two : CI (e + 1) k_J0_indexOf2 z m [vR 12, vI c, vI 0] (fun x m' => m' = m ∧ x = ixH c) := by
    refine r_entry mx212 rfl ?_
    refine r_loadA a212_0 rfl (by decide) ?_
    refine r_callI_1 a212_1 (Nat.le_of_ble_eq_true rfl) (le_mx mx214 (Nat.le_of_ble_eq_true rfl)) (Or.inr (recv_str ow214 (by omega) (by omega))) (c_J0_isLatin1_12 e z m) (fun x_1 m_1 h_1 => ?_)
    obtain ⟨hm_1, h_1⟩ := h_1
    rw [hm_1]
    refine r_ifeq a212_4 (fun h_4 => ?_) (fun h_4 => ?_)
    · exfalso
      omega
    · refine r_loadA a212_7 rfl (by decide) ?_
      refine r_strV a212_8 (by decide) ?_
      refine r_loadI a212_11 rfl ?_
      refine r_loadI a212_12 rfl ?_
      refine r_loadA a212_13 rfl (by decide) ?_
      refine r_callI_1 a212_14 (Nat.le_of_ble_eq_true rfl) (le_mx mx209 (Nat.le_of_ble_eq_true rfl)) (Or.inr (recv_str ow209 (by omega) (by omega))) (c_J0_length_12 e z m (by omega)) (fun x_14 m_14 h_14 => ?_)
      obtain ⟨hm_14, h_14⟩ := h_14
      rw [hm_14]
      rw [h_14]
      refine r_callI_4 a212_17 (Nat.le_of_ble_eq_true rfl) (le_mx mx218 (Nat.le_of_ble_eq_true rfl)) (Or.inl rfl) (c_J1_indexOf_25 e z m c (by omega) h) (fun x_17 m_17 h_17 => ?_)
      obtain ⟨hm_17, h_17⟩ := h_17
      rw [hm_17]
      refine r_goto a212_20 ?_
      refine r_retIq a212_36 ?_
      exact ⟨rfl, h_17⟩
  refine r_entry mx211 rfl ?_
  refine r_loadA a211_0 rfl (by decide) ?_
  refine r_loadI a211_1 rfl ?_
  refine r_pushI a211_2 ?_
  refine r_callI_3 a211_3 (Nat.le_of_ble_eq_true rfl) (le_mx mx212 (Nat.le_of_ble_eq_true rfl)) (Or.inr (recv_str ow212 (by omega) (by omega))) (two) (fun x_3 m_3 h_3 => ?_)
  obtain ⟨hm_3, h_3⟩ := h_3
  rw [hm_3]
  refine r_retIq a211_6 ?_
  exact ⟨rfl, h_3⟩
