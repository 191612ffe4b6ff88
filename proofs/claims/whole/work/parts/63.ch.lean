-- ===== the class: what changes =====
theorem c_Fg_feed (d z : Nat) (m : XM) (a : Int) (hd : 1 ≤ d) (h5 : 0 ≤ m 41 0 ∧ m 41 0 ≤ 100) : CI d k_Fg_feed z m [vR 32, vI a] (fun x m' => (¬ (0 ≤ a ∧ a ≤ 127) ∧ x = -2 ∧ m' = m) ∨ ((0 ≤ a ∧ a ≤ 127) ∧ m 41 0 = 100 ∧ x = -4 ∧ m' = m) ∨ ((0 ≤ a ∧ a ≤ 127) ∧ m 41 0 < 100 ∧ x = m 41 0 + 1 ∧ m' = up2 (up2 m 41 0 (m 41 0 + 1)) 42 (m 41 0) a)) := by
  obtain ⟨e, rfl⟩ : ∃ e, d = e + 1 := ⟨d - 1, by omega⟩
  refine r_entry mx64 rfl ?_
  refine r_loadI a64_0 rfl ?_
  refine r_pushI a64_1 ?_
  refine r_pushI a64_2 ?_
  refine r_callI_3 a64_4 (Nat.le_of_ble_eq_true rfl) (le_mx mx106 (Nat.le_of_ble_eq_true rfl)) (Or.inl rfl) (c_Fg_outside e z m a 0 127) (fun x_4 m_4 h_4 => ?_)
  obtain ⟨hm_4, h_4⟩ := h_4
  rw [hm_4]
  refine r_ifeq a64_7 (fun h_7 => ?_) (fun h_7 => ?_)
  · refine r_loadA a64_13 rfl (by decide) ?_
    refine r_getR a64_14 ty32 rf32_0 (by decide) ?_
    refine r_getR a64_17 ty33 rf33_4 (by decide) ?_
    refine r_getI (ki := 0) a64_20 ty41 rfl ?_
    refine r_pushI a64_23 ?_
    refine r_iclt a64_25 (fun h_25 => ?_) (fun h_25 => ?_)
    · refine r_loadA a64_31 rfl (by decide) ?_
      refine r_getR a64_32 ty32 rf32_0 (by decide) ?_
      refine r_getR a64_35 ty33 rf33_4 (by decide) ?_
      refine r_getR a64_38 ty41 rf41_1 (by decide) ?_
      refine r_loadA a64_41 rfl (by decide) ?_
      refine r_getR a64_42 ty32 rf32_0 (by decide) ?_
      refine r_getR a64_45 ty33 rf33_4 (by decide) ?_
      refine r_dup a64_48 rfl ?_
      refine r_getI (ki := 0) a64_49 ty41 rfl ?_
      refine r_dupx1 a64_52 rfl rfl ?_
      refine r_pushI a64_53 ?_
      refine r_add a64_54 (by omega) ?_
      refine r_putI (ki := 0) a64_55 ty41 rfl ?_
      refine r_loadI a64_58 rfl ?_
      refine r_iast a64_59 ty42 (by omega) ?_
      refine r_loadA a64_60 rfl (by decide) ?_
      refine r_getR a64_61 ty32 rf32_0 (by decide) ?_
      refine r_getR a64_64 ty33 rf33_4 (by decide) ?_
      refine r_getI (ki := 0) a64_67 ty41 rfl ?_
      rw [up2_c (by decide), up2_s]
      refine r_retIq a64_70 ?_
      exact Or.inr (Or.inr ⟨by omega, by omega, rfl, rfl⟩)
    · refine r_pushI a64_28 ?_
      refine r_retIq a64_30 ?_
      exact Or.inr (Or.inl ⟨by omega, by omega, rfl, rfl⟩)
  · refine r_pushI a64_10 ?_
    refine r_retIq a64_12 ?_
    exact Or.inl ⟨by omega, rfl, rfl⟩
theorem c_Ga_append (d z : Nat) (m : XM) (kd v t n : Int) (hn : m 34 0 = n) (h0 : 0 ≤ n ∧ n < 7) : CI d k_Ga_append z m [vR 34, vI kd, vI v, vI t] (fun x m' => x = n ∧ m' = up2 (up2 (up2 (up2 (up2 m 35 n kd) 36 n v) 37 n t) 38 n 1) 34 0 (n + 1)) := by
  refine r_entry mx12 rfl ?_
  refine r_loadA a12_0 rfl (by decide) ?_
  refine r_getR a12_1 ty34 rf34_1 (by decide) ?_
  refine r_loadA a12_4 rfl (by decide) ?_
  refine r_getI (ki := 0) a12_5 ty34 rfl ?_
  rw [hn]
  refine r_loadI a12_8 rfl ?_
  refine r_iast a12_9 ty35 (by omega) ?_
  refine r_loadA a12_10 rfl (by decide) ?_
  refine r_getR a12_11 ty34 rf34_2 (by decide) ?_
  refine r_loadA a12_14 rfl (by decide) ?_
  refine r_getI (ki := 0) a12_15 ty34 rfl ?_
  rw [up2_c (by decide), hn]
  refine r_loadI a12_18 rfl ?_
  refine r_iast a12_19 ty36 (by omega) ?_
  refine r_loadA a12_20 rfl (by decide) ?_
  refine r_getR a12_21 ty34 rf34_3 (by decide) ?_
  refine r_loadA a12_24 rfl (by decide) ?_
  refine r_getI (ki := 0) a12_25 ty34 rfl ?_
  rw [up2_c (by decide), up2_c (by decide), hn]
  refine r_loadI a12_28 rfl ?_
  refine r_iast a12_29 ty37 (by omega) ?_
  refine r_loadA a12_30 rfl (by decide) ?_
  refine r_getR a12_31 ty34 rf34_4 (by decide) ?_
  refine r_loadA a12_34 rfl (by decide) ?_
  refine r_getI (ki := 0) a12_35 ty34 rfl ?_
  rw [up2_c (by decide), up2_c (by decide), up2_c (by decide), hn]
  refine r_pushI a12_38 ?_
  refine r_iast a12_39 ty38 (by omega) ?_
  refine r_loadA a12_40 rfl (by decide) ?_
  refine r_dup a12_41 rfl ?_
  refine r_getI (ki := 0) a12_42 ty34 rfl ?_
  rw [up2_c (by decide), up2_c (by decide), up2_c (by decide), up2_c (by decide), hn]
  refine r_dupx1 a12_45 rfl rfl ?_
  refine r_pushI a12_46 ?_
  refine r_add a12_47 (by omega) ?_
  refine r_putI (ki := 0) a12_48 ty34 rfl ?_
  refine r_retIq a12_51 ?_
  exact ⟨rfl, rfl⟩
theorem c_Fg_gate (d z : Nat) (m : XM) (kd v t : Int) (hd : 1 ≤ d) (h0 : 0 ≤ m 34 0 ∧ m 34 0 ≤ 7) : CI d k_Fg_gate z m [vR 32, vI kd, vI v, vI t] (fun x m' =>
    (¬ (0 ≤ kd ∧ kd ≤ 6) ∧ x = -1 ∧ m' = m) ∨ ((0 ≤ kd ∧ kd ≤ 6) ∧ ¬ ((0 ≤ v ∧ v ≤ 9) ∧ 0 ≤ t ∧ t ≤ 9) ∧ x = -2 ∧ m' = m) ∨ ((0 ≤ kd ∧ kd ≤ 6) ∧ ((0 ≤ v ∧ v ≤ 9) ∧ 0 ≤ t ∧ t ≤ 9) ∧ m 34 0 = 7 ∧ x = -4 ∧ m' = m) ∨
    ((0 ≤ kd ∧ kd ≤ 6) ∧ ((0 ≤ v ∧ v ≤ 9) ∧ 0 ≤ t ∧ t ≤ 9) ∧ m 34 0 < 7 ∧ x = m 34 0 ∧ m' = up2 (up2 (up2 (up2 (up2 m 35 (m 34 0) kd) 36 (m 34 0) v) 37 (m 34 0) t) 38 (m 34 0) 1) 34 0 (m 34 0 + 1))) := by
  obtain ⟨e, rfl⟩ : ∃ e, d = e + 1 := ⟨d - 1, by omega⟩
  refine r_entry mx66 rfl ?_
  refine r_loadI a66_0 rfl ?_
  refine r_pushI a66_1 ?_
  refine r_pushI a66_2 ?_
  refine r_callI_3 a66_4 (Nat.le_of_ble_eq_true rfl) (le_mx mx106 (Nat.le_of_ble_eq_true rfl)) (Or.inl rfl) (c_Fg_outside e z m kd 0 6) (fun x_4 m_4 h_4 => ?_)
  obtain ⟨hm_4, h_4⟩ := h_4
  rw [hm_4]
  refine r_ifeq a66_7 (fun h_7 => ?_) (fun h_7 => ?_)
  · refine r_loadI a66_12 rfl ?_
    refine r_pushI a66_13 ?_
    refine r_pushI a66_14 ?_
    refine r_callI_3 a66_16 (Nat.le_of_ble_eq_true rfl) (le_mx mx106 (Nat.le_of_ble_eq_true rfl)) (Or.inl rfl) (c_Fg_outside e z m v 0 9) (fun x_16 m_16 h_16 => ?_)
    obtain ⟨hm_16, h_16⟩ := h_16
    rw [hm_16]
    refine r_ifne a66_19 (fun h_19 => ?_) (fun h_19 => ?_)
    · refine r_pushI a66_32 ?_
      refine r_retIq a66_34 ?_
      exact Or.inr (Or.inl ⟨by omega, by omega, rfl, rfl⟩)
    · refine r_loadI a66_22 rfl ?_
      refine r_pushI a66_23 ?_
      refine r_pushI a66_24 ?_
      refine r_callI_3 a66_26 (Nat.le_of_ble_eq_true rfl) (le_mx mx106 (Nat.le_of_ble_eq_true rfl)) (Or.inl rfl) (c_Fg_outside e z m t 0 9) (fun x_26 m_26 h_26 => ?_)
      obtain ⟨hm_26, h_26⟩ := h_26
      rw [hm_26]
      refine r_ifeq a66_29 (fun h_29 => ?_) (fun h_29 => ?_)
      · refine r_loadA a66_35 rfl (by decide) ?_
        refine r_getR a66_36 ty32 rf32_0 (by decide) ?_
        refine r_getR a66_39 ty33 rf33_0 (by decide) ?_
        refine r_getI (ki := 0) a66_42 ty34 rfl ?_
        refine r_pushI a66_45 ?_
        refine r_iclt a66_47 (fun h_47 => ?_) (fun h_47 => ?_)
        · refine r_loadA a66_55 rfl (by decide) ?_
          refine r_getR a66_56 ty32 rf32_0 (by decide) ?_
          refine r_getR a66_59 ty33 rf33_0 (by decide) ?_
          refine r_loadI a66_62 rfl ?_
          refine r_loadI a66_63 rfl ?_
          refine r_loadI a66_64 rfl ?_
          refine r_callI_4 a66_65 (Nat.le_of_ble_eq_true rfl) (le_mx mx12 (Nat.le_of_ble_eq_true rfl)) (Or.inr (recv_ok ty34 ow12 (by decide))) (c_Ga_append e z m kd v t (m 34 0) rfl (by omega)) (fun x_65 m_65 h_65 => ?_)
          refine r_retIq a66_68 ?_
          first
            | exact Or.inr (Or.inr (Or.inr ⟨by omega, by omega, by omega, h_65.1, h_65.2⟩))
            | exact Or.inr (Or.inr (Or.inl ⟨by omega, by omega, by omega, rfl, rfl⟩))
        · refine r_pushI a66_50 ?_
          refine r_goto a66_52 ?_
          refine r_retIq a66_68 ?_
          first
            | exact Or.inr (Or.inr (Or.inr ⟨by omega, by omega, by omega, h_65.1, h_65.2⟩))
            | exact Or.inr (Or.inr (Or.inl ⟨by omega, by omega, by omega, rfl, rfl⟩))
      · refine r_pushI a66_32 ?_
        refine r_retIq a66_34 ?_
        exact Or.inr (Or.inl ⟨by omega, by omega, rfl, rfl⟩)
  · refine r_pushI a66_10 ?_
    refine r_retIq a66_11 ?_
    exact Or.inl ⟨by omega, rfl, rfl⟩
theorem c_Fg_exchange_37 (d z : Nat) (m : XM) (i v : Int) (hi : 0 ≤ i ∧ i < 7) : CI d k_Fg_exchange z m [vR 37, vI i, vI v] (fun x m' => x = m 37 i ∧ m' = up2 m 37 i v) := by
  refine r_entry mx107 rfl ?_
  refine r_loadI a107_0 rfl ?_
  refine r_iflt a107_1 (fun h_1 => ?_) (fun h_1 => ?_)
  · refine r_pushI a107_10 ?_
    refine r_retIq a107_11 ?_
    exfalso
    omega
  · refine r_loadI a107_4 rfl ?_
    refine r_loadA a107_5 rfl (by decide) ?_
    refine r_alen a107_6 ty37 (Or.inl rfl) rfl ?_
    refine r_iclt a107_7 (fun h_7 => ?_) (fun h_7 => ?_)
    · refine r_loadA a107_12 rfl (by decide) ?_
      refine r_loadI a107_13 rfl ?_
      refine r_iald a107_14 ty37 (by omega) ?_
      refine r_storeI_3 a107_15 rfl ?_
      refine r_loadA a107_16 rfl (by decide) ?_
      refine r_loadI a107_17 rfl ?_
      refine r_loadI a107_18 rfl ?_
      refine r_iast a107_19 ty37 (by omega) ?_
      refine r_loadI a107_20 rfl ?_
      refine r_retIq a107_21 ?_
      exact ⟨rfl, rfl⟩
    · refine r_pushI a107_10 ?_
      refine r_retIq a107_11 ?_
      exfalso
      omega
theorem c_Fg_exchange_38 (d z : Nat) (m : XM) (i v : Int) (hi : 0 ≤ i ∧ i < 7) : CI d k_Fg_exchange z m [vR 38, vI i, vI v] (fun x m' => x = m 38 i ∧ m' = up2 m 38 i v) := by
  refine r_entry mx107 rfl ?_
  refine r_loadI a107_0 rfl ?_
  refine r_iflt a107_1 (fun h_1 => ?_) (fun h_1 => ?_)
  · refine r_pushI a107_10 ?_
    refine r_retIq a107_11 ?_
    exfalso
    omega
  · refine r_loadI a107_4 rfl ?_
    refine r_loadA a107_5 rfl (by decide) ?_
    refine r_alen a107_6 ty38 (Or.inl rfl) rfl ?_
    refine r_iclt a107_7 (fun h_7 => ?_) (fun h_7 => ?_)
    · refine r_loadA a107_12 rfl (by decide) ?_
      refine r_loadI a107_13 rfl ?_
      refine r_iald a107_14 ty38 (by omega) ?_
      refine r_storeI_3 a107_15 rfl ?_
      refine r_loadA a107_16 rfl (by decide) ?_
      refine r_loadI a107_17 rfl ?_
      refine r_loadI a107_18 rfl ?_
      refine r_iast a107_19 ty38 (by omega) ?_
      refine r_loadI a107_20 rfl ?_
      refine r_retIq a107_21 ?_
      exact ⟨rfl, rfl⟩
    · refine r_pushI a107_10 ?_
      refine r_retIq a107_11 ?_
      exfalso
      omega
theorem c_Fg_exchange_39 (d z : Nat) (m : XM) (i v : Int) (hi : 0 ≤ i ∧ i < 28) : CI d k_Fg_exchange z m [vR 39, vI i, vI v] (fun x m' => x = m 39 i ∧ m' = up2 m 39 i v) := by
  refine r_entry mx107 rfl ?_
  refine r_loadI a107_0 rfl ?_
  refine r_iflt a107_1 (fun h_1 => ?_) (fun h_1 => ?_)
  · refine r_pushI a107_10 ?_
    refine r_retIq a107_11 ?_
    exfalso
    omega
  · refine r_loadI a107_4 rfl ?_
    refine r_loadA a107_5 rfl (by decide) ?_
    refine r_alen a107_6 ty39 (Or.inl rfl) rfl ?_
    refine r_iclt a107_7 (fun h_7 => ?_) (fun h_7 => ?_)
    · refine r_loadA a107_12 rfl (by decide) ?_
      refine r_loadI a107_13 rfl ?_
      refine r_iald a107_14 ty39 (by omega) ?_
      refine r_storeI_3 a107_15 rfl ?_
      refine r_loadA a107_16 rfl (by decide) ?_
      refine r_loadI a107_17 rfl ?_
      refine r_loadI a107_18 rfl ?_
      refine r_iast a107_19 ty39 (by omega) ?_
      refine r_loadI a107_20 rfl ?_
      refine r_retIq a107_21 ?_
      exact ⟨rfl, rfl⟩
    · refine r_pushI a107_10 ?_
      refine r_retIq a107_11 ?_
      exfalso
      omega
theorem c_Fg_exchange_40 (d z : Nat) (m : XM) (i v : Int) (hi : 0 ≤ i ∧ i < 5) : CI d k_Fg_exchange z m [vR 40, vI i, vI v] (fun x m' => x = m 40 i ∧ m' = up2 m 40 i v) := by
  refine r_entry mx107 rfl ?_
  refine r_loadI a107_0 rfl ?_
  refine r_iflt a107_1 (fun h_1 => ?_) (fun h_1 => ?_)
  · refine r_pushI a107_10 ?_
    refine r_retIq a107_11 ?_
    exfalso
    omega
  · refine r_loadI a107_4 rfl ?_
    refine r_loadA a107_5 rfl (by decide) ?_
    refine r_alen a107_6 ty40 (Or.inl rfl) rfl ?_
    refine r_iclt a107_7 (fun h_7 => ?_) (fun h_7 => ?_)
    · refine r_loadA a107_12 rfl (by decide) ?_
      refine r_loadI a107_13 rfl ?_
      refine r_iald a107_14 ty40 (by omega) ?_
      refine r_storeI_3 a107_15 rfl ?_
      refine r_loadA a107_16 rfl (by decide) ?_
      refine r_loadI a107_17 rfl ?_
      refine r_loadI a107_18 rfl ?_
      refine r_iast a107_19 ty40 (by omega) ?_
      refine r_loadI a107_20 rfl ?_
      refine r_retIq a107_21 ?_
      exact ⟨rfl, rfl⟩
    · refine r_pushI a107_10 ?_
      refine r_retIq a107_11 ?_
      exfalso
      omega
theorem c_Fg_turn (d z : Nat) (m : XM) (s : Int → Int) (cl : CLs) (g n : Int) (hd : 1 ≤ d) (hC : CpC m s cl) : CI d k_Fg_turn z m [vR 32, vI g, vI n] (fun x m' => (¬ gt s g ∧ x = -1 ∧ m' = m) ∨ (gt s g ∧ ¬ (0 ≤ n ∧ n ≤ 9) ∧ x = -2 ∧ m' = m) ∨ (gt s g ∧ (0 ≤ n ∧ n ≤ 9) ∧ x = m 37 g ∧ m' = up2 m 37 g n)) := by
  obtain ⟨e, rfl⟩ : ∃ e, d = e + 1 := ⟨d - 1, by omega⟩
  have hN := hC.1.1.1
  refine r_entry mx68 rfl ?_
  refine r_loadA a68_0 rfl (by decide) ?_
  refine r_loadI a68_1 rfl ?_
  refine r_callI_2 a68_2 (Nat.le_of_ble_eq_true rfl) (le_mx mx103 (Nat.le_of_ble_eq_true rfl)) (Or.inr (recv_ok ty32 ow103 (by decide))) (c_Fg_noGate e z m s cl hC g) (fun x_2 m_2 h_2 => ?_)
  obtain ⟨hm_2, h_2⟩ := h_2
  rw [hm_2]
  refine r_ifeq a68_5 (fun h_5 => ?_) (fun h_5 => ?_)
  · refine r_loadI a68_10 rfl ?_
    refine r_pushI a68_11 ?_
    refine r_pushI a68_12 ?_
    refine r_callI_3 a68_14 (Nat.le_of_ble_eq_true rfl) (le_mx mx106 (Nat.le_of_ble_eq_true rfl)) (Or.inl rfl) (c_Fg_outside e z m n 0 9) (fun x_14 m_14 h_14 => ?_)
    obtain ⟨hm_14, h_14⟩ := h_14
    rw [hm_14]
    refine r_ifeq a68_17 (fun h_17 => ?_) (fun h_17 => ?_)
    · refine r_loadA a68_25 rfl (by decide) ?_
      refine r_getR a68_26 ty32 rf32_0 (by decide) ?_
      refine r_getR a68_29 ty33 rf33_0 (by decide) ?_
      refine r_getR a68_32 ty34 rf34_3 (by decide) ?_
      refine r_loadI a68_35 rfl ?_
      refine r_loadI a68_36 rfl ?_
      have hg := (gtD h_2).1 (by omega)
      refine r_callI_3 a68_37 (Nat.le_of_ble_eq_true rfl) (le_mx mx107 (Nat.le_of_ble_eq_true rfl)) (Or.inl rfl) (c_Fg_exchange_37 e z m g n ⟨hg.1, by have := hg.2; omega⟩) (fun x_37 m_37 h_37 => ?_)
      refine r_retIq a68_40 ?_
      first
        | exact Or.inr (Or.inr ⟨hg, by omega, h_37.1, h_37.2⟩)
        | exact Or.inr (Or.inl ⟨(gtD h_2).1 (by omega), by omega, rfl, rfl⟩)
    · refine r_pushI a68_20 ?_
      refine r_goto a68_22 ?_
      refine r_retIq a68_40 ?_
      first
        | exact Or.inr (Or.inr ⟨hg, by omega, h_37.1, h_37.2⟩)
        | exact Or.inr (Or.inl ⟨(gtD h_2).1 (by omega), by omega, rfl, rfl⟩)
  · refine r_pushI a68_8 ?_
    refine r_retIq a68_9 ?_
    exact Or.inl ⟨(gtD h_2).2 h_5, rfl, rfl⟩
theorem c_Fg_plan (d z : Nat) (m : XM) (s : Int → Int) (cl : CLs) (g n : Int) (hd : 1 ≤ d) (hC : CpC m s cl) : CI d k_Fg_plan z m [vR 32, vI g, vI n] (fun x m' => (¬ gt s g ∧ x = -1 ∧ m' = m) ∨ (gt s g ∧ ¬ (0 ≤ n ∧ n ≤ 2) ∧ x = -2 ∧ m' = m) ∨ (gt s g ∧ (0 ≤ n ∧ n ≤ 2) ∧ x = m 38 g ∧ m' = up2 m 38 g n)) := by
  obtain ⟨e, rfl⟩ : ∃ e, d = e + 1 := ⟨d - 1, by omega⟩
  have hN := hC.1.1.1
  refine r_entry mx69 rfl ?_
  refine r_loadA a69_0 rfl (by decide) ?_
  refine r_loadI a69_1 rfl ?_
  refine r_callI_2 a69_2 (Nat.le_of_ble_eq_true rfl) (le_mx mx103 (Nat.le_of_ble_eq_true rfl)) (Or.inr (recv_ok ty32 ow103 (by decide))) (c_Fg_noGate e z m s cl hC g) (fun x_2 m_2 h_2 => ?_)
  obtain ⟨hm_2, h_2⟩ := h_2
  rw [hm_2]
  refine r_ifeq a69_5 (fun h_5 => ?_) (fun h_5 => ?_)
  · refine r_loadI a69_10 rfl ?_
    refine r_pushI a69_11 ?_
    refine r_pushI a69_12 ?_
    refine r_callI_3 a69_13 (Nat.le_of_ble_eq_true rfl) (le_mx mx106 (Nat.le_of_ble_eq_true rfl)) (Or.inl rfl) (c_Fg_outside e z m n 0 2) (fun x_13 m_13 h_13 => ?_)
    obtain ⟨hm_13, h_13⟩ := h_13
    rw [hm_13]
    refine r_ifeq a69_16 (fun h_16 => ?_) (fun h_16 => ?_)
    · refine r_loadA a69_24 rfl (by decide) ?_
      refine r_getR a69_25 ty32 rf32_0 (by decide) ?_
      refine r_getR a69_28 ty33 rf33_0 (by decide) ?_
      refine r_getR a69_31 ty34 rf34_4 (by decide) ?_
      refine r_loadI a69_34 rfl ?_
      refine r_loadI a69_35 rfl ?_
      have hg := (gtD h_2).1 (by omega)
      refine r_callI_3 a69_36 (Nat.le_of_ble_eq_true rfl) (le_mx mx107 (Nat.le_of_ble_eq_true rfl)) (Or.inl rfl) (c_Fg_exchange_38 e z m g n ⟨hg.1, by have := hg.2; omega⟩) (fun x_36 m_36 h_36 => ?_)
      refine r_retIq a69_39 ?_
      first
        | exact Or.inr (Or.inr ⟨hg, by omega, h_36.1, h_36.2⟩)
        | exact Or.inr (Or.inl ⟨(gtD h_2).1 (by omega), by omega, rfl, rfl⟩)
    · refine r_pushI a69_19 ?_
      refine r_goto a69_21 ?_
      refine r_retIq a69_39 ?_
      first
        | exact Or.inr (Or.inr ⟨hg, by omega, h_36.1, h_36.2⟩)
        | exact Or.inr (Or.inl ⟨(gtD h_2).1 (by omega), by omega, rfl, rfl⟩)
  · refine r_pushI a69_8 ?_
    refine r_retIq a69_9 ?_
    exact Or.inl ⟨(gtD h_2).2 h_5, rfl, rfl⟩
theorem c_Fg_row (d z : Nat) (m : XM) (s : Int → Int) (cl : CLs) (g k n : Int) (hd : 1 ≤ d) (hC : CpC m s cl) : CI d k_Fg_row z m [vR 32, vI g, vI k, vI n] (fun x m' => (¬ (gt s g ∧ 0 ≤ k ∧ k ≤ 3) ∧ x = -1 ∧ m' = m) ∨ ((gt s g ∧ 0 ≤ k ∧ k ≤ 3) ∧ ¬ (0 ≤ n ∧ n ≤ 9) ∧ x = -2 ∧ m' = m) ∨
    ((gt s g ∧ 0 ≤ k ∧ k ≤ 3) ∧ (0 ≤ n ∧ n ≤ 9) ∧ m 35 g ≠ 6 ∧ x = -3 ∧ m' = m) ∨ ((gt s g ∧ 0 ≤ k ∧ k ≤ 3) ∧ (0 ≤ n ∧ n ≤ 9) ∧ m 35 g = 6 ∧ x = m 39 (g * 4 + k) ∧ m' = up2 m 39 (g * 4 + k) n)) := by
  obtain ⟨e, rfl⟩ : ∃ e, d = e + 1 := ⟨d - 1, by omega⟩
  have hN := hC.1.1.1
  refine r_entry mx70 rfl ?_
  refine r_loadA a70_0 rfl (by decide) ?_
  refine r_loadI a70_1 rfl ?_
  refine r_callI_2 a70_2 (Nat.le_of_ble_eq_true rfl) (le_mx mx103 (Nat.le_of_ble_eq_true rfl)) (Or.inr (recv_ok ty32 ow103 (by decide))) (c_Fg_noGate e z m s cl hC g) (fun x_2 m_2 h_2 => ?_)
  obtain ⟨hm_2, h_2⟩ := h_2
  rw [hm_2]
  refine r_ifne a70_5 (fun h_5 => ?_) (fun h_5 => ?_)
  · refine r_pushI a70_17 ?_
    refine r_retIq a70_18 ?_
    refine Or.inl ⟨?_, rfl, rfl⟩
    rintro ⟨a, b⟩
    first
      | exact (gtD h_2).2 h_5 a
      | omega
  · refine r_loadI a70_8 rfl ?_
    refine r_pushI a70_9 ?_
    refine r_pushI a70_10 ?_
    refine r_callI_3 a70_11 (Nat.le_of_ble_eq_true rfl) (le_mx mx106 (Nat.le_of_ble_eq_true rfl)) (Or.inl rfl) (c_Fg_outside e z m k 0 3) (fun x_11 m_11 h_11 => ?_)
    obtain ⟨hm_11, h_11⟩ := h_11
    rw [hm_11]
    refine r_ifeq a70_14 (fun h_14 => ?_) (fun h_14 => ?_)
    · have hg := (gtD h_2).1 (by omega)
      have hg2 := hg.1
      have hg3 := hg.2
      refine r_loadI a70_19 rfl ?_
      refine r_pushI a70_20 ?_
      refine r_pushI a70_21 ?_
      refine r_callI_3 a70_23 (Nat.le_of_ble_eq_true rfl) (le_mx mx106 (Nat.le_of_ble_eq_true rfl)) (Or.inl rfl) (c_Fg_outside e z m n 0 9) (fun x_23 m_23 h_23 => ?_)
      obtain ⟨hm_23, h_23⟩ := h_23
      rw [hm_23]
      refine r_ifeq a70_26 (fun h_26 => ?_) (fun h_26 => ?_)
      · refine r_loadA a70_32 rfl (by decide) ?_
        refine r_getR a70_33 ty32 rf32_0 (by decide) ?_
        refine r_getR a70_36 ty33 rf33_0 (by decide) ?_
        refine r_getR a70_39 ty34 rf34_1 (by decide) ?_
        refine r_loadI a70_42 rfl ?_
        refine r_iald a70_43 ty35 (by omega) ?_
        refine r_pushI a70_44 ?_
        refine r_iceq a70_46 (fun h_46 => ?_) (fun h_46 => ?_)
        · refine r_loadA a70_54 rfl (by decide) ?_
          refine r_getR a70_55 ty32 rf32_0 (by decide) ?_
          refine r_getR a70_58 ty33 rf33_0 (by decide) ?_
          refine r_getR a70_61 ty34 rf34_5 (by decide) ?_
          refine r_loadI a70_64 rfl ?_
          refine r_pushI a70_65 ?_
          refine r_mul a70_66 (by omega) ?_
          refine r_loadI a70_67 rfl ?_
          refine r_add a70_68 (by omega) ?_
          refine r_loadI a70_69 rfl ?_
          refine r_callI_3 a70_70 (Nat.le_of_ble_eq_true rfl) (le_mx mx107 (Nat.le_of_ble_eq_true rfl)) (Or.inl rfl) (c_Fg_exchange_39 e z m (g * 4 + k) n (by omega)) (fun x_70 m_70 h_70 => ?_)
          refine r_retIq a70_73 ?_
          first
            | exact Or.inr (Or.inr (Or.inr ⟨⟨hg, by omega⟩, by omega, by omega, h_70.1, h_70.2⟩))
            | exact Or.inr (Or.inr (Or.inl ⟨⟨hg, by omega⟩, by omega, by omega, rfl, rfl⟩))
        · refine r_pushI a70_49 ?_
          refine r_goto a70_51 ?_
          refine r_retIq a70_73 ?_
          first
            | exact Or.inr (Or.inr (Or.inr ⟨⟨hg, by omega⟩, by omega, by omega, h_70.1, h_70.2⟩))
            | exact Or.inr (Or.inr (Or.inl ⟨⟨hg, by omega⟩, by omega, by omega, rfl, rfl⟩))
      · refine r_pushI a70_29 ?_
        refine r_retIq a70_31 ?_
        exact Or.inr (Or.inl ⟨⟨hg, by omega⟩, by omega, rfl, rfl⟩)
    · refine r_pushI a70_17 ?_
      refine r_retIq a70_18 ?_
      refine Or.inl ⟨?_, rfl, rfl⟩
      rintro ⟨a, b⟩
      first
        | exact (gtD h_2).2 h_5 a
        | omega
theorem c_Fg_skier (d z : Nat) (m : XM) (a : Int) (hd : 1 ≤ d) (h0 : 0 ≤ m 33 2 ∧ m 33 2 ≤ 5) : CI d k_Fg_skier z m [vR 32, vI a] (fun x m' => (¬ (0 ≤ a ∧ a ≤ 9) ∧ x = -2 ∧ m' = m) ∨ ((0 ≤ a ∧ a ≤ 9) ∧ m 33 2 = 5 ∧ x = -4 ∧ m' = m) ∨ ((0 ≤ a ∧ a ≤ 9) ∧ m 33 2 < 5 ∧ x = m 33 2 ∧ m' = up2 (up2 m 40 (m 33 2) a) 33 2 (m 33 2 + 1))) := by
  obtain ⟨e, rfl⟩ : ∃ e, d = e + 1 := ⟨d - 1, by omega⟩
  refine r_entry mx71 rfl ?_
  refine r_loadI a71_0 rfl ?_
  refine r_pushI a71_1 ?_
  refine r_pushI a71_2 ?_
  refine r_callI_3 a71_4 (Nat.le_of_ble_eq_true rfl) (le_mx mx106 (Nat.le_of_ble_eq_true rfl)) (Or.inl rfl) (c_Fg_outside e z m a 0 9) (fun x_4 m_4 h_4 => ?_)
  obtain ⟨hm_4, h_4⟩ := h_4
  rw [hm_4]
  refine r_ifeq a71_7 (fun h_7 => ?_) (fun h_7 => ?_)
  · refine r_loadA a71_13 rfl (by decide) ?_
    refine r_getR a71_14 ty32 rf32_0 (by decide) ?_
    refine r_getI (ki := 2) a71_17 ty33 rfl ?_
    refine r_pushI a71_20 ?_
    refine r_iclt a71_21 (fun h_21 => ?_) (fun h_21 => ?_)
    · refine r_loadA a71_27 rfl (by decide) ?_
      refine r_getR a71_28 ty32 rf32_0 (by decide) ?_
      refine r_getR a71_31 ty33 rf33_1 (by decide) ?_
      refine r_loadA a71_34 rfl (by decide) ?_
      refine r_getR a71_35 ty32 rf32_0 (by decide) ?_
      refine r_getI (ki := 2) a71_38 ty33 rfl ?_
      refine r_loadI a71_41 rfl ?_
      refine r_iast a71_42 ty40 (by omega) ?_
      refine r_loadA a71_43 rfl (by decide) ?_
      refine r_getR a71_44 ty32 rf32_0 (by decide) ?_
      refine r_dup a71_47 rfl ?_
      refine r_getI (ki := 2) a71_48 ty33 rfl ?_
      rw [up2_c (by decide)]
      refine r_dupx1 a71_51 rfl rfl ?_
      refine r_pushI a71_52 ?_
      refine r_add a71_53 (by omega) ?_
      refine r_putI (ki := 2) a71_54 ty33 rfl ?_
      refine r_retIq a71_57 ?_
      exact Or.inr (Or.inr ⟨by omega, by omega, rfl, rfl⟩)
    · refine r_pushI a71_24 ?_
      refine r_retIq a71_26 ?_
      exact Or.inr (Or.inl ⟨by omega, by omega, rfl, rfl⟩)
  · refine r_pushI a71_10 ?_
    refine r_retIq a71_12 ?_
    exact Or.inl ⟨by omega, rfl, rfl⟩
theorem c_Fg_skill (d z : Nat) (m : XM) (s : Int → Int) (cl : CLs) (g n : Int) (hd : 1 ≤ d) (hC : CpC m s cl) : CI d k_Fg_skill z m [vR 32, vI g, vI n] (fun x m' => (¬ sk s g ∧ x = -1 ∧ m' = m) ∨ (sk s g ∧ ¬ (-1 ≤ n ∧ n ≤ 9) ∧ x = -2 ∧ m' = m) ∨ (sk s g ∧ n = -1 ∧ x = m 40 g ∧ m' = m) ∨ (sk s g ∧ (0 ≤ n ∧ n ≤ 9) ∧ x = m 40 g ∧ m' = up2 m 40 g n)) := by
  obtain ⟨e, rfl⟩ : ∃ e, d = e + 1 := ⟨d - 1, by omega⟩
  have hN := hC.1.1.2.1
  refine r_entry mx72 rfl ?_
  refine r_loadA a72_0 rfl (by decide) ?_
  refine r_loadI a72_1 rfl ?_
  refine r_callI_2 a72_2 (Nat.le_of_ble_eq_true rfl) (le_mx mx104 (Nat.le_of_ble_eq_true rfl)) (Or.inr (recv_ok ty32 ow104 (by decide))) (c_Fg_noSkier e z m s cl hC g) (fun x_2 m_2 h_2 => ?_)
  obtain ⟨hm_2, h_2⟩ := h_2
  rw [hm_2]
  refine r_ifeq a72_5 (fun h_5 => ?_) (fun h_5 => ?_)
  · refine r_loadI a72_10 rfl ?_
    refine r_pushI a72_11 ?_
    refine r_pushI a72_12 ?_
    refine r_callI_3 a72_14 (Nat.le_of_ble_eq_true rfl) (le_mx mx106 (Nat.le_of_ble_eq_true rfl)) (Or.inl rfl) (c_Fg_outside e z m n (-1) 9) (fun x_14 m_14 h_14 => ?_)
    obtain ⟨hm_14, h_14⟩ := h_14
    rw [hm_14]
    have hg := (skD h_2).1 (by omega)
    have hg2 := hg.1
    have hg3 := hg.2
    refine r_ifeq a72_17 (fun h_17 => ?_) (fun h_17 => ?_)
    · refine r_loadI a72_23 rfl ?_
      refine r_pushI a72_24 ?_
      refine r_icne a72_25 (fun h_25 => ?_) (fun h_25 => ?_)
      · refine r_loadA a72_40 rfl (by decide) ?_
        refine r_getR a72_41 ty32 rf32_0 (by decide) ?_
        refine r_getR a72_44 ty33 rf33_1 (by decide) ?_
        refine r_loadI a72_47 rfl ?_
        refine r_loadI a72_48 rfl ?_
        refine r_callI_3 a72_49 (Nat.le_of_ble_eq_true rfl) (le_mx mx107 (Nat.le_of_ble_eq_true rfl)) (Or.inl rfl) (c_Fg_exchange_40 e z m g n (by omega)) (fun x_49 m_49 h_49 => ?_)
        refine r_retIq a72_52 ?_
        first
          | exact Or.inr (Or.inr (Or.inr ⟨hg, by omega, h_49.1, h_49.2⟩))
          | exact Or.inr (Or.inr (Or.inl ⟨hg, by omega, rfl, rfl⟩))
      · refine r_loadA a72_28 rfl (by decide) ?_
        refine r_getR a72_29 ty32 rf32_0 (by decide) ?_
        refine r_getR a72_32 ty33 rf33_1 (by decide) ?_
        refine r_loadI a72_35 rfl ?_
        refine r_iald a72_36 ty40 (by omega) ?_
        refine r_goto a72_37 ?_
        refine r_retIq a72_52 ?_
        first
          | exact Or.inr (Or.inr (Or.inr ⟨hg, by omega, h_49.1, h_49.2⟩))
          | exact Or.inr (Or.inr (Or.inl ⟨hg, by omega, rfl, rfl⟩))
    · refine r_pushI a72_20 ?_
      refine r_retIq a72_22 ?_
      exact Or.inr (Or.inl ⟨hg, by omega, rfl, rfl⟩)
  · refine r_pushI a72_8 ?_
    refine r_retIq a72_9 ?_
    exact Or.inl ⟨(skD h_2).2 h_5, rfl, rfl⟩
theorem c_No_clear_49 (d z : Nat) (m : XM) : CI d k_No_clear z m [vR 49] (fun x m' => x = 0 ∧ m' = up2 m 49 0 0) := by
  refine r_entry mx22 rfl ?_
  refine r_loadA a22_0 rfl (by decide) ?_
  refine r_pushI a22_1 ?_
  refine r_putI (ki := 0) a22_2 ty49 rfl ?_
  refine r_loadA a22_5 rfl (by decide) ?_
  refine r_getI (ki := 0) a22_6 ty49 rfl ?_
  rw [up2_s]
  refine r_retIq a22_9 ?_
  exact ⟨rfl, rfl⟩
theorem c_No_append_49 (d z : Nat) (m : XM) (k t n : Int) (hn : m 49 0 = n) (h0 : 0 ≤ n ∧ n ≤ 7) : CI d k_No_append z m [vR 49, vI k, vI t] (fun x m' => (n = 7 ∧ x = 0 ∧ m' = m) ∨ (n < 7 ∧ x = 1 ∧ m' = up2 (up2 (up2 m 50 n k) 51 n t) 49 0 (n + 1))) := by
  refine r_entry mx21 rfl ?_
  refine r_loadA a21_0 rfl (by decide) ?_
  refine r_getI (ki := 0) a21_1 ty49 rfl ?_
  rw [hn]
  refine r_loadA a21_4 rfl (by decide) ?_
  refine r_getR a21_5 ty49 rf49_1 (by decide) ?_
  refine r_alen a21_8 ty50 (Or.inl rfl) rfl ?_
  refine r_iclt a21_9 (fun h_9 => ?_) (fun h_9 => ?_)
  · refine r_loadA a21_14 rfl (by decide) ?_
    refine r_getR a21_15 ty49 rf49_1 (by decide) ?_
    refine r_loadA a21_18 rfl (by decide) ?_
    refine r_getI (ki := 0) a21_19 ty49 rfl ?_
    rw [hn]
    refine r_loadI a21_22 rfl ?_
    refine r_iast a21_23 ty50 (by omega) ?_
    refine r_loadA a21_24 rfl (by decide) ?_
    refine r_getR a21_25 ty49 rf49_2 (by decide) ?_
    refine r_loadA a21_28 rfl (by decide) ?_
    refine r_getI (ki := 0) a21_29 ty49 rfl ?_
    rw [up2_c (by decide), hn]
    refine r_loadI a21_32 rfl ?_
    refine r_iast a21_33 ty51 (by omega) ?_
    refine r_loadA a21_34 rfl (by decide) ?_
    refine r_dup a21_35 rfl ?_
    refine r_getI (ki := 0) a21_36 ty49 rfl ?_
    rw [up2_c (by decide), up2_c (by decide), hn]
    refine r_pushI a21_39 ?_
    refine r_add a21_40 (by omega) ?_
    refine r_putI (ki := 0) a21_41 ty49 rfl ?_
    refine r_pushI a21_44 ?_
    refine r_retZq a21_45 (by omega) ?_
    exact Or.inr ⟨by omega, rfl, rfl⟩
  · refine r_pushI a21_12 ?_
    refine r_retZq a21_13 (by omega) ?_
    exact Or.inl ⟨by omega, rfl, rfl⟩
theorem c_Fg_note_49 (d z : Nat) (m : XM) (k t n : Int) (hd : 1 ≤ d) (hn : m 49 0 = n) (h0 : 0 ≤ n ∧ n ≤ 7) : CI d k_Fg_note z m [vR 49, vI k, vI t] (fun x m' => (¬ (0 ≤ t ∧ t ≤ 9999) ∧ x = -2 ∧ m' = m) ∨ ((0 ≤ t ∧ t ≤ 9999) ∧ n = 7 ∧ x = -4 ∧ m' = m) ∨ ((0 ≤ t ∧ t ≤ 9999) ∧ n < 7 ∧ x = n + 1 ∧ m' = up2 (up2 (up2 m 50 n k) 51 n t) 49 0 (n + 1))) := by
  obtain ⟨e, rfl⟩ : ∃ e, d = e + 1 := ⟨d - 1, by omega⟩
  refine r_entry mx108 rfl ?_
  refine r_loadI a108_0 rfl ?_
  refine r_pushI a108_1 ?_
  refine r_pushI a108_2 ?_
  refine r_callI_3 a108_5 (Nat.le_of_ble_eq_true rfl) (le_mx mx106 (Nat.le_of_ble_eq_true rfl)) (Or.inl rfl) (c_Fg_outside e z m t 0 9999) (fun x_5 m_5 h_5 => ?_)
  obtain ⟨hm_5, h_5⟩ := h_5
  rw [hm_5]
  refine r_ifeq a108_8 (fun h_8 => ?_) (fun h_8 => ?_)
  · refine r_loadA a108_14 rfl (by decide) ?_
    refine r_loadI a108_15 rfl ?_
    refine r_loadI a108_16 rfl ?_
    refine r_callI_3 a108_17 (Nat.le_of_ble_eq_true rfl) (le_mx mx21 (Nat.le_of_ble_eq_true rfl)) (Or.inr (recv_ok ty49 ow21 (by decide))) (c_No_append_49 e z m k t n hn h0) (fun x_17 m_17 h_17 => ?_)
    refine r_ifeq a108_20 (fun h_20 => ?_) (fun h_20 => ?_)
    · refine r_pushI a108_30 ?_
      refine r_retIq a108_32 ?_
      first
        | exact Or.inr (Or.inr ⟨by omega, q1, rfl, rfl⟩)
        | (rcases h_17 with ⟨q1, _, q2⟩ | ⟨_, q, _⟩
           · rw [q2]; exact Or.inr (Or.inl ⟨by omega, q1, rfl, rfl⟩)
           · exfalso; omega)
    · refine r_loadA a108_23 rfl (by decide) ?_
      refine r_getI (ki := 0) a108_24 ty49 rfl ?_
      rcases h_17 with ⟨_, q, _⟩ | ⟨q1, _, q2⟩
      · exfalso; omega
      rw [q2, up2_s]
      refine r_goto a108_27 ?_
      refine r_retIq a108_32 ?_
      first
        | exact Or.inr (Or.inr ⟨by omega, q1, rfl, rfl⟩)
        | (rcases h_17 with ⟨q1, _, q2⟩ | ⟨_, q, _⟩
           · rw [q2]; exact Or.inr (Or.inl ⟨by omega, q1, rfl, rfl⟩)
           · exfalso; omega)
  · refine r_pushI a108_11 ?_
    refine r_retIq a108_13 ?_
    exact Or.inl ⟨by omega, rfl, rfl⟩
theorem c_No_clear_52 (d z : Nat) (m : XM) : CI d k_No_clear z m [vR 52] (fun x m' => x = 0 ∧ m' = up2 m 52 0 0) := by
  refine r_entry mx22 rfl ?_
  refine r_loadA a22_0 rfl (by decide) ?_
  refine r_pushI a22_1 ?_
  refine r_putI (ki := 0) a22_2 ty52 rfl ?_
  refine r_loadA a22_5 rfl (by decide) ?_
  refine r_getI (ki := 0) a22_6 ty52 rfl ?_
  rw [up2_s]
  refine r_retIq a22_9 ?_
  exact ⟨rfl, rfl⟩
theorem c_No_append_52 (d z : Nat) (m : XM) (k t n : Int) (hn : m 52 0 = n) (h0 : 0 ≤ n ∧ n ≤ 8) : CI d k_No_append z m [vR 52, vI k, vI t] (fun x m' => (n = 8 ∧ x = 0 ∧ m' = m) ∨ (n < 8 ∧ x = 1 ∧ m' = up2 (up2 (up2 m 53 n k) 54 n t) 52 0 (n + 1))) := by
  refine r_entry mx21 rfl ?_
  refine r_loadA a21_0 rfl (by decide) ?_
  refine r_getI (ki := 0) a21_1 ty52 rfl ?_
  rw [hn]
  refine r_loadA a21_4 rfl (by decide) ?_
  refine r_getR a21_5 ty52 rf52_1 (by decide) ?_
  refine r_alen a21_8 ty53 (Or.inl rfl) rfl ?_
  refine r_iclt a21_9 (fun h_9 => ?_) (fun h_9 => ?_)
  · refine r_loadA a21_14 rfl (by decide) ?_
    refine r_getR a21_15 ty52 rf52_1 (by decide) ?_
    refine r_loadA a21_18 rfl (by decide) ?_
    refine r_getI (ki := 0) a21_19 ty52 rfl ?_
    rw [hn]
    refine r_loadI a21_22 rfl ?_
    refine r_iast a21_23 ty53 (by omega) ?_
    refine r_loadA a21_24 rfl (by decide) ?_
    refine r_getR a21_25 ty52 rf52_2 (by decide) ?_
    refine r_loadA a21_28 rfl (by decide) ?_
    refine r_getI (ki := 0) a21_29 ty52 rfl ?_
    rw [up2_c (by decide), hn]
    refine r_loadI a21_32 rfl ?_
    refine r_iast a21_33 ty54 (by omega) ?_
    refine r_loadA a21_34 rfl (by decide) ?_
    refine r_dup a21_35 rfl ?_
    refine r_getI (ki := 0) a21_36 ty52 rfl ?_
    rw [up2_c (by decide), up2_c (by decide), hn]
    refine r_pushI a21_39 ?_
    refine r_add a21_40 (by omega) ?_
    refine r_putI (ki := 0) a21_41 ty52 rfl ?_
    refine r_pushI a21_44 ?_
    refine r_retZq a21_45 (by omega) ?_
    exact Or.inr ⟨by omega, rfl, rfl⟩
  · refine r_pushI a21_12 ?_
    refine r_retZq a21_13 (by omega) ?_
    exact Or.inl ⟨by omega, rfl, rfl⟩
theorem c_Fg_note_52 (d z : Nat) (m : XM) (k t n : Int) (hd : 1 ≤ d) (hn : m 52 0 = n) (h0 : 0 ≤ n ∧ n ≤ 8) : CI d k_Fg_note z m [vR 52, vI k, vI t] (fun x m' => (¬ (0 ≤ t ∧ t ≤ 9999) ∧ x = -2 ∧ m' = m) ∨ ((0 ≤ t ∧ t ≤ 9999) ∧ n = 8 ∧ x = -4 ∧ m' = m) ∨ ((0 ≤ t ∧ t ≤ 9999) ∧ n < 8 ∧ x = n + 1 ∧ m' = up2 (up2 (up2 m 53 n k) 54 n t) 52 0 (n + 1))) := by
  obtain ⟨e, rfl⟩ : ∃ e, d = e + 1 := ⟨d - 1, by omega⟩
  refine r_entry mx108 rfl ?_
  refine r_loadI a108_0 rfl ?_
  refine r_pushI a108_1 ?_
  refine r_pushI a108_2 ?_
  refine r_callI_3 a108_5 (Nat.le_of_ble_eq_true rfl) (le_mx mx106 (Nat.le_of_ble_eq_true rfl)) (Or.inl rfl) (c_Fg_outside e z m t 0 9999) (fun x_5 m_5 h_5 => ?_)
  obtain ⟨hm_5, h_5⟩ := h_5
  rw [hm_5]
  refine r_ifeq a108_8 (fun h_8 => ?_) (fun h_8 => ?_)
  · refine r_loadA a108_14 rfl (by decide) ?_
    refine r_loadI a108_15 rfl ?_
    refine r_loadI a108_16 rfl ?_
    refine r_callI_3 a108_17 (Nat.le_of_ble_eq_true rfl) (le_mx mx21 (Nat.le_of_ble_eq_true rfl)) (Or.inr (recv_ok ty52 ow21 (by decide))) (c_No_append_52 e z m k t n hn h0) (fun x_17 m_17 h_17 => ?_)
    refine r_ifeq a108_20 (fun h_20 => ?_) (fun h_20 => ?_)
    · refine r_pushI a108_30 ?_
      refine r_retIq a108_32 ?_
      first
        | exact Or.inr (Or.inr ⟨by omega, q1, rfl, rfl⟩)
        | (rcases h_17 with ⟨q1, _, q2⟩ | ⟨_, q, _⟩
           · rw [q2]; exact Or.inr (Or.inl ⟨by omega, q1, rfl, rfl⟩)
           · exfalso; omega)
    · refine r_loadA a108_23 rfl (by decide) ?_
      refine r_getI (ki := 0) a108_24 ty52 rfl ?_
      rcases h_17 with ⟨_, q, _⟩ | ⟨q1, _, q2⟩
      · exfalso; omega
      rw [q2, up2_s]
      refine r_goto a108_27 ?_
      refine r_retIq a108_32 ?_
      first
        | exact Or.inr (Or.inr ⟨by omega, q1, rfl, rfl⟩)
        | (rcases h_17 with ⟨q1, _, q2⟩ | ⟨_, q, _⟩
           · rw [q2]; exact Or.inr (Or.inl ⟨by omega, q1, rfl, rfl⟩)
           · exfalso; omega)
  · refine r_pushI a108_11 ?_
    refine r_retIq a108_13 ?_
    exact Or.inl ⟨by omega, rfl, rfl⟩
theorem c_Fg_see (d z : Nat) (m : XM) (s : Int → Int) (cl : CLs) (g t : Int) (hd : 2 ≤ d) (hC : CpC m s cl) : CI d k_Fg_see z m [vR 32, vI g, vI t] (fun x m' => (g = -1 ∧ x = 0 ∧ m' = up2 m 49 0 0) ∨ (g ≠ -1 ∧ ¬ gt s g ∧ x = -1 ∧ m' = m) ∨ (gt s g ∧ ¬ (0 ≤ t ∧ t ≤ 9999) ∧ x = -2 ∧ m' = m) ∨ (gt s g ∧ (0 ≤ t ∧ t ≤ 9999) ∧ s 3 = 7 ∧ x = -4 ∧ m' = m) ∨
    (gt s g ∧ (0 ≤ t ∧ t ≤ 9999) ∧ s 3 < 7 ∧ x = s 3 + 1 ∧ m' = up2 (up2 (up2 m 50 (s 3) g) 51 (s 3) t) 49 0 (s 3 + 1))) := by
  obtain ⟨e, rfl⟩ : ∃ e, d = e + 1 := ⟨d - 1, by omega⟩
  have h3 := hC.1.1.2.2.2.1
  refine r_entry mx92 rfl ?_
  refine r_loadI a92_0 rfl ?_
  refine r_pushI a92_1 ?_
  refine r_icne a92_2 (fun h_2 => ?_) (fun h_2 => ?_)
  · refine r_loadA a92_16 rfl (by decide) ?_
    refine r_loadI a92_17 rfl ?_
    refine r_callI_2 a92_18 (Nat.le_of_ble_eq_true rfl) (le_mx mx103 (Nat.le_of_ble_eq_true rfl)) (Or.inr (recv_ok ty32 ow103 (by decide))) (c_Fg_noGate e z m s cl hC g) (fun x_18 m_18 h_18 => ?_)
    obtain ⟨hm_18, h_18⟩ := h_18
    rw [hm_18]
    refine r_ifeq a92_21 (fun h_21 => ?_) (fun h_21 => ?_)
    · refine r_loadA a92_28 rfl (by decide) ?_
      refine r_getR a92_29 ty32 rf32_0 (by decide) ?_
      refine r_getR a92_32 ty33 rf33_7 (by decide) ?_
      refine r_loadI a92_35 rfl ?_
      refine r_loadI a92_36 rfl ?_
      refine r_callI_3 a92_37 (Nat.le_of_ble_eq_true rfl) (le_mx mx108 (Nat.le_of_ble_eq_true rfl)) (Or.inl rfl) (c_Fg_note_49 e z m g t (s 3) (by omega) hC.2.1.2.2.2.2.2.1.1 h3) (fun x_37 m_37 h_37 => ?_)
      refine r_retIq a92_40 ?_
      first
        | exact Or.inr (Or.inl ⟨by omega, (gtD h_18).2 h_21, rfl, rfl⟩)
        | (have hg := (gtD h_18).1 (by omega)
           rcases h_37 with ⟨a, b, c⟩ | ⟨a, b, c, d⟩ | ⟨a, b, c, d⟩
           · exact Or.inr (Or.inr (Or.inl ⟨hg, a, b, c⟩))
           · exact Or.inr (Or.inr (Or.inr (Or.inl ⟨hg, a, b, c, d⟩)))
           · exact Or.inr (Or.inr (Or.inr (Or.inr ⟨hg, a, b, c, d⟩))))
    · refine r_pushI a92_24 ?_
      refine r_goto a92_25 ?_
      refine r_retIq a92_40 ?_
      first
        | exact Or.inr (Or.inl ⟨by omega, (gtD h_18).2 h_21, rfl, rfl⟩)
        | (have hg := (gtD h_18).1 (by omega)
           rcases h_37 with ⟨a, b, c⟩ | ⟨a, b, c, d⟩ | ⟨a, b, c, d⟩
           · exact Or.inr (Or.inr (Or.inl ⟨hg, a, b, c⟩))
           · exact Or.inr (Or.inr (Or.inr (Or.inl ⟨hg, a, b, c, d⟩)))
           · exact Or.inr (Or.inr (Or.inr (Or.inr ⟨hg, a, b, c, d⟩))))
  · refine r_loadA a92_5 rfl (by decide) ?_
    refine r_getR a92_6 ty32 rf32_0 (by decide) ?_
    refine r_getR a92_9 ty33 rf33_7 (by decide) ?_
    refine r_callI_1 a92_12 (Nat.le_of_ble_eq_true rfl) (le_mx mx22 (Nat.le_of_ble_eq_true rfl)) (Or.inr (recv_ok ty49 ow22 (by decide))) (c_No_clear_49 e z m) (fun x_12 m_12 h_12 => ?_)
    refine r_retIq a92_15 ?_
    exact Or.inl ⟨by omega, h_12.1, h_12.2⟩
theorem c_Fg_book (d z : Nat) (m : XM) (s : Int → Int) (cl : CLs) (g t : Int) (hd : 2 ≤ d) (hC : CpC m s cl) : CI d k_Fg_book z m [vR 32, vI g, vI t] (fun x m' => (g = -1 ∧ x = 0 ∧ m' = up2 m 52 0 0) ∨ (g ≠ -1 ∧ ¬ sk s g ∧ x = -1 ∧ m' = m) ∨ (sk s g ∧ ¬ (0 ≤ t ∧ t ≤ 9999) ∧ x = -2 ∧ m' = m) ∨ (sk s g ∧ (0 ≤ t ∧ t ≤ 9999) ∧ s 4 = 8 ∧ x = -4 ∧ m' = m) ∨
    (sk s g ∧ (0 ≤ t ∧ t ≤ 9999) ∧ s 4 < 8 ∧ x = s 4 + 1 ∧ m' = up2 (up2 (up2 m 53 (s 4) g) 54 (s 4) t) 52 0 (s 4 + 1))) := by
  obtain ⟨e, rfl⟩ : ∃ e, d = e + 1 := ⟨d - 1, by omega⟩
  have h4 := hC.1.1.2.2.2.2.1
  refine r_entry mx95 rfl ?_
  refine r_loadI a95_0 rfl ?_
  refine r_pushI a95_1 ?_
  refine r_icne a95_2 (fun h_2 => ?_) (fun h_2 => ?_)
  · refine r_loadA a95_16 rfl (by decide) ?_
    refine r_loadI a95_17 rfl ?_
    refine r_callI_2 a95_18 (Nat.le_of_ble_eq_true rfl) (le_mx mx104 (Nat.le_of_ble_eq_true rfl)) (Or.inr (recv_ok ty32 ow104 (by decide))) (c_Fg_noSkier e z m s cl hC g) (fun x_18 m_18 h_18 => ?_)
    obtain ⟨hm_18, h_18⟩ := h_18
    rw [hm_18]
    refine r_ifeq a95_21 (fun h_21 => ?_) (fun h_21 => ?_)
    · refine r_loadA a95_28 rfl (by decide) ?_
      refine r_getR a95_29 ty32 rf32_0 (by decide) ?_
      refine r_getR a95_32 ty33 rf33_8 (by decide) ?_
      refine r_loadI a95_35 rfl ?_
      refine r_loadI a95_36 rfl ?_
      refine r_callI_3 a95_37 (Nat.le_of_ble_eq_true rfl) (le_mx mx108 (Nat.le_of_ble_eq_true rfl)) (Or.inl rfl) (c_Fg_note_52 e z m g t (s 4) (by omega) hC.2.1.2.2.2.2.2.2.1 h4) (fun x_37 m_37 h_37 => ?_)
      refine r_retIq a95_40 ?_
      first
        | exact Or.inr (Or.inl ⟨by omega, (skD h_18).2 h_21, rfl, rfl⟩)
        | (have hg := (skD h_18).1 (by omega)
           rcases h_37 with ⟨a, b, c⟩ | ⟨a, b, c, d⟩ | ⟨a, b, c, d⟩
           · exact Or.inr (Or.inr (Or.inl ⟨hg, a, b, c⟩))
           · exact Or.inr (Or.inr (Or.inr (Or.inl ⟨hg, a, b, c, d⟩)))
           · exact Or.inr (Or.inr (Or.inr (Or.inr ⟨hg, a, b, c, d⟩))))
    · refine r_pushI a95_24 ?_
      refine r_goto a95_25 ?_
      refine r_retIq a95_40 ?_
      first
        | exact Or.inr (Or.inl ⟨by omega, (skD h_18).2 h_21, rfl, rfl⟩)
        | (have hg := (skD h_18).1 (by omega)
           rcases h_37 with ⟨a, b, c⟩ | ⟨a, b, c, d⟩ | ⟨a, b, c, d⟩
           · exact Or.inr (Or.inr (Or.inl ⟨hg, a, b, c⟩))
           · exact Or.inr (Or.inr (Or.inr (Or.inl ⟨hg, a, b, c, d⟩)))
           · exact Or.inr (Or.inr (Or.inr (Or.inr ⟨hg, a, b, c, d⟩))))
  · refine r_loadA a95_5 rfl (by decide) ?_
    refine r_getR a95_6 ty32 rf32_0 (by decide) ?_
    refine r_getR a95_9 ty33 rf33_8 (by decide) ?_
    refine r_callI_1 a95_12 (Nat.le_of_ble_eq_true rfl) (le_mx mx22 (Nat.le_of_ble_eq_true rfl)) (Or.inr (recv_ok ty52 ow22 (by decide))) (c_No_clear_52 e z m) (fun x_12 m_12 h_12 => ?_)
    refine r_retIq a95_15 ?_
    exact Or.inl ⟨by omega, h_12.1, h_12.2⟩
theorem c_Fg_of (d z : Nat) (m : XM) (s : Int → Int) (cl : CLs) (g w : Int) (hd : 1 ≤ d) (hC : CpC m s cl) : CI d k_Fg_of z m [vR 32, vI g, vI w] (fun x m' => m' = m ∧ ((gt s g ∧ (0 ≤ w ∧ w ≤ 3) ∧ x = s (8 + 7 * w + g)) ∨ (¬ (gt s g ∧ (0 ≤ w ∧ w ≤ 3)) ∧ x = -1))) := by
  obtain ⟨e, rfl⟩ : ∃ e, d = e + 1 := ⟨d - 1, by omega⟩
  have hN := hC.1.1.1
  refine r_entry mx67 rfl ?_
  refine r_loadA a67_0 rfl (by decide) ?_
  refine r_loadI a67_1 rfl ?_
  refine r_callI_2 a67_2 (Nat.le_of_ble_eq_true rfl) (le_mx mx103 (Nat.le_of_ble_eq_true rfl)) (Or.inr (recv_ok ty32 ow103 (by decide))) (c_Fg_noGate e z m s cl hC g) (fun x_2 m_2 h_2 => ?_)
  obtain ⟨hm_2, h_2⟩ := h_2
  rw [hm_2]
  refine r_ifeq a67_5 (fun h_5 => ?_) (fun h_5 => ?_)
  · have hg := (gtD h_2).1 (by omega)
    have hg2 := hg.1
    have hg3 := hg.2
    have hr := hC.2.1.1.2 g hg2 (by omega)
    have a1 : m 35 g = s (8 + g) := hr.1
    have a2 : m 36 g = s (15 + g) := hr.2.1
    have a3 : m 37 g = s (22 + g) := hr.2.2.1
    have a4 : m 38 g = s (29 + g) := hr.2.2.2
    refine r_loadI a67_10 rfl ?_
    refine r_switch a67_11 ?_
    refine r_sw_cons (fun h_11 => ?_) (fun n_11_0 => ?_)
    · refine r_loadA a67_40 rfl (by decide) ?_
      refine r_getR a67_41 ty32 rf32_0 (by decide) ?_
      refine r_getR a67_44 ty33 rf33_0 (by decide) ?_
      refine r_getR a67_47 ty34 rf34_1 (by decide) ?_
      refine r_loadI a67_50 rfl ?_
      refine r_iald a67_51 ty35 (by omega) ?_
      refine r_retIq a67_52 ?_
      first
        | exact ⟨rfl, Or.inr ⟨fun q => by omega, rfl⟩⟩
        | (refine ⟨rfl, Or.inl ⟨hg, by omega, ?_⟩⟩
           first
             | (rw [a1]; congr 1; omega)
             | (rw [a2]; congr 1; omega)
             | (rw [a3]; congr 1; omega)
             | (rw [a4]; congr 1; omega))
    refine r_sw_cons (fun h_11 => ?_) (fun n_11_1 => ?_)
    · refine r_loadA a67_53 rfl (by decide) ?_
      refine r_getR a67_54 ty32 rf32_0 (by decide) ?_
      refine r_getR a67_57 ty33 rf33_0 (by decide) ?_
      refine r_getR a67_60 ty34 rf34_2 (by decide) ?_
      refine r_loadI a67_63 rfl ?_
      refine r_iald a67_64 ty36 (by omega) ?_
      refine r_retIq a67_65 ?_
      first
        | exact ⟨rfl, Or.inr ⟨fun q => by omega, rfl⟩⟩
        | (refine ⟨rfl, Or.inl ⟨hg, by omega, ?_⟩⟩
           first
             | (rw [a1]; congr 1; omega)
             | (rw [a2]; congr 1; omega)
             | (rw [a3]; congr 1; omega)
             | (rw [a4]; congr 1; omega))
    refine r_sw_cons (fun h_11 => ?_) (fun n_11_2 => ?_)
    · refine r_loadA a67_66 rfl (by decide) ?_
      refine r_getR a67_67 ty32 rf32_0 (by decide) ?_
      refine r_getR a67_70 ty33 rf33_0 (by decide) ?_
      refine r_getR a67_73 ty34 rf34_3 (by decide) ?_
      refine r_loadI a67_76 rfl ?_
      refine r_iald a67_77 ty37 (by omega) ?_
      refine r_retIq a67_78 ?_
      first
        | exact ⟨rfl, Or.inr ⟨fun q => by omega, rfl⟩⟩
        | (refine ⟨rfl, Or.inl ⟨hg, by omega, ?_⟩⟩
           first
             | (rw [a1]; congr 1; omega)
             | (rw [a2]; congr 1; omega)
             | (rw [a3]; congr 1; omega)
             | (rw [a4]; congr 1; omega))
    refine r_sw_cons (fun h_11 => ?_) (fun n_11_3 => ?_)
    · refine r_loadA a67_79 rfl (by decide) ?_
      refine r_getR a67_80 ty32 rf32_0 (by decide) ?_
      refine r_getR a67_83 ty33 rf33_0 (by decide) ?_
      refine r_getR a67_86 ty34 rf34_4 (by decide) ?_
      refine r_loadI a67_89 rfl ?_
      refine r_iald a67_90 ty38 (by omega) ?_
      refine r_retIq a67_91 ?_
      first
        | exact ⟨rfl, Or.inr ⟨fun q => by omega, rfl⟩⟩
        | (refine ⟨rfl, Or.inl ⟨hg, by omega, ?_⟩⟩
           first
             | (rw [a1]; congr 1; omega)
             | (rw [a2]; congr 1; omega)
             | (rw [a3]; congr 1; omega)
             | (rw [a4]; congr 1; omega))
    refine r_sw_nil ?_
    refine r_pushI a67_92 ?_
    refine r_retIq a67_93 ?_
    first
      | exact ⟨rfl, Or.inr ⟨fun q => by omega, rfl⟩⟩
      | (refine ⟨rfl, Or.inl ⟨hg, by omega, ?_⟩⟩
         first
           | (rw [a1]; congr 1; omega)
           | (rw [a2]; congr 1; omega)
           | (rw [a3]; congr 1; omega)
           | (rw [a4]; congr 1; omega))
  · refine r_pushI a67_8 ?_
    refine r_retIq a67_9 ?_
    exact ⟨rfl, Or.inr ⟨fun q => (gtD h_2).2 h_5 q.1, rfl⟩⟩
theorem c_Fg_told (d z : Nat) (m : XM) (s : Int → Int) (cl : CLs) (w : Int) (hC : CpC m s cl) : CI d k_Fg_told z m [vR 32, vI w] (fun x m' => m' = m ∧ ((w = 0 ∧ x = s 7) ∨ (w = 1 ∧ x = rutS s) ∨ (w = 2 ∧ x = fogS s) ∨ (w ≠ 0 ∧ w ≠ 1 ∧ w ≠ 2 ∧ x = -1))) := by
  have a1 : m 33 3 = s 7 := hC.2.1.2.2.1.2.1
  have a2 : m 43 0 = rutS s := hC.2.1.2.2.2.2.1.1
  have a3 : m 43 1 = fogS s := hC.2.1.2.2.2.2.1.2
  refine r_entry mx73 rfl ?_
  refine r_loadI a73_0 rfl ?_
  refine r_switch a73_1 ?_
  refine r_sw_cons (fun h_1 => ?_) (fun n_1_0 => ?_)
  · refine r_loadA a73_28 rfl (by decide) ?_
    refine r_getR a73_29 ty32 rf32_0 (by decide) ?_
    refine r_getI (ki := 3) a73_32 ty33 rfl ?_
    refine r_retIq a73_35 ?_
    exact ⟨rfl, by omega⟩
  refine r_sw_cons (fun h_1 => ?_) (fun n_1_1 => ?_)
  · refine r_loadA a73_36 rfl (by decide) ?_
    refine r_getR a73_37 ty32 rf32_0 (by decide) ?_
    refine r_getR a73_40 ty33 rf33_5 (by decide) ?_
    refine r_getI (ki := 0) a73_43 ty43 rfl ?_
    refine r_retIq a73_46 ?_
    exact ⟨rfl, by omega⟩
  refine r_sw_cons (fun h_1 => ?_) (fun n_1_2 => ?_)
  · refine r_loadA a73_47 rfl (by decide) ?_
    refine r_getR a73_48 ty32 rf32_0 (by decide) ?_
    refine r_getR a73_51 ty33 rf33_5 (by decide) ?_
    refine r_getI (ki := 1) a73_54 ty43 rfl ?_
    refine r_retIq a73_57 ?_
    exact ⟨rfl, by omega⟩
  refine r_sw_nil ?_
  refine r_pushI a73_58 ?_
  refine r_retIq a73_59 ?_
  exact ⟨rfl, by omega⟩
theorem c_Fg_count (d z : Nat) (m : XM) (s : Int → Int) (cl : CLs) (w : Int) (hC : CpC m s cl) : CI d k_Fg_count z m [vR 32, vI w] (fun x m' => m' = m ∧ ((w = 6 ∧ x = m 118 0) ∨ ((0 ≤ w ∧ w ≤ 5) ∧ x = s w) ∨ (¬ (0 ≤ w ∧ w ≤ 6) ∧ x = -1))) := by
  have a0 : m 34 0 = s 0 := hC.2.1.1.1
  have a1 : m 33 2 = s 1 := hC.2.1.2.2.1.1
  have a2 : m 33 6 = s 2 := hC.2.1.2.2.1.2.2.1
  have a3 : m 49 0 = s 3 := hC.2.1.2.2.2.2.2.1.1
  have a4 : m 52 0 = s 4 := hC.2.1.2.2.2.2.2.2.1
  have a5 : m 41 0 = s 5 := hC.2.1.2.2.2.1.1
  refine r_entry mx102 rfl ?_
  refine r_loadI a102_0 rfl ?_
  refine r_switch a102_1 ?_
  refine r_sw_cons (fun h_1 => ?_) (fun n_1_0 => ?_)
  · refine r_loadA a102_44 rfl (by decide) ?_
    refine r_getR a102_45 ty32 rf32_0 (by decide) ?_
    refine r_getR a102_48 ty33 rf33_0 (by decide) ?_
    refine r_getI (ki := 0) a102_51 ty34 rfl ?_
    refine r_retIq a102_54 ?_
    refine ⟨rfl, ?_⟩
    first
      | exact Or.inl ⟨by omega, rfl⟩
      | exact Or.inr (Or.inr ⟨by omega, rfl⟩)
      | (refine Or.inr (Or.inl ⟨by omega, ?_⟩)
         have hw : w = 0 ∨ w = 1 ∨ w = 2 ∨ w = 3 ∨ w = 4 ∨ w = 5 := by omega
         rcases hw with q | q | q | q | q | q <;> subst q <;> first | exact a0 | exact a1 | exact a2 | exact a3 | exact a4 | exact a5 | omega)
  refine r_sw_cons (fun h_1 => ?_) (fun n_1_1 => ?_)
  · refine r_loadA a102_55 rfl (by decide) ?_
    refine r_getR a102_56 ty32 rf32_0 (by decide) ?_
    refine r_getI (ki := 2) a102_59 ty33 rfl ?_
    refine r_retIq a102_62 ?_
    refine ⟨rfl, ?_⟩
    first
      | exact Or.inl ⟨by omega, rfl⟩
      | exact Or.inr (Or.inr ⟨by omega, rfl⟩)
      | (refine Or.inr (Or.inl ⟨by omega, ?_⟩)
         have hw : w = 0 ∨ w = 1 ∨ w = 2 ∨ w = 3 ∨ w = 4 ∨ w = 5 := by omega
         rcases hw with q | q | q | q | q | q <;> subst q <;> first | exact a0 | exact a1 | exact a2 | exact a3 | exact a4 | exact a5 | omega)
  refine r_sw_cons (fun h_1 => ?_) (fun n_1_2 => ?_)
  · refine r_loadA a102_63 rfl (by decide) ?_
    refine r_getR a102_64 ty32 rf32_0 (by decide) ?_
    refine r_getI (ki := 6) a102_67 ty33 rfl ?_
    refine r_retIq a102_70 ?_
    refine ⟨rfl, ?_⟩
    first
      | exact Or.inl ⟨by omega, rfl⟩
      | exact Or.inr (Or.inr ⟨by omega, rfl⟩)
      | (refine Or.inr (Or.inl ⟨by omega, ?_⟩)
         have hw : w = 0 ∨ w = 1 ∨ w = 2 ∨ w = 3 ∨ w = 4 ∨ w = 5 := by omega
         rcases hw with q | q | q | q | q | q <;> subst q <;> first | exact a0 | exact a1 | exact a2 | exact a3 | exact a4 | exact a5 | omega)
  refine r_sw_cons (fun h_1 => ?_) (fun n_1_3 => ?_)
  · refine r_loadA a102_71 rfl (by decide) ?_
    refine r_getR a102_72 ty32 rf32_0 (by decide) ?_
    refine r_getR a102_75 ty33 rf33_7 (by decide) ?_
    refine r_getI (ki := 0) a102_78 ty49 rfl ?_
    refine r_retIq a102_81 ?_
    refine ⟨rfl, ?_⟩
    first
      | exact Or.inl ⟨by omega, rfl⟩
      | exact Or.inr (Or.inr ⟨by omega, rfl⟩)
      | (refine Or.inr (Or.inl ⟨by omega, ?_⟩)
         have hw : w = 0 ∨ w = 1 ∨ w = 2 ∨ w = 3 ∨ w = 4 ∨ w = 5 := by omega
         rcases hw with q | q | q | q | q | q <;> subst q <;> first | exact a0 | exact a1 | exact a2 | exact a3 | exact a4 | exact a5 | omega)
  refine r_sw_cons (fun h_1 => ?_) (fun n_1_4 => ?_)
  · refine r_loadA a102_82 rfl (by decide) ?_
    refine r_getR a102_83 ty32 rf32_0 (by decide) ?_
    refine r_getR a102_86 ty33 rf33_8 (by decide) ?_
    refine r_getI (ki := 0) a102_89 ty52 rfl ?_
    refine r_retIq a102_92 ?_
    refine ⟨rfl, ?_⟩
    first
      | exact Or.inl ⟨by omega, rfl⟩
      | exact Or.inr (Or.inr ⟨by omega, rfl⟩)
      | (refine Or.inr (Or.inl ⟨by omega, ?_⟩)
         have hw : w = 0 ∨ w = 1 ∨ w = 2 ∨ w = 3 ∨ w = 4 ∨ w = 5 := by omega
         rcases hw with q | q | q | q | q | q <;> subst q <;> first | exact a0 | exact a1 | exact a2 | exact a3 | exact a4 | exact a5 | omega)
  refine r_sw_cons (fun h_1 => ?_) (fun n_1_5 => ?_)
  · refine r_loadA a102_93 rfl (by decide) ?_
    refine r_getR a102_94 ty32 rf32_0 (by decide) ?_
    refine r_getR a102_97 ty33 rf33_4 (by decide) ?_
    refine r_getI (ki := 0) a102_100 ty41 rfl ?_
    refine r_retIq a102_103 ?_
    refine ⟨rfl, ?_⟩
    first
      | exact Or.inl ⟨by omega, rfl⟩
      | exact Or.inr (Or.inr ⟨by omega, rfl⟩)
      | (refine Or.inr (Or.inl ⟨by omega, ?_⟩)
         have hw : w = 0 ∨ w = 1 ∨ w = 2 ∨ w = 3 ∨ w = 4 ∨ w = 5 := by omega
         rcases hw with q | q | q | q | q | q <;> subst q <;> first | exact a0 | exact a1 | exact a2 | exact a3 | exact a4 | exact a5 | omega)
  refine r_sw_cons (fun h_1 => ?_) (fun n_1_6 => ?_)
  · refine r_loadA a102_104 rfl (by decide) ?_
    refine r_getR a102_105 ty32 rf32_8 (by decide) ?_
    refine r_getI (ki := 0) a102_108 ty118 rfl ?_
    refine r_retIq a102_111 ?_
    refine ⟨rfl, ?_⟩
    first
      | exact Or.inl ⟨by omega, rfl⟩
      | exact Or.inr (Or.inr ⟨by omega, rfl⟩)
      | (refine Or.inr (Or.inl ⟨by omega, ?_⟩)
         have hw : w = 0 ∨ w = 1 ∨ w = 2 ∨ w = 3 ∨ w = 4 ∨ w = 5 := by omega
         rcases hw with q | q | q | q | q | q <;> subst q <;> first | exact a0 | exact a1 | exact a2 | exact a3 | exact a4 | exact a5 | omega)
  refine r_sw_nil ?_
  refine r_pushI a102_112 ?_
  refine r_retIq a102_113 ?_
  refine ⟨rfl, ?_⟩
  first
    | exact Or.inl ⟨by omega, rfl⟩
    | exact Or.inr (Or.inr ⟨by omega, rfl⟩)
    | (refine Or.inr (Or.inl ⟨by omega, ?_⟩)
       have hw : w = 0 ∨ w = 1 ∨ w = 2 ∨ w = 3 ∨ w = 4 ∨ w = 5 := by omega
       rcases hw with q | q | q | q | q | q <;> subst q <;> first | exact a0 | exact a1 | exact a2 | exact a3 | exact a4 | exact a5 | omega)
theorem c_Fg_trace (d z : Nat) (m : XM) (i : Int) (hd : 1 ≤ d) (hr : 0 ≤ m 118 0 ∧ m 118 0 < 1000) : CI d k_Fg_trace z m [vR 32, vI i] (fun x m' => m' = m ∧ (((0 ≤ i ∧ i < m 118 0 ∧ i < 20) ∧ x = m 119 i) ∨ (¬ (0 ≤ i ∧ i < m 118 0 ∧ i < 20) ∧ x = -1))) := by
  obtain ⟨e, rfl⟩ : ∃ e, d = e + 1 := ⟨d - 1, by omega⟩
  have hm : 0 ≤ iMin (m 118 0) 20 ∧ iMin (m 118 0) 20 ≤ 20 ∧ (∀ j, j < iMin (m 118 0) 20 ↔ (j < m 118 0 ∧ j < 20)) := by
    unfold iMin; split <;> refine ⟨by omega, by omega, fun j => by omega⟩
  have hj := hm.2.2 i
  refine r_entry mx98 rfl ?_
  refine r_loadI a98_0 rfl ?_
  refine r_pushI a98_1 ?_
  refine r_loadA a98_2 rfl (by decide) ?_
  refine r_getR a98_3 ty32 rf32_8 (by decide) ?_
  refine r_getI (ki := 0) a98_6 ty118 rfl ?_
  refine r_pushI a98_9 ?_
  refine r_minI a98_11 (by omega) (Nat.le_of_ble_eq_true rfl) ?_
  refine r_pushI a98_14 ?_
  refine r_sub a98_15 (by omega) ?_
  refine r_callI_3 a98_16 (Nat.le_of_ble_eq_true rfl) (le_mx mx106 (Nat.le_of_ble_eq_true rfl)) (Or.inl rfl) (c_Fg_outside e z m i 0 (iMin (m 118 0) 20 - 1)) (fun x_16 m_16 h_16 => ?_)
  obtain ⟨hm_16, h_16⟩ := h_16
  rw [hm_16]
  refine r_ifeq a98_19 (fun h_19 => ?_) (fun h_19 => ?_)
  · refine r_loadA a98_26 rfl (by decide) ?_
    refine r_getR a98_27 ty32 rf32_8 (by decide) ?_
    refine r_getR a98_30 ty118 rf118_1 (by decide) ?_
    refine r_loadI a98_33 rfl ?_
    refine r_iald a98_34 ty119 (by omega) ?_
    refine r_retIq a98_35 ?_
    first
      | exact ⟨rfl, Or.inl ⟨by omega, rfl⟩⟩
      | exact ⟨rfl, Or.inr ⟨by omega, rfl⟩⟩
  · refine r_pushI a98_22 ?_
    refine r_goto a98_23 ?_
    refine r_retIq a98_35 ?_
    first
      | exact ⟨rfl, Or.inl ⟨by omega, rfl⟩⟩
      | exact ⟨rfl, Or.inr ⟨by omega, rfl⟩⟩
