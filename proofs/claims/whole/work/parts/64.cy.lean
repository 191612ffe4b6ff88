-- ===== the class: as, copies =====
theorem zTab2 : zTab 2 0 = -1 ∧ zTab 2 1 = 0 ∧ zTab 2 2 = 0 ∧ zTab 2 3 = 0 ∧ zTab 2 4 = 1 ∧ zTab 2 5 = 2 ∧ zTab 2 6 = 3 := by decide
theorem c_Fg_as (d z : Nat) (m : XM) (s : Int → Int) (cl : CLs) (g k : Int) (hd : 1 ≤ d) (hC : CpC m s cl) : CI d k_Fg_as z m [vR 32, vI g, vI k] (fun x m' => m' = m ∧ ((¬ (gt s g ∧ 0 ≤ k ∧ k ≤ 6) ∧ x = -1) ∨ ((gt s g ∧ 0 ≤ k ∧ k ≤ 6) ∧ (k = 0 ∨ k = s (8 + g) ∨ (0 < k ∧ k < 4 ∧ s (8 + g) = k + 3)) ∧ x = s (15 + g)) ∨ ((gt s g ∧ 0 ≤ k ∧ k ≤ 6) ∧ ¬ (k = 0 ∨ k = s (8 + g) ∨ (0 < k ∧ k < 4 ∧ s (8 + g) = k + 3)) ∧ x = -6))) := by
  obtain ⟨e, rfl⟩ : ∃ e, d = e + 1 := ⟨d - 1, by omega⟩
  have hN := hC.1.1.1
  obtain ⟨PO, hPO⟩ : ∃ PO : Int → XM → Prop, (fun x m' => m' = m ∧ ((¬ (gt s g ∧ 0 ≤ k ∧ k ≤ 6) ∧ x = -1) ∨ ((gt s g ∧ 0 ≤ k ∧ k ≤ 6) ∧ (k = 0 ∨ k = s (8 + g) ∨ (0 < k ∧ k < 4 ∧ s (8 + g) = k + 3)) ∧ x = s (15 + g)) ∨ ((gt s g ∧ 0 ≤ k ∧ k ≤ 6) ∧ ¬ (k = 0 ∨ k = s (8 + g) ∨ (0 < k ∧ k < 4 ∧ s (8 + g) = k + 3)) ∧ x = -6))) = PO := ⟨_, rfl⟩
  rw [hPO]
  obtain ⟨z0, z1, z2, z3, z4, z5, z6⟩ := zTab2
  have fin0 : ∀ (c j : Int), c < 0 → PO (-6) m → RZ (e + 1) k_Fg_as 36 [vR 32, vI g, vI k, vI c, vI j] [] (zH z m) (qz z (qi PO)) := by
    intro c j hc hp
    refine r_loadI a99_36 rfl ?_
    refine r_pushI a99_38 ?_
    refine r_icge a99_40 (fun h_40 => ?_) (fun h_40 => ?_)
    · refine r_pushI a99_77 ?_
      refine r_retIq a99_79 ?_
      exact hp
    · refine r_loadI a99_43 rfl ?_
      refine r_iflt a99_44 (fun h_44 => ?_) (fun h_44 => ?_)
      · refine r_pushI a99_77 ?_
        refine r_retIq a99_79 ?_
        exact hp
      · exfalso
        omega
  have it : ∀ (c j c2 : Int), (0 ≤ c ∧ c ≤ 6) → (0 ≤ j ∧ j < 7) → gt s g → zTab 2 c = c2 → (c = k → PO (s (15 + g)) m) → (c ≠ k → RZ (e + 1) k_Fg_as 36 [vR 32, vI g, vI k, vI c2, vI (j + 1)] [] (zH z m) (qz z (qi PO))) → RZ (e + 1) k_Fg_as 36 [vR 32, vI g, vI k, vI c, vI j] [] (zH z m) (qz z (qi PO)) := by
    intro c j c2 hc hj hg hz h1 h2
    have hg2 := hg.1
    have hg3 := hg.2
    have a2 : m 36 g = s (15 + g) := (hC.2.1.1.2 g hg2 (by omega)).2.1
    refine r_loadI a99_36 rfl ?_
    refine r_pushI a99_38 ?_
    refine r_icge a99_40 (fun h_40 => ?_) (fun h_40 => ?_)
    · exfalso
      omega
    · refine r_loadI a99_43 rfl ?_
      refine r_iflt a99_44 (fun h_44 => ?_) (fun h_44 => ?_)
      · exfalso
        omega
      · refine r_loadI a99_47 rfl ?_
        refine r_loadI a99_48 rfl ?_
        refine r_icne a99_49 (fun h_49 => ?_) (fun h_49 => ?_)
        · refine r_statR a99_65 ?_
          refine r_loadI a99_68 rfl ?_
          refine r_ialdT a99_69 (by omega) ?_
          rw [hz]
          refine r_storeI_3 a99_70 rfl ?_
          refine r_iinc_4 a99_71 rfl (by omega) ?_
          refine r_goto a99_74 ?_
          exact h2 h_49
        · refine r_loadA a99_52 rfl (by decide) ?_
          refine r_getR a99_53 ty32 rf32_0 (by decide) ?_
          refine r_getR a99_56 ty33 rf33_0 (by decide) ?_
          refine r_getR a99_59 ty34 rf34_2 (by decide) ?_
          refine r_loadI a99_62 rfl ?_
          refine r_iald a99_63 ty36 (by omega) ?_
          rw [a2]
          refine r_retIq a99_64 ?_
          exact h1 h_49
  refine r_entry mx99 rfl ?_
  refine r_loadA a99_0 rfl (by decide) ?_
  refine r_loadI a99_1 rfl ?_
  refine r_callI_2 a99_2 (Nat.le_of_ble_eq_true rfl) (le_mx mx103 (Nat.le_of_ble_eq_true rfl)) (Or.inr (recv_ok ty32 ow103 (by decide))) (c_Fg_noGate e z m s cl hC g) (fun x_2 m_2 h_2 => ?_)
  obtain ⟨hm_2, h_2⟩ := h_2
  rw [hm_2]
  refine r_ifne a99_5 (fun h_5 => ?_) (fun h_5 => ?_)
  · refine r_pushI a99_18 ?_
    refine r_retIq a99_19 ?_
    rw [← hPO]
    refine ⟨rfl, Or.inl ⟨?_, rfl⟩⟩
    rintro ⟨a, b⟩
    first
      | exact (gtD h_2).2 h_5 a
      | omega
  · refine r_loadI a99_8 rfl ?_
    refine r_pushI a99_9 ?_
    refine r_pushI a99_10 ?_
    refine r_callI_3 a99_12 (Nat.le_of_ble_eq_true rfl) (le_mx mx106 (Nat.le_of_ble_eq_true rfl)) (Or.inl rfl) (c_Fg_outside e z m k 0 6) (fun x_12 m_12 h_12 => ?_)
    obtain ⟨hm_12, h_12⟩ := h_12
    rw [hm_12]
    refine r_ifeq a99_15 (fun h_15 => ?_) (fun h_15 => ?_)
    · have hg := (gtD h_2).1 (by omega)
      have hg2 := hg.1
      have hg3 := hg.2
      have hk : 0 ≤ k ∧ k ≤ 6 := by omega
      have a1 : m 35 g = s (8 + g) := (hC.2.1.1.2 g hg2 (by omega)).1
      have hkd := (hC.1.2.1 g hg2 (by omega)).1
      have yes : (k = 0 ∨ k = s (8 + g) ∨ (0 < k ∧ k < 4 ∧ s (8 + g) = k + 3)) → PO (s (15 + g)) m := fun q => by rw [← hPO]; exact ⟨rfl, Or.inr (Or.inl ⟨⟨hg, hk⟩, q, rfl⟩)⟩
      have no : ¬ (k = 0 ∨ k = s (8 + g) ∨ (0 < k ∧ k < 4 ∧ s (8 + g) = k + 3)) → PO (-6) m := fun q => by rw [← hPO]; exact ⟨rfl, Or.inr (Or.inr ⟨⟨hg, hk⟩, q, rfl⟩)⟩
      refine r_loadA a99_20 rfl (by decide) ?_
      refine r_getR a99_21 ty32 rf32_0 (by decide) ?_
      refine r_getR a99_24 ty33 rf33_0 (by decide) ?_
      refine r_getR a99_27 ty34 rf34_1 (by decide) ?_
      refine r_loadI a99_30 rfl ?_
      refine r_iald a99_31 ty35 (by omega) ?_
      rw [a1]
      refine r_storeI_3 a99_32 rfl ?_
      refine r_pushI a99_33 ?_
      refine r_storeI_4 a99_34 rfl ?_
      have hc : s (8 + g) = 0 ∨ s (8 + g) = 1 ∨ s (8 + g) = 2 ∨ s (8 + g) = 3 ∨ s (8 + g) = 4 ∨ s (8 + g) = 5 ∨ s (8 + g) = 6 := by omega
      rcases hc with q | q | q | q | q | q | q <;> rw [q] at yes no ⊢
      · refine it 0 0 _ (by omega) (by omega) hg z0 (fun w => yes (by omega)) (fun w => ?_)
        exact fin0 _ _ (by omega) (no (by omega))
      · refine it 1 0 _ (by omega) (by omega) hg z1 (fun w => yes (by omega)) (fun w => ?_)
        refine it 0 (0 + 1) _ (by omega) (by omega) hg z0 (fun w => yes (by omega)) (fun w => ?_)
        exact fin0 _ _ (by omega) (no (by omega))
      · refine it 2 0 _ (by omega) (by omega) hg z2 (fun w => yes (by omega)) (fun w => ?_)
        refine it 0 (0 + 1) _ (by omega) (by omega) hg z0 (fun w => yes (by omega)) (fun w => ?_)
        exact fin0 _ _ (by omega) (no (by omega))
      · refine it 3 0 _ (by omega) (by omega) hg z3 (fun w => yes (by omega)) (fun w => ?_)
        refine it 0 (0 + 1) _ (by omega) (by omega) hg z0 (fun w => yes (by omega)) (fun w => ?_)
        exact fin0 _ _ (by omega) (no (by omega))
      · refine it 4 0 _ (by omega) (by omega) hg z4 (fun w => yes (by omega)) (fun w => ?_)
        refine it 1 (0 + 1) _ (by omega) (by omega) hg z1 (fun w => yes (by omega)) (fun w => ?_)
        refine it 0 (0 + 1 + 1) _ (by omega) (by omega) hg z0 (fun w => yes (by omega)) (fun w => ?_)
        exact fin0 _ _ (by omega) (no (by omega))
      · refine it 5 0 _ (by omega) (by omega) hg z5 (fun w => yes (by omega)) (fun w => ?_)
        refine it 2 (0 + 1) _ (by omega) (by omega) hg z2 (fun w => yes (by omega)) (fun w => ?_)
        refine it 0 (0 + 1 + 1) _ (by omega) (by omega) hg z0 (fun w => yes (by omega)) (fun w => ?_)
        exact fin0 _ _ (by omega) (no (by omega))
      · refine it 6 0 _ (by omega) (by omega) hg z6 (fun w => yes (by omega)) (fun w => ?_)
        refine it 3 (0 + 1) _ (by omega) (by omega) hg z3 (fun w => yes (by omega)) (fun w => ?_)
        refine it 0 (0 + 1 + 1) _ (by omega) (by omega) hg z0 (fun w => yes (by omega)) (fun w => ?_)
        exact fin0 _ _ (by omega) (no (by omega))
    · refine r_pushI a99_18 ?_
      refine r_retIq a99_19 ?_
      rw [← hPO]
      refine ⟨rfl, Or.inl ⟨?_, rfl⟩⟩
      rintro ⟨a, b⟩
      first
        | exact (gtD h_2).2 h_5 a
        | omega
theorem cp_at (f g : Int → Int) {n i : Int} (h0 : 0 ≤ i) (h1 : i < n) : (fun y => if 0 ≤ y ∧ y < 0 + n then f (0 + (y - 0)) else g y) i = f i := by
  show (if 0 ≤ i ∧ i < 0 + n then f (0 + (i - 0)) else g i) = f i
  rw [if_pos (by omega)]; congr 1; omega
/-- cells alike as far as n -/
def eqN (f g : Int → Int) (n : Int) : Prop := ∀ i, 0 ≤ i → i < n → f i = g i
theorem c_Ga_copyFrom_56 (d z : Nat) (m : XM) (hd : 1 ≤ d) : CV d k_Ga_copyFrom z m [vR 56, vR 34] (fun m' => (∀ x, ¬ (56 ≤ x ∧ x ≤ 61) → m' x = m x) ∧ m' 56 0 = m 34 0 ∧ eqN (m' 57) (m 35) 7 ∧ eqN (m' 58) (m 36) 7 ∧ eqN (m' 59) (m 37) 7 ∧ eqN (m' 60) (m 38) 7 ∧ eqN (m' 61) (m 39) 28) := by
  refine r_entry mx13 rfl ?_
  refine r_loadA a13_0 rfl (by decide) ?_
  refine r_loadA a13_1 rfl (by decide) ?_
  refine r_getI (ki := 0) a13_2 ty34 rfl ?_
  refine r_putI (ki := 0) a13_5 ty56 rfl ?_
  refine r_loadA a13_8 rfl (by decide) ?_
  refine r_getR a13_9 ty34 rf34_1 (by decide) ?_
  refine r_pushI a13_12 ?_
  refine r_loadA a13_13 rfl (by decide) ?_
  refine r_getR a13_14 ty56 rf56_1 (by decide) ?_
  refine r_pushI a13_17 ?_
  refine r_pushI a13_18 ?_
  refine r_copy a13_20 (by omega) ty35 ty57 (Or.inl rfl) (by decide) (by omega) ?_
  refine r_loadA a13_23 rfl (by decide) ?_
  refine r_getR a13_24 ty34 rf34_2 (by decide) ?_
  refine r_pushI a13_27 ?_
  refine r_loadA a13_28 rfl (by decide) ?_
  refine r_getR a13_29 ty56 rf56_2 (by decide) ?_
  refine r_pushI a13_32 ?_
  refine r_pushI a13_33 ?_
  refine r_copy a13_35 (by omega) ty36 ty58 (Or.inl rfl) (by decide) (by omega) ?_
  refine r_loadA a13_38 rfl (by decide) ?_
  refine r_getR a13_39 ty34 rf34_3 (by decide) ?_
  refine r_pushI a13_42 ?_
  refine r_loadA a13_43 rfl (by decide) ?_
  refine r_getR a13_44 ty56 rf56_3 (by decide) ?_
  refine r_pushI a13_47 ?_
  refine r_pushI a13_48 ?_
  refine r_copy a13_50 (by omega) ty37 ty59 (Or.inl rfl) (by decide) (by omega) ?_
  refine r_loadA a13_53 rfl (by decide) ?_
  refine r_getR a13_54 ty34 rf34_4 (by decide) ?_
  refine r_pushI a13_57 ?_
  refine r_loadA a13_58 rfl (by decide) ?_
  refine r_getR a13_59 ty56 rf56_4 (by decide) ?_
  refine r_pushI a13_62 ?_
  refine r_pushI a13_63 ?_
  refine r_copy a13_65 (by omega) ty38 ty60 (Or.inl rfl) (by decide) (by omega) ?_
  refine r_loadA a13_68 rfl (by decide) ?_
  refine r_getR a13_69 ty34 rf34_5 (by decide) ?_
  refine r_pushI a13_72 ?_
  refine r_loadA a13_73 rfl (by decide) ?_
  refine r_getR a13_74 ty56 rf56_5 (by decide) ?_
  refine r_pushI a13_77 ?_
  refine r_pushI a13_78 ?_
  refine r_copy a13_80 (by omega) ty39 ty61 (Or.inl rfl) (by decide) (by omega) ?_
  refine r_retVq a13_83 ?_
  refine ⟨fun x hx => ?_, ?_, fun i a b => ?_, fun i a b => ?_, fun i a b => ?_, fun i a b => ?_, fun i a b => ?_⟩
  · rw [upc_C, upc_C, upc_C, upc_C, upc_C, upC_n (by omega), upC_n (by omega), upC_n (by omega), upC_n (by omega), upC_n (by omega), up2_c (by omega)]
  · rw [upc_C, upc_C, upc_C, upc_C, upc_C, upC_n (by decide), upC_n (by decide), upC_n (by decide), upC_n (by decide), upC_n (by decide), up2_s]
  · rw [upc_C, upc_C, upc_C, upc_C, upc_C, upC_n (by decide), upC_n (by decide), upC_n (by decide), upC_n (by decide), upC_s, up2_c (by decide)]; exact cp_at _ _ a b
  · rw [upc_C, upc_C, upc_C, upc_C, upc_C, upC_n (by decide), upC_n (by decide), upC_n (by decide), upC_s, upC_n (by decide), up2_c (by decide)]; exact cp_at _ _ a b
  · rw [upc_C, upc_C, upc_C, upc_C, upc_C, upC_n (by decide), upC_n (by decide), upC_s, upC_n (by decide), upC_n (by decide), up2_c (by decide)]; exact cp_at _ _ a b
  · rw [upc_C, upc_C, upc_C, upc_C, upc_C, upC_n (by decide), upC_s, upC_n (by decide), upC_n (by decide), upC_n (by decide), up2_c (by decide)]; exact cp_at _ _ a b
  · rw [upc_C, upc_C, upc_C, upc_C, upc_C, upC_s, upC_n (by decide), upC_n (by decide), upC_n (by decide), upC_n (by decide), up2_c (by decide)]; exact cp_at _ _ a b
theorem c_Ga_copyFrom_34 (d z : Nat) (m : XM) (hd : 1 ≤ d) : CV d k_Ga_copyFrom z m [vR 34, vR 56] (fun m' => (∀ x, ¬ (34 ≤ x ∧ x ≤ 39) → m' x = m x) ∧ m' 34 0 = m 56 0 ∧ eqN (m' 35) (m 57) 7 ∧ eqN (m' 36) (m 58) 7 ∧ eqN (m' 37) (m 59) 7 ∧ eqN (m' 38) (m 60) 7 ∧ eqN (m' 39) (m 61) 28) := by
  refine r_entry mx13 rfl ?_
  refine r_loadA a13_0 rfl (by decide) ?_
  refine r_loadA a13_1 rfl (by decide) ?_
  refine r_getI (ki := 0) a13_2 ty56 rfl ?_
  refine r_putI (ki := 0) a13_5 ty34 rfl ?_
  refine r_loadA a13_8 rfl (by decide) ?_
  refine r_getR a13_9 ty56 rf56_1 (by decide) ?_
  refine r_pushI a13_12 ?_
  refine r_loadA a13_13 rfl (by decide) ?_
  refine r_getR a13_14 ty34 rf34_1 (by decide) ?_
  refine r_pushI a13_17 ?_
  refine r_pushI a13_18 ?_
  refine r_copy a13_20 (by omega) ty57 ty35 (Or.inl rfl) (by decide) (by omega) ?_
  refine r_loadA a13_23 rfl (by decide) ?_
  refine r_getR a13_24 ty56 rf56_2 (by decide) ?_
  refine r_pushI a13_27 ?_
  refine r_loadA a13_28 rfl (by decide) ?_
  refine r_getR a13_29 ty34 rf34_2 (by decide) ?_
  refine r_pushI a13_32 ?_
  refine r_pushI a13_33 ?_
  refine r_copy a13_35 (by omega) ty58 ty36 (Or.inl rfl) (by decide) (by omega) ?_
  refine r_loadA a13_38 rfl (by decide) ?_
  refine r_getR a13_39 ty56 rf56_3 (by decide) ?_
  refine r_pushI a13_42 ?_
  refine r_loadA a13_43 rfl (by decide) ?_
  refine r_getR a13_44 ty34 rf34_3 (by decide) ?_
  refine r_pushI a13_47 ?_
  refine r_pushI a13_48 ?_
  refine r_copy a13_50 (by omega) ty59 ty37 (Or.inl rfl) (by decide) (by omega) ?_
  refine r_loadA a13_53 rfl (by decide) ?_
  refine r_getR a13_54 ty56 rf56_4 (by decide) ?_
  refine r_pushI a13_57 ?_
  refine r_loadA a13_58 rfl (by decide) ?_
  refine r_getR a13_59 ty34 rf34_4 (by decide) ?_
  refine r_pushI a13_62 ?_
  refine r_pushI a13_63 ?_
  refine r_copy a13_65 (by omega) ty60 ty38 (Or.inl rfl) (by decide) (by omega) ?_
  refine r_loadA a13_68 rfl (by decide) ?_
  refine r_getR a13_69 ty56 rf56_5 (by decide) ?_
  refine r_pushI a13_72 ?_
  refine r_loadA a13_73 rfl (by decide) ?_
  refine r_getR a13_74 ty34 rf34_5 (by decide) ?_
  refine r_pushI a13_77 ?_
  refine r_pushI a13_78 ?_
  refine r_copy a13_80 (by omega) ty61 ty39 (Or.inl rfl) (by decide) (by omega) ?_
  refine r_retVq a13_83 ?_
  refine ⟨fun x hx => ?_, ?_, fun i a b => ?_, fun i a b => ?_, fun i a b => ?_, fun i a b => ?_, fun i a b => ?_⟩
  · rw [upc_C, upc_C, upc_C, upc_C, upc_C, upC_n (by omega), upC_n (by omega), upC_n (by omega), upC_n (by omega), upC_n (by omega), up2_c (by omega)]
  · rw [upc_C, upc_C, upc_C, upc_C, upc_C, upC_n (by decide), upC_n (by decide), upC_n (by decide), upC_n (by decide), upC_n (by decide), up2_s]
  · rw [upc_C, upc_C, upc_C, upc_C, upc_C, upC_n (by decide), upC_n (by decide), upC_n (by decide), upC_n (by decide), upC_s, up2_c (by decide)]; exact cp_at _ _ a b
  · rw [upc_C, upc_C, upc_C, upc_C, upc_C, upC_n (by decide), upC_n (by decide), upC_n (by decide), upC_s, upC_n (by decide), up2_c (by decide)]; exact cp_at _ _ a b
  · rw [upc_C, upc_C, upc_C, upc_C, upc_C, upC_n (by decide), upC_n (by decide), upC_s, upC_n (by decide), upC_n (by decide), up2_c (by decide)]; exact cp_at _ _ a b
  · rw [upc_C, upc_C, upc_C, upc_C, upc_C, upC_n (by decide), upC_s, upC_n (by decide), upC_n (by decide), upC_n (by decide), up2_c (by decide)]; exact cp_at _ _ a b
  · rw [upc_C, upc_C, upc_C, upc_C, upc_C, upC_s, upC_n (by decide), upC_n (by decide), upC_n (by decide), upC_n (by decide), up2_c (by decide)]; exact cp_at _ _ a b
theorem c_Ta_copyFrom_63 (d z : Nat) (m : XM) (hd : 1 ≤ d) : CV d k_Ta_copyFrom z m [vR 63, vR 41] (fun m' => (∀ x, ¬ (63 ≤ x ∧ x ≤ 64) → m' x = m x) ∧ m' 63 0 = m 41 0 ∧ eqN (m' 64) (m 42) 100) := by
  refine r_entry mx62 rfl ?_
  refine r_loadA a62_0 rfl (by decide) ?_
  refine r_loadA a62_1 rfl (by decide) ?_
  refine r_getI (ki := 0) a62_2 ty41 rfl ?_
  refine r_putI (ki := 0) a62_5 ty63 rfl ?_
  refine r_loadA a62_8 rfl (by decide) ?_
  refine r_getR a62_9 ty41 rf41_1 (by decide) ?_
  refine r_pushI a62_12 ?_
  refine r_loadA a62_13 rfl (by decide) ?_
  refine r_getR a62_14 ty63 rf63_1 (by decide) ?_
  refine r_pushI a62_17 ?_
  refine r_pushI a62_18 ?_
  refine r_copy a62_20 (by omega) ty42 ty64 (Or.inl rfl) (by decide) (by omega) ?_
  refine r_retVq a62_23 ?_
  refine ⟨fun x hx => ?_, ?_, fun i a b => ?_⟩
  · rw [upc_C, upC_n (by omega), up2_c (by omega)]
  · rw [upc_C, upC_n (by decide), up2_s]
  · rw [upc_C, upC_s, up2_c (by decide)]; exact cp_at _ _ a b
theorem c_Ta_copyFrom_41 (d z : Nat) (m : XM) (hd : 1 ≤ d) : CV d k_Ta_copyFrom z m [vR 41, vR 63] (fun m' => (∀ x, ¬ (41 ≤ x ∧ x ≤ 42) → m' x = m x) ∧ m' 41 0 = m 63 0 ∧ eqN (m' 42) (m 64) 100) := by
  refine r_entry mx62 rfl ?_
  refine r_loadA a62_0 rfl (by decide) ?_
  refine r_loadA a62_1 rfl (by decide) ?_
  refine r_getI (ki := 0) a62_2 ty63 rfl ?_
  refine r_putI (ki := 0) a62_5 ty41 rfl ?_
  refine r_loadA a62_8 rfl (by decide) ?_
  refine r_getR a62_9 ty63 rf63_1 (by decide) ?_
  refine r_pushI a62_12 ?_
  refine r_loadA a62_13 rfl (by decide) ?_
  refine r_getR a62_14 ty41 rf41_1 (by decide) ?_
  refine r_pushI a62_17 ?_
  refine r_pushI a62_18 ?_
  refine r_copy a62_20 (by omega) ty64 ty42 (Or.inl rfl) (by decide) (by omega) ?_
  refine r_retVq a62_23 ?_
  refine ⟨fun x hx => ?_, ?_, fun i a b => ?_⟩
  · rw [upc_C, upC_n (by omega), up2_c (by omega)]
  · rw [upc_C, upC_n (by decide), up2_s]
  · rw [upc_C, upC_s, up2_c (by decide)]; exact cp_at _ _ a b
theorem c_Cl_copyFrom_65_43 (d z : Nat) (m : XM) (hd : 1 ≤ d) : CV d k_Cl_copyFrom z m [vR 65, vR 43] (fun m' => (∀ x, ¬ (65 ≤ x ∧ x ≤ 69) → m' x = m x) ∧ m' 65 0 = m 43 0 ∧ m' 65 1 = m 43 1 ∧ m' 65 2 = m 43 2 ∧ eqN (m' 66) (m 44) 10 ∧ eqN (m' 67) (m 45) 10 ∧ eqN (m' 68) (m 46) 10 ∧ eqN (m' 69) (m 47) 100) := by
  refine r_entry mx6 rfl ?_
  refine r_loadA a6_0 rfl (by decide) ?_
  refine r_loadA a6_1 rfl (by decide) ?_
  refine r_getI (ki := 0) a6_2 ty43 rfl ?_
  refine r_putI (ki := 0) a6_5 ty65 rfl ?_
  refine r_loadA a6_8 rfl (by decide) ?_
  refine r_loadA a6_9 rfl (by decide) ?_
  refine r_getI (ki := 1) a6_10 ty43 rfl ?_
  refine r_putI (ki := 1) a6_13 ty65 rfl ?_
  refine r_loadA a6_16 rfl (by decide) ?_
  refine r_loadA a6_17 rfl (by decide) ?_
  refine r_getI (ki := 2) a6_18 ty43 rfl ?_
  refine r_putI (ki := 2) a6_21 ty65 rfl ?_
  refine r_loadA a6_24 rfl (by decide) ?_
  refine r_loadA a6_25 rfl (by decide) ?_
  refine r_getI (ki := 3) a6_26 ty43 rfl ?_
  refine r_putI (ki := 3) a6_29 ty65 rfl ?_
  refine r_loadA a6_32 rfl (by decide) ?_
  refine r_getR a6_33 ty43 rf43_4 (by decide) ?_
  refine r_pushI a6_36 ?_
  refine r_loadA a6_37 rfl (by decide) ?_
  refine r_getR a6_38 ty65 rf65_4 (by decide) ?_
  refine r_pushI a6_41 ?_
  refine r_pushI a6_42 ?_
  refine r_copy a6_44 (by omega) ty44 ty66 (Or.inr rfl) (by decide) (by omega) ?_
  refine r_loadA a6_47 rfl (by decide) ?_
  refine r_getR a6_48 ty43 rf43_5 (by decide) ?_
  refine r_pushI a6_51 ?_
  refine r_loadA a6_52 rfl (by decide) ?_
  refine r_getR a6_53 ty65 rf65_5 (by decide) ?_
  refine r_pushI a6_56 ?_
  refine r_pushI a6_57 ?_
  refine r_copy a6_59 (by omega) ty45 ty67 (Or.inl rfl) (by decide) (by omega) ?_
  refine r_loadA a6_62 rfl (by decide) ?_
  refine r_getR a6_63 ty43 rf43_6 (by decide) ?_
  refine r_pushI a6_66 ?_
  refine r_loadA a6_67 rfl (by decide) ?_
  refine r_getR a6_68 ty65 rf65_6 (by decide) ?_
  refine r_pushI a6_71 ?_
  refine r_pushI a6_72 ?_
  refine r_copy a6_74 (by omega) ty46 ty68 (Or.inl rfl) (by decide) (by omega) ?_
  refine r_loadA a6_77 rfl (by decide) ?_
  refine r_getR a6_78 ty43 rf43_7 (by decide) ?_
  refine r_pushI a6_81 ?_
  refine r_loadA a6_82 rfl (by decide) ?_
  refine r_getR a6_83 ty65 rf65_7 (by decide) ?_
  refine r_pushI a6_86 ?_
  refine r_pushI a6_87 ?_
  refine r_copy a6_89 (by omega) ty47 ty69 (Or.inl rfl) (by decide) (by omega) ?_
  refine r_retVq a6_92 ?_
  refine ⟨fun x hx => ?_, ?_, ?_, ?_, fun i a b => ?_, fun i a b => ?_, fun i a b => ?_, fun i a b => ?_⟩
  · rw [upc_C, upc_C, upc_C, upc_C, upC_n (by omega), upC_n (by omega), upC_n (by omega), upC_n (by omega), up2_c (by omega), up2_c (by omega), up2_c (by omega), up2_c (by omega)]
  · rw [upc_C, upc_C, upc_C, upc_C, upC_n (by decide), upC_n (by decide), upC_n (by decide), upC_n (by decide), up2_k (by decide), up2_k (by decide), up2_k (by decide), up2_s]
  · rw [upc_C, upc_C, upc_C, upc_C, upC_n (by decide), upC_n (by decide), upC_n (by decide), upC_n (by decide), up2_k (by decide), up2_k (by decide), up2_s, up2_c (by decide)]
  · rw [upc_C, upc_C, upc_C, upc_C, upC_n (by decide), upC_n (by decide), upC_n (by decide), upC_n (by decide), up2_k (by decide), up2_s, up2_c (by decide), up2_c (by decide)]
  · rw [upc_C, upc_C, upc_C, upc_C, upC_n (by decide), upC_n (by decide), upC_n (by decide), upC_s, up2_c (by decide), up2_c (by decide), up2_c (by decide), up2_c (by decide)]; exact cp_at _ _ a b
  · rw [upc_C, upc_C, upc_C, upc_C, upC_n (by decide), upC_n (by decide), upC_s, upC_n (by decide), up2_c (by decide), up2_c (by decide), up2_c (by decide), up2_c (by decide)]; exact cp_at _ _ a b
  · rw [upc_C, upc_C, upc_C, upc_C, upC_n (by decide), upC_s, upC_n (by decide), upC_n (by decide), up2_c (by decide), up2_c (by decide), up2_c (by decide), up2_c (by decide)]; exact cp_at _ _ a b
  · rw [upc_C, upc_C, upc_C, upc_C, upC_s, upC_n (by decide), upC_n (by decide), upC_n (by decide), up2_c (by decide), up2_c (by decide), up2_c (by decide), up2_c (by decide)]; exact cp_at _ _ a b
theorem c_Cl_copyFrom_43_65 (d z : Nat) (m : XM) (hd : 1 ≤ d) : CV d k_Cl_copyFrom z m [vR 43, vR 65] (fun m' => (∀ x, ¬ (43 ≤ x ∧ x ≤ 47) → m' x = m x) ∧ m' 43 0 = m 65 0 ∧ m' 43 1 = m 65 1 ∧ m' 43 2 = m 65 2 ∧ eqN (m' 44) (m 66) 10 ∧ eqN (m' 45) (m 67) 10 ∧ eqN (m' 46) (m 68) 10 ∧ eqN (m' 47) (m 69) 100) := by
  refine r_entry mx6 rfl ?_
  refine r_loadA a6_0 rfl (by decide) ?_
  refine r_loadA a6_1 rfl (by decide) ?_
  refine r_getI (ki := 0) a6_2 ty65 rfl ?_
  refine r_putI (ki := 0) a6_5 ty43 rfl ?_
  refine r_loadA a6_8 rfl (by decide) ?_
  refine r_loadA a6_9 rfl (by decide) ?_
  refine r_getI (ki := 1) a6_10 ty65 rfl ?_
  refine r_putI (ki := 1) a6_13 ty43 rfl ?_
  refine r_loadA a6_16 rfl (by decide) ?_
  refine r_loadA a6_17 rfl (by decide) ?_
  refine r_getI (ki := 2) a6_18 ty65 rfl ?_
  refine r_putI (ki := 2) a6_21 ty43 rfl ?_
  refine r_loadA a6_24 rfl (by decide) ?_
  refine r_loadA a6_25 rfl (by decide) ?_
  refine r_getI (ki := 3) a6_26 ty65 rfl ?_
  refine r_putI (ki := 3) a6_29 ty43 rfl ?_
  refine r_loadA a6_32 rfl (by decide) ?_
  refine r_getR a6_33 ty65 rf65_4 (by decide) ?_
  refine r_pushI a6_36 ?_
  refine r_loadA a6_37 rfl (by decide) ?_
  refine r_getR a6_38 ty43 rf43_4 (by decide) ?_
  refine r_pushI a6_41 ?_
  refine r_pushI a6_42 ?_
  refine r_copy a6_44 (by omega) ty66 ty44 (Or.inr rfl) (by decide) (by omega) ?_
  refine r_loadA a6_47 rfl (by decide) ?_
  refine r_getR a6_48 ty65 rf65_5 (by decide) ?_
  refine r_pushI a6_51 ?_
  refine r_loadA a6_52 rfl (by decide) ?_
  refine r_getR a6_53 ty43 rf43_5 (by decide) ?_
  refine r_pushI a6_56 ?_
  refine r_pushI a6_57 ?_
  refine r_copy a6_59 (by omega) ty67 ty45 (Or.inl rfl) (by decide) (by omega) ?_
  refine r_loadA a6_62 rfl (by decide) ?_
  refine r_getR a6_63 ty65 rf65_6 (by decide) ?_
  refine r_pushI a6_66 ?_
  refine r_loadA a6_67 rfl (by decide) ?_
  refine r_getR a6_68 ty43 rf43_6 (by decide) ?_
  refine r_pushI a6_71 ?_
  refine r_pushI a6_72 ?_
  refine r_copy a6_74 (by omega) ty68 ty46 (Or.inl rfl) (by decide) (by omega) ?_
  refine r_loadA a6_77 rfl (by decide) ?_
  refine r_getR a6_78 ty65 rf65_7 (by decide) ?_
  refine r_pushI a6_81 ?_
  refine r_loadA a6_82 rfl (by decide) ?_
  refine r_getR a6_83 ty43 rf43_7 (by decide) ?_
  refine r_pushI a6_86 ?_
  refine r_pushI a6_87 ?_
  refine r_copy a6_89 (by omega) ty69 ty47 (Or.inl rfl) (by decide) (by omega) ?_
  refine r_retVq a6_92 ?_
  refine ⟨fun x hx => ?_, ?_, ?_, ?_, fun i a b => ?_, fun i a b => ?_, fun i a b => ?_, fun i a b => ?_⟩
  · rw [upc_C, upc_C, upc_C, upc_C, upC_n (by omega), upC_n (by omega), upC_n (by omega), upC_n (by omega), up2_c (by omega), up2_c (by omega), up2_c (by omega), up2_c (by omega)]
  · rw [upc_C, upc_C, upc_C, upc_C, upC_n (by decide), upC_n (by decide), upC_n (by decide), upC_n (by decide), up2_k (by decide), up2_k (by decide), up2_k (by decide), up2_s]
  · rw [upc_C, upc_C, upc_C, upc_C, upC_n (by decide), upC_n (by decide), upC_n (by decide), upC_n (by decide), up2_k (by decide), up2_k (by decide), up2_s, up2_c (by decide)]
  · rw [upc_C, upc_C, upc_C, upc_C, upC_n (by decide), upC_n (by decide), upC_n (by decide), upC_n (by decide), up2_k (by decide), up2_s, up2_c (by decide), up2_c (by decide)]
  · rw [upc_C, upc_C, upc_C, upc_C, upC_n (by decide), upC_n (by decide), upC_n (by decide), upC_s, up2_c (by decide), up2_c (by decide), up2_c (by decide), up2_c (by decide)]; exact cp_at _ _ a b
  · rw [upc_C, upc_C, upc_C, upc_C, upC_n (by decide), upC_n (by decide), upC_s, upC_n (by decide), up2_c (by decide), up2_c (by decide), up2_c (by decide), up2_c (by decide)]; exact cp_at _ _ a b
  · rw [upc_C, upc_C, upc_C, upc_C, upC_n (by decide), upC_s, upC_n (by decide), upC_n (by decide), up2_c (by decide), up2_c (by decide), up2_c (by decide), up2_c (by decide)]; exact cp_at _ _ a b
  · rw [upc_C, upc_C, upc_C, upc_C, upC_s, upC_n (by decide), upC_n (by decide), upC_n (by decide), up2_c (by decide), up2_c (by decide), up2_c (by decide), up2_c (by decide)]; exact cp_at _ _ a b
theorem c_Cl_copyFrom_43_78 (d z : Nat) (m : XM) (hd : 1 ≤ d) : CV d k_Cl_copyFrom z m [vR 43, vR 78] (fun m' => (∀ x, ¬ (43 ≤ x ∧ x ≤ 47) → m' x = m x) ∧ m' 43 0 = m 78 0 ∧ m' 43 1 = m 78 1 ∧ m' 43 2 = m 78 2 ∧ eqN (m' 44) (m 79) 10 ∧ eqN (m' 45) (m 80) 10 ∧ eqN (m' 46) (m 81) 10 ∧ eqN (m' 47) (m 82) 100) := by
  refine r_entry mx6 rfl ?_
  refine r_loadA a6_0 rfl (by decide) ?_
  refine r_loadA a6_1 rfl (by decide) ?_
  refine r_getI (ki := 0) a6_2 ty78 rfl ?_
  refine r_putI (ki := 0) a6_5 ty43 rfl ?_
  refine r_loadA a6_8 rfl (by decide) ?_
  refine r_loadA a6_9 rfl (by decide) ?_
  refine r_getI (ki := 1) a6_10 ty78 rfl ?_
  refine r_putI (ki := 1) a6_13 ty43 rfl ?_
  refine r_loadA a6_16 rfl (by decide) ?_
  refine r_loadA a6_17 rfl (by decide) ?_
  refine r_getI (ki := 2) a6_18 ty78 rfl ?_
  refine r_putI (ki := 2) a6_21 ty43 rfl ?_
  refine r_loadA a6_24 rfl (by decide) ?_
  refine r_loadA a6_25 rfl (by decide) ?_
  refine r_getI (ki := 3) a6_26 ty78 rfl ?_
  refine r_putI (ki := 3) a6_29 ty43 rfl ?_
  refine r_loadA a6_32 rfl (by decide) ?_
  refine r_getR a6_33 ty78 rf78_4 (by decide) ?_
  refine r_pushI a6_36 ?_
  refine r_loadA a6_37 rfl (by decide) ?_
  refine r_getR a6_38 ty43 rf43_4 (by decide) ?_
  refine r_pushI a6_41 ?_
  refine r_pushI a6_42 ?_
  refine r_copy a6_44 (by omega) ty79 ty44 (Or.inr rfl) (by decide) (by omega) ?_
  refine r_loadA a6_47 rfl (by decide) ?_
  refine r_getR a6_48 ty78 rf78_5 (by decide) ?_
  refine r_pushI a6_51 ?_
  refine r_loadA a6_52 rfl (by decide) ?_
  refine r_getR a6_53 ty43 rf43_5 (by decide) ?_
  refine r_pushI a6_56 ?_
  refine r_pushI a6_57 ?_
  refine r_copy a6_59 (by omega) ty80 ty45 (Or.inl rfl) (by decide) (by omega) ?_
  refine r_loadA a6_62 rfl (by decide) ?_
  refine r_getR a6_63 ty78 rf78_6 (by decide) ?_
  refine r_pushI a6_66 ?_
  refine r_loadA a6_67 rfl (by decide) ?_
  refine r_getR a6_68 ty43 rf43_6 (by decide) ?_
  refine r_pushI a6_71 ?_
  refine r_pushI a6_72 ?_
  refine r_copy a6_74 (by omega) ty81 ty46 (Or.inl rfl) (by decide) (by omega) ?_
  refine r_loadA a6_77 rfl (by decide) ?_
  refine r_getR a6_78 ty78 rf78_7 (by decide) ?_
  refine r_pushI a6_81 ?_
  refine r_loadA a6_82 rfl (by decide) ?_
  refine r_getR a6_83 ty43 rf43_7 (by decide) ?_
  refine r_pushI a6_86 ?_
  refine r_pushI a6_87 ?_
  refine r_copy a6_89 (by omega) ty82 ty47 (Or.inl rfl) (by decide) (by omega) ?_
  refine r_retVq a6_92 ?_
  refine ⟨fun x hx => ?_, ?_, ?_, ?_, fun i a b => ?_, fun i a b => ?_, fun i a b => ?_, fun i a b => ?_⟩
  · rw [upc_C, upc_C, upc_C, upc_C, upC_n (by omega), upC_n (by omega), upC_n (by omega), upC_n (by omega), up2_c (by omega), up2_c (by omega), up2_c (by omega), up2_c (by omega)]
  · rw [upc_C, upc_C, upc_C, upc_C, upC_n (by decide), upC_n (by decide), upC_n (by decide), upC_n (by decide), up2_k (by decide), up2_k (by decide), up2_k (by decide), up2_s]
  · rw [upc_C, upc_C, upc_C, upc_C, upC_n (by decide), upC_n (by decide), upC_n (by decide), upC_n (by decide), up2_k (by decide), up2_k (by decide), up2_s, up2_c (by decide)]
  · rw [upc_C, upc_C, upc_C, upc_C, upC_n (by decide), upC_n (by decide), upC_n (by decide), upC_n (by decide), up2_k (by decide), up2_s, up2_c (by decide), up2_c (by decide)]
  · rw [upc_C, upc_C, upc_C, upc_C, upC_n (by decide), upC_n (by decide), upC_n (by decide), upC_s, up2_c (by decide), up2_c (by decide), up2_c (by decide), up2_c (by decide)]; exact cp_at _ _ a b
  · rw [upc_C, upc_C, upc_C, upc_C, upC_n (by decide), upC_n (by decide), upC_s, upC_n (by decide), up2_c (by decide), up2_c (by decide), up2_c (by decide), up2_c (by decide)]; exact cp_at _ _ a b
  · rw [upc_C, upc_C, upc_C, upc_C, upC_n (by decide), upC_s, upC_n (by decide), upC_n (by decide), up2_c (by decide), up2_c (by decide), up2_c (by decide), up2_c (by decide)]; exact cp_at _ _ a b
  · rw [upc_C, upc_C, upc_C, upc_C, upC_s, upC_n (by decide), upC_n (by decide), upC_n (by decide), up2_c (by decide), up2_c (by decide), up2_c (by decide), up2_c (by decide)]; exact cp_at _ _ a b
theorem c_No_copyFrom_71 (d z : Nat) (m : XM) (hd : 1 ≤ d) (h0 : 0 ≤ m 49 0 ∧ m 49 0 ≤ 7) : CV d k_No_copyFrom z m [vR 71, vR 49] (fun m' => (∀ x, ¬ (71 ≤ x ∧ x ≤ 73) → m' x = m x) ∧ m' 71 0 = m 49 0 ∧ eqN (m' 72) (m 50) 7 ∧ eqN (m' 73) (m 51) 7) := by
  have e1 : iMin ((7 : Nat) : Int) ((7 : Nat) : Int) = 7 := by decide
  have e2 : iMin (m 49 0) 7 = m 49 0 := by unfold iMin; split <;> omega
  refine r_entry mx23 rfl ?_
  refine r_loadA a23_0 rfl (by decide) ?_
  refine r_getR a23_1 ty71 rf71_1 (by decide) ?_
  refine r_alen a23_4 ty72 (Or.inl rfl) rfl ?_
  refine r_loadA a23_5 rfl (by decide) ?_
  refine r_getR a23_6 ty49 rf49_1 (by decide) ?_
  refine r_alen a23_9 ty50 (Or.inl rfl) rfl ?_
  refine r_minI a23_10 (by omega) (Nat.le_of_ble_eq_true rfl) ?_
  rw [e1]
  refine r_storeI_2 a23_13 rfl ?_
  refine r_loadA a23_14 rfl (by decide) ?_
  refine r_loadA a23_15 rfl (by decide) ?_
  refine r_getI (ki := 0) a23_16 ty49 rfl ?_
  refine r_loadI a23_19 rfl ?_
  refine r_minI a23_20 (by omega) (Nat.le_of_ble_eq_true rfl) ?_
  rw [e2]
  refine r_putI (ki := 0) a23_23 ty71 rfl ?_
  refine r_loadA a23_26 rfl (by decide) ?_
  refine r_getR a23_27 ty49 rf49_1 (by decide) ?_
  refine r_pushI a23_30 ?_
  refine r_loadA a23_31 rfl (by decide) ?_
  refine r_getR a23_32 ty71 rf71_1 (by decide) ?_
  refine r_pushI a23_35 ?_
  refine r_loadI a23_36 rfl ?_
  refine r_copy a23_37 (by omega) ty50 ty72 (Or.inl rfl) (by decide) (by omega) ?_
  refine r_loadA a23_40 rfl (by decide) ?_
  refine r_getR a23_41 ty49 rf49_2 (by decide) ?_
  refine r_pushI a23_44 ?_
  refine r_loadA a23_45 rfl (by decide) ?_
  refine r_getR a23_46 ty71 rf71_2 (by decide) ?_
  refine r_pushI a23_49 ?_
  refine r_loadI a23_50 rfl ?_
  refine r_copy a23_51 (by omega) ty51 ty73 (Or.inl rfl) (by decide) (by omega) ?_
  refine r_retVq a23_54 ?_
  refine ⟨fun x hx => ?_, ?_, fun i a b => ?_, fun i a b => ?_⟩
  · rw [upc_C, upc_C, upC_n (by omega), upC_n (by omega), up2_c (by omega)]
  · rw [upc_C, upc_C, upC_n (by decide), upC_n (by decide), up2_s]
  · rw [upc_C, upc_C, upC_n (by decide), upC_s, up2_c (by decide)]; exact cp_at _ _ a b
  · rw [upc_C, upc_C, upC_s, upC_n (by decide), up2_c (by decide)]; exact cp_at _ _ a b
theorem c_No_copyFrom_49 (d z : Nat) (m : XM) (hd : 1 ≤ d) (h0 : 0 ≤ m 71 0 ∧ m 71 0 ≤ 7) : CV d k_No_copyFrom z m [vR 49, vR 71] (fun m' => (∀ x, ¬ (49 ≤ x ∧ x ≤ 51) → m' x = m x) ∧ m' 49 0 = m 71 0 ∧ eqN (m' 50) (m 72) 7 ∧ eqN (m' 51) (m 73) 7) := by
  have e1 : iMin ((7 : Nat) : Int) ((7 : Nat) : Int) = 7 := by decide
  have e2 : iMin (m 71 0) 7 = m 71 0 := by unfold iMin; split <;> omega
  refine r_entry mx23 rfl ?_
  refine r_loadA a23_0 rfl (by decide) ?_
  refine r_getR a23_1 ty49 rf49_1 (by decide) ?_
  refine r_alen a23_4 ty50 (Or.inl rfl) rfl ?_
  refine r_loadA a23_5 rfl (by decide) ?_
  refine r_getR a23_6 ty71 rf71_1 (by decide) ?_
  refine r_alen a23_9 ty72 (Or.inl rfl) rfl ?_
  refine r_minI a23_10 (by omega) (Nat.le_of_ble_eq_true rfl) ?_
  rw [e1]
  refine r_storeI_2 a23_13 rfl ?_
  refine r_loadA a23_14 rfl (by decide) ?_
  refine r_loadA a23_15 rfl (by decide) ?_
  refine r_getI (ki := 0) a23_16 ty71 rfl ?_
  refine r_loadI a23_19 rfl ?_
  refine r_minI a23_20 (by omega) (Nat.le_of_ble_eq_true rfl) ?_
  rw [e2]
  refine r_putI (ki := 0) a23_23 ty49 rfl ?_
  refine r_loadA a23_26 rfl (by decide) ?_
  refine r_getR a23_27 ty71 rf71_1 (by decide) ?_
  refine r_pushI a23_30 ?_
  refine r_loadA a23_31 rfl (by decide) ?_
  refine r_getR a23_32 ty49 rf49_1 (by decide) ?_
  refine r_pushI a23_35 ?_
  refine r_loadI a23_36 rfl ?_
  refine r_copy a23_37 (by omega) ty72 ty50 (Or.inl rfl) (by decide) (by omega) ?_
  refine r_loadA a23_40 rfl (by decide) ?_
  refine r_getR a23_41 ty71 rf71_2 (by decide) ?_
  refine r_pushI a23_44 ?_
  refine r_loadA a23_45 rfl (by decide) ?_
  refine r_getR a23_46 ty49 rf49_2 (by decide) ?_
  refine r_pushI a23_49 ?_
  refine r_loadI a23_50 rfl ?_
  refine r_copy a23_51 (by omega) ty73 ty51 (Or.inl rfl) (by decide) (by omega) ?_
  refine r_retVq a23_54 ?_
  refine ⟨fun x hx => ?_, ?_, fun i a b => ?_, fun i a b => ?_⟩
  · rw [upc_C, upc_C, upC_n (by omega), upC_n (by omega), up2_c (by omega)]
  · rw [upc_C, upc_C, upC_n (by decide), upC_n (by decide), up2_s]
  · rw [upc_C, upc_C, upC_n (by decide), upC_s, up2_c (by decide)]; exact cp_at _ _ a b
  · rw [upc_C, upc_C, upC_s, upC_n (by decide), up2_c (by decide)]; exact cp_at _ _ a b
theorem c_No_copyFrom_74 (d z : Nat) (m : XM) (hd : 1 ≤ d) (h0 : 0 ≤ m 52 0 ∧ m 52 0 ≤ 8) : CV d k_No_copyFrom z m [vR 74, vR 52] (fun m' => (∀ x, ¬ (74 ≤ x ∧ x ≤ 76) → m' x = m x) ∧ m' 74 0 = m 52 0 ∧ eqN (m' 75) (m 53) 8 ∧ eqN (m' 76) (m 54) 8) := by
  have e1 : iMin ((8 : Nat) : Int) ((8 : Nat) : Int) = 8 := by decide
  have e2 : iMin (m 52 0) 8 = m 52 0 := by unfold iMin; split <;> omega
  refine r_entry mx23 rfl ?_
  refine r_loadA a23_0 rfl (by decide) ?_
  refine r_getR a23_1 ty74 rf74_1 (by decide) ?_
  refine r_alen a23_4 ty75 (Or.inl rfl) rfl ?_
  refine r_loadA a23_5 rfl (by decide) ?_
  refine r_getR a23_6 ty52 rf52_1 (by decide) ?_
  refine r_alen a23_9 ty53 (Or.inl rfl) rfl ?_
  refine r_minI a23_10 (by omega) (Nat.le_of_ble_eq_true rfl) ?_
  rw [e1]
  refine r_storeI_2 a23_13 rfl ?_
  refine r_loadA a23_14 rfl (by decide) ?_
  refine r_loadA a23_15 rfl (by decide) ?_
  refine r_getI (ki := 0) a23_16 ty52 rfl ?_
  refine r_loadI a23_19 rfl ?_
  refine r_minI a23_20 (by omega) (Nat.le_of_ble_eq_true rfl) ?_
  rw [e2]
  refine r_putI (ki := 0) a23_23 ty74 rfl ?_
  refine r_loadA a23_26 rfl (by decide) ?_
  refine r_getR a23_27 ty52 rf52_1 (by decide) ?_
  refine r_pushI a23_30 ?_
  refine r_loadA a23_31 rfl (by decide) ?_
  refine r_getR a23_32 ty74 rf74_1 (by decide) ?_
  refine r_pushI a23_35 ?_
  refine r_loadI a23_36 rfl ?_
  refine r_copy a23_37 (by omega) ty53 ty75 (Or.inl rfl) (by decide) (by omega) ?_
  refine r_loadA a23_40 rfl (by decide) ?_
  refine r_getR a23_41 ty52 rf52_2 (by decide) ?_
  refine r_pushI a23_44 ?_
  refine r_loadA a23_45 rfl (by decide) ?_
  refine r_getR a23_46 ty74 rf74_2 (by decide) ?_
  refine r_pushI a23_49 ?_
  refine r_loadI a23_50 rfl ?_
  refine r_copy a23_51 (by omega) ty54 ty76 (Or.inl rfl) (by decide) (by omega) ?_
  refine r_retVq a23_54 ?_
  refine ⟨fun x hx => ?_, ?_, fun i a b => ?_, fun i a b => ?_⟩
  · rw [upc_C, upc_C, upC_n (by omega), upC_n (by omega), up2_c (by omega)]
  · rw [upc_C, upc_C, upC_n (by decide), upC_n (by decide), up2_s]
  · rw [upc_C, upc_C, upC_n (by decide), upC_s, up2_c (by decide)]; exact cp_at _ _ a b
  · rw [upc_C, upc_C, upC_s, upC_n (by decide), up2_c (by decide)]; exact cp_at _ _ a b
theorem c_No_copyFrom_52 (d z : Nat) (m : XM) (hd : 1 ≤ d) (h0 : 0 ≤ m 74 0 ∧ m 74 0 ≤ 8) : CV d k_No_copyFrom z m [vR 52, vR 74] (fun m' => (∀ x, ¬ (52 ≤ x ∧ x ≤ 54) → m' x = m x) ∧ m' 52 0 = m 74 0 ∧ eqN (m' 53) (m 75) 8 ∧ eqN (m' 54) (m 76) 8) := by
  have e1 : iMin ((8 : Nat) : Int) ((8 : Nat) : Int) = 8 := by decide
  have e2 : iMin (m 74 0) 8 = m 74 0 := by unfold iMin; split <;> omega
  refine r_entry mx23 rfl ?_
  refine r_loadA a23_0 rfl (by decide) ?_
  refine r_getR a23_1 ty52 rf52_1 (by decide) ?_
  refine r_alen a23_4 ty53 (Or.inl rfl) rfl ?_
  refine r_loadA a23_5 rfl (by decide) ?_
  refine r_getR a23_6 ty74 rf74_1 (by decide) ?_
  refine r_alen a23_9 ty75 (Or.inl rfl) rfl ?_
  refine r_minI a23_10 (by omega) (Nat.le_of_ble_eq_true rfl) ?_
  rw [e1]
  refine r_storeI_2 a23_13 rfl ?_
  refine r_loadA a23_14 rfl (by decide) ?_
  refine r_loadA a23_15 rfl (by decide) ?_
  refine r_getI (ki := 0) a23_16 ty74 rfl ?_
  refine r_loadI a23_19 rfl ?_
  refine r_minI a23_20 (by omega) (Nat.le_of_ble_eq_true rfl) ?_
  rw [e2]
  refine r_putI (ki := 0) a23_23 ty52 rfl ?_
  refine r_loadA a23_26 rfl (by decide) ?_
  refine r_getR a23_27 ty74 rf74_1 (by decide) ?_
  refine r_pushI a23_30 ?_
  refine r_loadA a23_31 rfl (by decide) ?_
  refine r_getR a23_32 ty52 rf52_1 (by decide) ?_
  refine r_pushI a23_35 ?_
  refine r_loadI a23_36 rfl ?_
  refine r_copy a23_37 (by omega) ty75 ty53 (Or.inl rfl) (by decide) (by omega) ?_
  refine r_loadA a23_40 rfl (by decide) ?_
  refine r_getR a23_41 ty74 rf74_2 (by decide) ?_
  refine r_pushI a23_44 ?_
  refine r_loadA a23_45 rfl (by decide) ?_
  refine r_getR a23_46 ty52 rf52_2 (by decide) ?_
  refine r_pushI a23_49 ?_
  refine r_loadI a23_50 rfl ?_
  refine r_copy a23_51 (by omega) ty76 ty54 (Or.inl rfl) (by decide) (by omega) ?_
  refine r_retVq a23_54 ?_
  refine ⟨fun x hx => ?_, ?_, fun i a b => ?_, fun i a b => ?_⟩
  · rw [upc_C, upc_C, upC_n (by omega), upC_n (by omega), up2_c (by omega)]
  · rw [upc_C, upc_C, upC_n (by decide), upC_n (by decide), up2_s]
  · rw [upc_C, upc_C, upC_n (by decide), upC_s, up2_c (by decide)]; exact cp_at _ _ a b
  · rw [upc_C, upc_C, upC_s, upC_n (by decide), up2_c (by decide)]; exact cp_at _ _ a b
theorem Seg_le {f g : Int → Int} : ∀ {l : List Int} {j : Int}, Seg f j l → (∀ i, j ≤ i → i < j + l.length → g i = f i) → Seg g j l := by
  intro l
  induction l with
  | nil => intro _ _ _; trivial
  | cons t ts ih =>
    intro j ⟨h1, h2⟩ hf
    rw [List.length_cons] at hf; push_cast at hf
    exact ⟨by rw [hf j (by omega) (by omega)]; exact h1, ih h2 (fun i a b => hf i (by omega) (by omega))⟩
theorem ClR_copy {m m' : XM} {b b' : Nat} (h1 : eqN (m' (b' + 1)) (m (b + 1)) 10) (h2 : eqN (m' (b' + 2)) (m (b + 2)) 10) (h3 : eqN (m' (b' + 3)) (m (b + 3)) 10) (h4 : eqN (m' (b' + 4)) (m (b + 4)) 100) :
    ∀ {cs : CLs} {i e i' e' : Int}, ClR m b i e cs i' e' → 0 ≤ i → i' ≤ 10 → 0 ≤ e → e' ≤ 100 → ClR m' b' i e cs i' e' := by
  intro cs
  induction cs with
  | nil => intro i e i' e' h _ _ _ _; exact h
  | cons c cs ih =>
    intro i e i' e' ⟨a1, a2, a3, a4, h⟩ p1 p2 p3 p4
    have hl := ClR_len h
    have hi : i < 10 := by omega
    refine ⟨by rw [h1 i p1 hi]; exact a1, by rw [h2 i p1 hi]; exact a2, by rw [h3 i p1 hi]; exact a3, Seg_le a4 (fun j x y => ?_), ih h (by omega) p2 (by omega) p4⟩
    rw [List.length_map] at y
    exact h4 j (by omega) (by omega)
theorem ClB_copy {m m' : XM} {b b' : Nat} {cl : CLs} (h0 : m' (b' + 10) 2 = m (b + 10) 2) (h1 : eqN (m' (b' + 10 + 1)) (m (b + 10 + 1)) 10) (h2 : eqN (m' (b' + 10 + 2)) (m (b + 10 + 2)) 10) (h3 : eqN (m' (b' + 10 + 3)) (m (b + 10 + 3)) 10) (h4 : eqN (m' (b' + 10 + 4)) (m (b + 10 + 4)) 100)
    (hC : ClB m b cl) : ClB m' b' cl := by
  obtain ⟨⟨en, e1, e2⟩, e3, e4⟩ := hC
  have hl := ClR_len e2
  refine ⟨⟨en, e1, ?_⟩, e3, e4⟩
  rw [h0]
  exact ClR_copy h1 h2 h3 h4 e2 (by omega) (by omega) (by omega) e1
theorem c_Hi_copyFrom_55 (d z : Nat) (m : XM) (s : Int → Int) (cl : CLs) (hd : 2 ≤ d) (hS : okS s) (hR : RepB m s 33) (hC : ClB m 33 cl) : CV d k_Hi_copyFrom z m [vR 55, vR 33] (fun m' => (∀ x, ¬ (55 ≤ x ∧ x ≤ 76) → m' x = m x) ∧ RepB m' s 55 ∧ ClB m' 55 cl) := by
  obtain ⟨e, rfl⟩ : ∃ e, d = e + 1 := ⟨d - 1, by omega⟩
  obtain ⟨⟨g0, gg⟩, rr, ⟨k2, k3, k6, ks⟩, ⟨t0, tt⟩, ⟨c0, c1⟩, ⟨n0, nn⟩, b0, bb⟩ := hR
  have h3 := hS.1.2.2.2.1
  have h4 := hS.1.2.2.2.2.1
  have n0' : m 49 0 = s 3 := n0
  have b0' : m 52 0 = s 4 := b0
  refine r_entry mx15 rfl ?_
  refine r_loadA a15_0 rfl (by decide) ?_
  refine r_getR a15_1 ty55 rf55_0 (by decide) ?_
  refine r_loadA a15_4 rfl (by decide) ?_
  refine r_getR a15_5 ty33 rf33_0 (by decide) ?_
  refine r_callV_2 a15_8 (Nat.le_of_ble_eq_true rfl) (le_mx mx13 (Nat.le_of_ble_eq_true rfl)) (Or.inr (recv_ok ty56 ow13 (by decide))) (c_Ga_copyFrom_56 e z m (by omega)) (fun m_8 h_8 => ?_)
  obtain ⟨a0, a1, a2, a3, a4, a5, a6⟩ := h_8
  refine r_loadA a15_11 rfl (by decide) ?_
  refine r_getR a15_12 ty33 rf33_1 (by decide) ?_
  refine r_pushI a15_15 ?_
  refine r_loadA a15_16 rfl (by decide) ?_
  refine r_getR a15_17 ty55 rf55_1 (by decide) ?_
  refine r_pushI a15_20 ?_
  refine r_pushI a15_21 ?_
  refine r_copy a15_22 (by omega) ty40 ty62 (Or.inl rfl) (by decide) (by omega) ?_
  refine r_loadA a15_25 rfl (by decide) ?_
  refine r_loadA a15_26 rfl (by decide) ?_
  refine r_getI (ki := 2) a15_27 ty33 rfl ?_
  refine r_putI (ki := 2) a15_30 ty55 rfl ?_
  refine r_loadA a15_33 rfl (by decide) ?_
  refine r_loadA a15_34 rfl (by decide) ?_
  refine r_getI (ki := 3) a15_35 ty33 rfl ?_
  refine r_putI (ki := 3) a15_38 ty55 rfl ?_
  refine r_loadA a15_41 rfl (by decide) ?_
  refine r_getR a15_42 ty55 rf55_4 (by decide) ?_
  refine r_loadA a15_45 rfl (by decide) ?_
  refine r_getR a15_46 ty33 rf33_4 (by decide) ?_
  refine r_callV_2 a15_49 (Nat.le_of_ble_eq_true rfl) (le_mx mx62 (Nat.le_of_ble_eq_true rfl)) (Or.inr (recv_ok ty63 ow62 (by decide))) (c_Ta_copyFrom_63 e z _ (by omega)) (fun m_49 h_49 => ?_)
  obtain ⟨u0, u1, u2⟩ := h_49
  have f49 : ∀ x, ¬ (55 ≤ x ∧ x ≤ 76) → m_49 x = m x := fun x hx => by rw [u0 x (by omega), up2_c (by omega), up2_c (by omega), upc_C, upC_n (by omega), a0 x (by omega)]
  refine r_loadA a15_52 rfl (by decide) ?_
  refine r_getR a15_53 ty55 rf55_5 (by decide) ?_
  refine r_loadA a15_56 rfl (by decide) ?_
  refine r_getR a15_57 ty33 rf33_5 (by decide) ?_
  refine r_callV_2 a15_60 (Nat.le_of_ble_eq_true rfl) (le_mx mx6 (Nat.le_of_ble_eq_true rfl)) (Or.inr (recv_ok ty65 ow6 (by decide))) (c_Cl_copyFrom_65_43 e z m_49 (by omega)) (fun m_60 h_60 => ?_)
  obtain ⟨v0, v1, v2, v3, v4, v5, v6, v7⟩ := h_60
  have f60 : ∀ x, ¬ (55 ≤ x ∧ x ≤ 76) → m_60 x = m x := fun x hx => by rw [v0 x (by omega)]; exact f49 x hx
  refine r_loadA a15_63 rfl (by decide) ?_
  refine r_loadA a15_64 rfl (by decide) ?_
  refine r_getI (ki := 6) a15_65 ty33 rfl ?_
  refine r_putI (ki := 6) a15_68 ty55 rfl ?_
  refine r_loadA a15_71 rfl (by decide) ?_
  refine r_getR a15_72 ty55 rf55_7 (by decide) ?_
  refine r_loadA a15_75 rfl (by decide) ?_
  refine r_getR a15_76 ty33 rf33_7 (by decide) ?_
  refine r_callV_2 a15_79 (Nat.le_of_ble_eq_true rfl) (le_mx mx23 (Nat.le_of_ble_eq_true rfl)) (Or.inr (recv_ok ty71 ow23 (by decide))) (c_No_copyFrom_71 e z _ (by omega) (by rw [up2_c (by decide), f60 49 (by decide), n0']; exact h3)) (fun m_79 h_79 => ?_)
  obtain ⟨w0, w1, w2, w3⟩ := h_79
  have f79 : ∀ x, ¬ (55 ≤ x ∧ x ≤ 76) → m_79 x = m x := fun x hx => by rw [w0 x (by omega), up2_c (by omega)]; exact f60 x hx
  refine r_loadA a15_82 rfl (by decide) ?_
  refine r_getR a15_83 ty55 rf55_8 (by decide) ?_
  refine r_loadA a15_86 rfl (by decide) ?_
  refine r_getR a15_87 ty33 rf33_8 (by decide) ?_
  refine r_callV_2 a15_90 (Nat.le_of_ble_eq_true rfl) (le_mx mx23 (Nat.le_of_ble_eq_true rfl)) (Or.inr (recv_ok ty74 ow23 (by decide))) (c_No_copyFrom_74 e z m_79 (by omega) (by rw [f79 52 (by decide), b0']; exact h4)) (fun m_90 h_90 => ?_)
  refine r_retVq a15_93 ?_
  obtain ⟨y0, y1, y2, y3⟩ := h_90
  have d1 : ∀ x, (56 ≤ x ∧ x ≤ 61) → m_90 x = m_8 x := fun x hx => by rw [y0 x (by omega), w0 x (by omega), up2_c (by omega), v0 x (by omega), u0 x (by omega), up2_c (by omega), up2_c (by omega), upc_C, upC_n (by omega)]
  have d2 : ∀ x, (63 ≤ x ∧ x ≤ 64) → m_90 x = m_49 x := fun x hx => by rw [y0 x (by omega), w0 x (by omega), up2_c (by omega), v0 x (by omega)]
  have d3 : ∀ x, (65 ≤ x ∧ x ≤ 69) → m_90 x = m_60 x := fun x hx => by rw [y0 x (by omega), w0 x (by omega), up2_c (by omega)]
  have d4 : ∀ x, (71 ≤ x ∧ x ≤ 73) → m_90 x = m_79 x := fun x hx => by rw [y0 x (by omega)]
  have dP : ∀ y, m_90 55 y = up2 (up2 (up2 m_8 55 2 (m 33 2)) 55 3 (m 33 3)) 55 6 (m 33 6) 55 y := fun y => by
    rw [y0 55 (by decide), w0 55 (by decide)]
    by_cases q6 : y = 6
    · rw [q6, up2_s, up2_s, f60 33 (by decide)]
    · rw [up2_k q6, up2_k q6, v0 55 (by decide), u0 55 (by decide)]
      by_cases q3 : y = 3
      · rw [q3, up2_s, up2_s, up2_c (by decide), upc_C, upC_n (by decide), a0 33 (by decide)]
      · rw [up2_k q3, up2_k q3]
        by_cases q2 : y = 2
        · rw [q2, up2_s, up2_s, upc_C, upC_n (by decide), a0 33 (by decide)]
        · rw [up2_k q2, up2_k q2, upc_C, upC_n (by decide)]
  have sk7 : ∀ p, 0 ≤ p → p < 5 → m_90 62 p = m 40 p := fun p x y => by
    rw [y0 62 (by decide), w0 62 (by decide), up2_c (by decide), v0 62 (by decide), u0 62 (by decide), up2_c (by decide), up2_c (by decide), upc_C, upC_s, a0 40 (by decide)]
    exact cp_at _ _ x y
  refine ⟨fun x hx => by rw [y0 x (by omega)]; exact f79 x hx, ⟨⟨?_, fun g x y => ⟨?_, ?_, ?_, ?_⟩⟩, fun k x y => ?_, ⟨?_, ?_, ?_, fun p x y => ?_⟩, ⟨?_, fun i x y => ?_⟩, ⟨?_, ?_⟩, ⟨?_, fun k x y => ⟨?_, ?_⟩⟩, ⟨?_, fun k x y => ⟨?_, ?_⟩⟩⟩, ?_⟩
  · show m_90 56 0 = s 0
    rw [d1 56 (by decide), a1]; exact g0
  · show m_90 57 g = s (8 + g)
    rw [d1 57 (by decide), a2 g x y]; exact (gg g x y).1
  · show m_90 58 g = s (15 + g)
    rw [d1 58 (by decide), a3 g x y]; exact (gg g x y).2.1
  · show m_90 59 g = s (22 + g)
    rw [d1 59 (by decide), a4 g x y]; exact (gg g x y).2.2.1
  · show m_90 60 g = s (29 + g)
    rw [d1 60 (by decide), a5 g x y]; exact (gg g x y).2.2.2
  · show m_90 61 k = s (36 + k)
    rw [d1 61 (by decide), a6 k x y]; exact rr k x y
  · rw [dP, up2_k (by decide), up2_k (by decide), up2_s]; exact k2
  · rw [dP, up2_k (by decide), up2_s]; exact k3
  · rw [dP, up2_s]; exact k6
  · show m_90 62 p = s (64 + p)
    rw [sk7 p x y]; exact ks p x y
  · show m_90 63 0 = s 5
    rw [d2 63 (by decide), u1, up2_c (by decide), up2_c (by decide), upc_C, upC_n (by decide), a0 41 (by decide)]; exact t0
  · show m_90 64 i = s (99 + i)
    rw [d2 64 (by decide), u2 i x y, up2_c (by decide), up2_c (by decide), upc_C, upC_n (by decide), a0 42 (by decide)]; exact tt i x y
  · show m_90 65 0 = rutS s
    rw [d3 65 (by decide), v1, f49 43 (by decide)]; exact c0
  · show m_90 65 1 = fogS s
    rw [d3 65 (by decide), v2, f49 43 (by decide)]; exact c1
  · show m_90 71 0 = s 3
    rw [d4 71 (by decide), w1, up2_c (by decide), f60 49 (by decide)]; exact n0
  · show m_90 72 k = s (69 + k)
    rw [d4 72 (by decide), w2 k x y, up2_c (by decide), f60 50 (by decide)]; exact (nn k x y).1
  · show m_90 73 k = s (76 + k)
    rw [d4 73 (by decide), w3 k x y, up2_c (by decide), f60 51 (by decide)]; exact (nn k x y).2
  · show m_90 74 0 = s 4
    rw [y1, f79 52 (by decide)]; exact b0
  · show m_90 75 k = s (83 + k)
    rw [y2 k x y, f79 53 (by decide)]; exact (bb k x y).1
  · show m_90 76 k = s (91 + k)
    rw [y3 k x y, f79 54 (by decide)]; exact (bb k x y).2
  · refine ClB_copy ?_ ?_ ?_ ?_ ?_ hC
    · show m_90 65 2 = m 43 2
      rw [d3 65 (by decide), v3, f49 43 (by decide)]
    · intro i x y
      show m_90 66 i = m 44 i
      rw [d3 66 (by decide), v4 i x y, f49 44 (by decide)]
    · intro i x y
      show m_90 67 i = m 45 i
      rw [d3 67 (by decide), v5 i x y, f49 45 (by decide)]
    · intro i x y
      show m_90 68 i = m 46 i
      rw [d3 68 (by decide), v6 i x y, f49 46 (by decide)]
    · intro i x y
      show m_90 69 i = m 47 i
      rw [d3 69 (by decide), v7 i x y, f49 47 (by decide)]
theorem c_Hi_copyFrom_33 (d z : Nat) (m : XM) (s : Int → Int) (cl : CLs) (hd : 2 ≤ d) (hS : okS s) (hR : RepB m s 55) (hC : ClB m 55 cl) : CV d k_Hi_copyFrom z m [vR 33, vR 55] (fun m' => (∀ x, ¬ (33 ≤ x ∧ x ≤ 54) → m' x = m x) ∧ RepB m' s 33 ∧ ClB m' 33 cl) := by
  obtain ⟨e, rfl⟩ : ∃ e, d = e + 1 := ⟨d - 1, by omega⟩
  obtain ⟨⟨g0, gg⟩, rr, ⟨k2, k3, k6, ks⟩, ⟨t0, tt⟩, ⟨c0, c1⟩, ⟨n0, nn⟩, b0, bb⟩ := hR
  have h3 := hS.1.2.2.2.1
  have h4 := hS.1.2.2.2.2.1
  have n0' : m 71 0 = s 3 := n0
  have b0' : m 74 0 = s 4 := b0
  refine r_entry mx15 rfl ?_
  refine r_loadA a15_0 rfl (by decide) ?_
  refine r_getR a15_1 ty33 rf33_0 (by decide) ?_
  refine r_loadA a15_4 rfl (by decide) ?_
  refine r_getR a15_5 ty55 rf55_0 (by decide) ?_
  refine r_callV_2 a15_8 (Nat.le_of_ble_eq_true rfl) (le_mx mx13 (Nat.le_of_ble_eq_true rfl)) (Or.inr (recv_ok ty34 ow13 (by decide))) (c_Ga_copyFrom_34 e z m (by omega)) (fun m_8 h_8 => ?_)
  obtain ⟨a0, a1, a2, a3, a4, a5, a6⟩ := h_8
  refine r_loadA a15_11 rfl (by decide) ?_
  refine r_getR a15_12 ty55 rf55_1 (by decide) ?_
  refine r_pushI a15_15 ?_
  refine r_loadA a15_16 rfl (by decide) ?_
  refine r_getR a15_17 ty33 rf33_1 (by decide) ?_
  refine r_pushI a15_20 ?_
  refine r_pushI a15_21 ?_
  refine r_copy a15_22 (by omega) ty62 ty40 (Or.inl rfl) (by decide) (by omega) ?_
  refine r_loadA a15_25 rfl (by decide) ?_
  refine r_loadA a15_26 rfl (by decide) ?_
  refine r_getI (ki := 2) a15_27 ty55 rfl ?_
  refine r_putI (ki := 2) a15_30 ty33 rfl ?_
  refine r_loadA a15_33 rfl (by decide) ?_
  refine r_loadA a15_34 rfl (by decide) ?_
  refine r_getI (ki := 3) a15_35 ty55 rfl ?_
  refine r_putI (ki := 3) a15_38 ty33 rfl ?_
  refine r_loadA a15_41 rfl (by decide) ?_
  refine r_getR a15_42 ty33 rf33_4 (by decide) ?_
  refine r_loadA a15_45 rfl (by decide) ?_
  refine r_getR a15_46 ty55 rf55_4 (by decide) ?_
  refine r_callV_2 a15_49 (Nat.le_of_ble_eq_true rfl) (le_mx mx62 (Nat.le_of_ble_eq_true rfl)) (Or.inr (recv_ok ty41 ow62 (by decide))) (c_Ta_copyFrom_41 e z _ (by omega)) (fun m_49 h_49 => ?_)
  obtain ⟨u0, u1, u2⟩ := h_49
  have f49 : ∀ x, ¬ (33 ≤ x ∧ x ≤ 54) → m_49 x = m x := fun x hx => by rw [u0 x (by omega), up2_c (by omega), up2_c (by omega), upc_C, upC_n (by omega), a0 x (by omega)]
  refine r_loadA a15_52 rfl (by decide) ?_
  refine r_getR a15_53 ty33 rf33_5 (by decide) ?_
  refine r_loadA a15_56 rfl (by decide) ?_
  refine r_getR a15_57 ty55 rf55_5 (by decide) ?_
  refine r_callV_2 a15_60 (Nat.le_of_ble_eq_true rfl) (le_mx mx6 (Nat.le_of_ble_eq_true rfl)) (Or.inr (recv_ok ty43 ow6 (by decide))) (c_Cl_copyFrom_43_65 e z m_49 (by omega)) (fun m_60 h_60 => ?_)
  obtain ⟨v0, v1, v2, v3, v4, v5, v6, v7⟩ := h_60
  have f60 : ∀ x, ¬ (33 ≤ x ∧ x ≤ 54) → m_60 x = m x := fun x hx => by rw [v0 x (by omega)]; exact f49 x hx
  refine r_loadA a15_63 rfl (by decide) ?_
  refine r_loadA a15_64 rfl (by decide) ?_
  refine r_getI (ki := 6) a15_65 ty55 rfl ?_
  refine r_putI (ki := 6) a15_68 ty33 rfl ?_
  refine r_loadA a15_71 rfl (by decide) ?_
  refine r_getR a15_72 ty33 rf33_7 (by decide) ?_
  refine r_loadA a15_75 rfl (by decide) ?_
  refine r_getR a15_76 ty55 rf55_7 (by decide) ?_
  refine r_callV_2 a15_79 (Nat.le_of_ble_eq_true rfl) (le_mx mx23 (Nat.le_of_ble_eq_true rfl)) (Or.inr (recv_ok ty49 ow23 (by decide))) (c_No_copyFrom_49 e z _ (by omega) (by rw [up2_c (by decide), f60 71 (by decide), n0']; exact h3)) (fun m_79 h_79 => ?_)
  obtain ⟨w0, w1, w2, w3⟩ := h_79
  have f79 : ∀ x, ¬ (33 ≤ x ∧ x ≤ 54) → m_79 x = m x := fun x hx => by rw [w0 x (by omega), up2_c (by omega)]; exact f60 x hx
  refine r_loadA a15_82 rfl (by decide) ?_
  refine r_getR a15_83 ty33 rf33_8 (by decide) ?_
  refine r_loadA a15_86 rfl (by decide) ?_
  refine r_getR a15_87 ty55 rf55_8 (by decide) ?_
  refine r_callV_2 a15_90 (Nat.le_of_ble_eq_true rfl) (le_mx mx23 (Nat.le_of_ble_eq_true rfl)) (Or.inr (recv_ok ty52 ow23 (by decide))) (c_No_copyFrom_52 e z m_79 (by omega) (by rw [f79 74 (by decide), b0']; exact h4)) (fun m_90 h_90 => ?_)
  refine r_retVq a15_93 ?_
  obtain ⟨y0, y1, y2, y3⟩ := h_90
  have d1 : ∀ x, (34 ≤ x ∧ x ≤ 39) → m_90 x = m_8 x := fun x hx => by rw [y0 x (by omega), w0 x (by omega), up2_c (by omega), v0 x (by omega), u0 x (by omega), up2_c (by omega), up2_c (by omega), upc_C, upC_n (by omega)]
  have d2 : ∀ x, (41 ≤ x ∧ x ≤ 42) → m_90 x = m_49 x := fun x hx => by rw [y0 x (by omega), w0 x (by omega), up2_c (by omega), v0 x (by omega)]
  have d3 : ∀ x, (43 ≤ x ∧ x ≤ 47) → m_90 x = m_60 x := fun x hx => by rw [y0 x (by omega), w0 x (by omega), up2_c (by omega)]
  have d4 : ∀ x, (49 ≤ x ∧ x ≤ 51) → m_90 x = m_79 x := fun x hx => by rw [y0 x (by omega)]
  have dP : ∀ y, m_90 33 y = up2 (up2 (up2 m_8 33 2 (m 55 2)) 33 3 (m 55 3)) 33 6 (m 55 6) 33 y := fun y => by
    rw [y0 33 (by decide), w0 33 (by decide)]
    by_cases q6 : y = 6
    · rw [q6, up2_s, up2_s, f60 55 (by decide)]
    · rw [up2_k q6, up2_k q6, v0 33 (by decide), u0 33 (by decide)]
      by_cases q3 : y = 3
      · rw [q3, up2_s, up2_s, up2_c (by decide), upc_C, upC_n (by decide), a0 55 (by decide)]
      · rw [up2_k q3, up2_k q3]
        by_cases q2 : y = 2
        · rw [q2, up2_s, up2_s, upc_C, upC_n (by decide), a0 55 (by decide)]
        · rw [up2_k q2, up2_k q2, upc_C, upC_n (by decide)]
  have sk7 : ∀ p, 0 ≤ p → p < 5 → m_90 40 p = m 62 p := fun p x y => by
    rw [y0 40 (by decide), w0 40 (by decide), up2_c (by decide), v0 40 (by decide), u0 40 (by decide), up2_c (by decide), up2_c (by decide), upc_C, upC_s, a0 62 (by decide)]
    exact cp_at _ _ x y
  refine ⟨fun x hx => by rw [y0 x (by omega)]; exact f79 x hx, ⟨⟨?_, fun g x y => ⟨?_, ?_, ?_, ?_⟩⟩, fun k x y => ?_, ⟨?_, ?_, ?_, fun p x y => ?_⟩, ⟨?_, fun i x y => ?_⟩, ⟨?_, ?_⟩, ⟨?_, fun k x y => ⟨?_, ?_⟩⟩, ⟨?_, fun k x y => ⟨?_, ?_⟩⟩⟩, ?_⟩
  · show m_90 34 0 = s 0
    rw [d1 34 (by decide), a1]; exact g0
  · show m_90 35 g = s (8 + g)
    rw [d1 35 (by decide), a2 g x y]; exact (gg g x y).1
  · show m_90 36 g = s (15 + g)
    rw [d1 36 (by decide), a3 g x y]; exact (gg g x y).2.1
  · show m_90 37 g = s (22 + g)
    rw [d1 37 (by decide), a4 g x y]; exact (gg g x y).2.2.1
  · show m_90 38 g = s (29 + g)
    rw [d1 38 (by decide), a5 g x y]; exact (gg g x y).2.2.2
  · show m_90 39 k = s (36 + k)
    rw [d1 39 (by decide), a6 k x y]; exact rr k x y
  · rw [dP, up2_k (by decide), up2_k (by decide), up2_s]; exact k2
  · rw [dP, up2_k (by decide), up2_s]; exact k3
  · rw [dP, up2_s]; exact k6
  · show m_90 40 p = s (64 + p)
    rw [sk7 p x y]; exact ks p x y
  · show m_90 41 0 = s 5
    rw [d2 41 (by decide), u1, up2_c (by decide), up2_c (by decide), upc_C, upC_n (by decide), a0 63 (by decide)]; exact t0
  · show m_90 42 i = s (99 + i)
    rw [d2 42 (by decide), u2 i x y, up2_c (by decide), up2_c (by decide), upc_C, upC_n (by decide), a0 64 (by decide)]; exact tt i x y
  · show m_90 43 0 = rutS s
    rw [d3 43 (by decide), v1, f49 65 (by decide)]; exact c0
  · show m_90 43 1 = fogS s
    rw [d3 43 (by decide), v2, f49 65 (by decide)]; exact c1
  · show m_90 49 0 = s 3
    rw [d4 49 (by decide), w1, up2_c (by decide), f60 71 (by decide)]; exact n0
  · show m_90 50 k = s (69 + k)
    rw [d4 50 (by decide), w2 k x y, up2_c (by decide), f60 72 (by decide)]; exact (nn k x y).1
  · show m_90 51 k = s (76 + k)
    rw [d4 51 (by decide), w3 k x y, up2_c (by decide), f60 73 (by decide)]; exact (nn k x y).2
  · show m_90 52 0 = s 4
    rw [y1, f79 74 (by decide)]; exact b0
  · show m_90 53 k = s (83 + k)
    rw [y2 k x y, f79 75 (by decide)]; exact (bb k x y).1
  · show m_90 54 k = s (91 + k)
    rw [y3 k x y, f79 76 (by decide)]; exact (bb k x y).2
  · refine ClB_copy ?_ ?_ ?_ ?_ ?_ hC
    · show m_90 43 2 = m 65 2
      rw [d3 43 (by decide), v3, f49 65 (by decide)]
    · intro i x y
      show m_90 44 i = m 66 i
      rw [d3 44 (by decide), v4 i x y, f49 66 (by decide)]
    · intro i x y
      show m_90 45 i = m 67 i
      rw [d3 45 (by decide), v5 i x y, f49 67 (by decide)]
    · intro i x y
      show m_90 46 i = m 68 i
      rw [d3 46 (by decide), v6 i x y, f49 68 (by decide)]
    · intro i x y
      show m_90 47 i = m 69 i
      rw [d3 47 (by decide), v7 i x y, f49 69 (by decide)]
