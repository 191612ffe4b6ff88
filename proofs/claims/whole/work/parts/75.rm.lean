-- ===== the reference reads =====
def MoS (m : XM) (f : Int → Int) (E A : Int) : Prop := m 121 6 = E ∧ (0 ≤ E ∧ E ≤ 100) ∧ (0 ≤ m 121 5 ∧ m 121 5 ≤ E) ∧ (∀ i, 0 ≤ i → i < 100 → m 122 (99 + i) = f i) ∧ (∀ i, 0 ≤ i → i < 100 → 0 ≤ f i ∧ f i ≤ 127) ∧ m 121 4 = A ∧ (0 ≤ A ∧ A < 5)
/-- wrong or not, at a sign -/
def mS (m : XM) (w p : Int) : XM := up2 (up2 m 121 7 w) 121 5 p
theorem up2_sw (m : XM) (c : Nat) {k l : Int} (h : k ≠ l) (a b : Int) : up2 (up2 m c k a) c l b = up2 (up2 m c l b) c k a := by
  rw [up2_C, up2_C, up2_C, up2_C, upC_s, upC_s, upC_upC, upC_upC]
  congr 1
  funext y
  rw [upi_at, upi_at, upi_at, upi_at]
  (repeat' split) <;> first | rfl | (exfalso; omega)
theorem up2_id (m : XM) (c : Nat) (k : Int) : up2 m c k (m c k) = m := by
  rw [up2_C]
  have : upi (m c) k (m c k) = m c := by
    funext y; rw [upi_at]
    by_cases q : y = k
    · rw [if_pos q, q]
    · rw [if_neg q]
  rw [this, upC_id]
theorem mS_mS (m : XM) (w p w' p' : Int) : mS (mS m w p) w' p' = mS m w' p' := by
  unfold mS
  rw [up2_sw (up2 m 121 7 w) 121 (show (5 : Int) ≠ 7 by decide), up2_up2, up2_up2]
theorem mS_id {m : XM} {w p : Int} (h1 : m 121 7 = w) (h2 : m 121 5 = p) : mS m w p = m := by
  unfold mS
  rw [← h1, up2_id, ← h2, up2_id]
theorem mS_7 (m : XM) (w p : Int) : mS m w p 121 7 = w := by unfold mS; rw [up2_k (by decide), up2_s]
theorem mS_5 (m : XM) (w p : Int) : mS m w p 121 5 = p := up2_s _ _ _ _
theorem mS_k {m : XM} {w p y : Int} (h7 : y ≠ 7) (h5 : y ≠ 5) : mS m w p 121 y = m 121 y := by unfold mS; rw [up2_k h5, up2_k h7]
theorem mS_c {m : XM} {w p : Int} {x : Nat} (h : x ≠ 121) : mS m w p x = m x := by unfold mS; rw [up2_c h, up2_c h]
theorem MoS_mS {m : XM} {f : Int → Int} {E A w p : Int} (h : MoS m f E A) (hp : 0 ≤ p ∧ p ≤ E) : MoS (mS m w p) f E A := by
  obtain ⟨a, b, c, d, e, g, i⟩ := h
  exact ⟨by rw [mS_k (by decide) (by decide)]; exact a, b, by rw [mS_5]; exact hp, by rw [mS_c (by decide)]; exact d, e, by rw [mS_k (by decide) (by decide)]; exact g, i⟩
theorem c_Mo_here (d z : Nat) (m : XM) (f : Int → Int) (E A : Int) (hI : MoS m f E A) : CI d k_Mo_here z m [vR 121] (fun x m' => m' = m ∧ x = atP f E (m 121 5)) := by
  obtain ⟨a, b, c, e, g, _⟩ := hI
  have hat : atP f E (m 121 5) = if m 121 5 < E then f (m 121 5) else -1 := rfl
  refine r_entry mx124 rfl ?_
  refine r_loadA a124_0 rfl (by decide) ?_
  refine r_getI (ki := 5) a124_1 ty121 rfl ?_
  refine r_loadA a124_4 rfl (by decide) ?_
  refine r_getI (ki := 6) a124_5 ty121 rfl ?_
  rw [a]
  refine r_icge a124_8 (fun h_8 => ?_) (fun h_8 => ?_)
  · refine r_pushI a124_26 ?_
    refine r_retIq a124_27 ?_
    refine ⟨rfl, ?_⟩
    rw [hat]
    first
      | (rw [if_pos (by omega)]; exact e _ (by omega) (by omega))
      | rw [if_neg (by omega)]
  · refine r_loadA a124_11 rfl (by decide) ?_
    refine r_getR a124_12 ty121 rf121_1 (by decide) ?_
    refine r_pushI a124_15 ?_
    refine r_loadA a124_17 rfl (by decide) ?_
    refine r_getI (ki := 5) a124_18 ty121 rfl ?_
    refine r_add a124_21 (by omega) ?_
    refine r_iald a124_22 ty122 (by omega) ?_
    refine r_goto a124_23 ?_
    refine r_retIq a124_27 ?_
    refine ⟨rfl, ?_⟩
    rw [hat]
    first
      | (rw [if_pos (by omega)]; exact e _ (by omega) (by omega))
      | rw [if_neg (by omega)]
theorem c_Mo_must (d z : Nat) (m : XM) (f : Int → Int) (E A c w p : Int) (hd : 1 ≤ d) (hI : MoS m f E A) (h7 : m 121 7 = w) (h5 : m 121 5 = p) (hw : w = 0 ∨ w = 1) : CV d k_Mo_must z m [vR 121, vI c] (fun m' => (w = 0 ∧ atP f E p = c ∧ m' = mS m 0 (p + 1)) ∨ (¬ (w = 0 ∧ atP f E p = c) ∧ m' = mS m 1 p)) := by
  obtain ⟨e, rfl⟩ : ∃ e, d = e + 1 := ⟨d - 1, by omega⟩
  have hb := hI.2.1
  have hp := hI.2.2.1
  rw [h5] at hp
  refine r_entry mx125 rfl ?_
  refine r_loadA a125_0 rfl (by decide) ?_
  refine r_loadA a125_1 rfl (by decide) ?_
  refine r_getI (ki := 7) a125_2 ty121 rfl ?_
  rw [h7]
  refine r_ifne a125_5 (fun h_5 => ?_) (fun h_5 => ?_)
  · refine r_pushI a125_16 ?_
    refine r_goto a125_17 ?_
    refine r_putZ (ki := 7) a125_21 ty121 rfl (by omega) ?_
    refine r_loadA a125_24 rfl (by decide) ?_
    refine r_dup a125_25 rfl ?_
    refine r_getI (ki := 5) a125_26 ty121 rfl ?_
    rw [up2_k (by decide), h5]
    refine r_loadA a125_29 rfl (by decide) ?_
    refine r_getI (ki := 7) a125_30 ty121 rfl ?_
    rw [up2_s]
    refine r_ifeq a125_33 (fun h_33 => ?_) (fun h_33 => ?_)
    · first
        | (exfalso; omega)
        | (refine r_pushI a125_40 ?_
           refine r_add a125_41 (by omega) ?_
           refine r_putI (ki := 5) a125_42 ty121 rfl ?_
           refine r_retVq a125_45 ?_
           exact Or.inl ⟨by omega, by omega, rfl⟩)
    · first
        | (exfalso; omega)
        | (refine r_pushI a125_36 ?_
           refine r_goto a125_37 ?_
           refine r_add a125_41 (by omega) ?_
           refine r_putI (ki := 5) a125_42 ty121 rfl ?_
           refine r_retVq a125_45 ?_
           refine Or.inr ⟨by omega, ?_⟩
           rw [Int.add_zero]; rfl)
  · refine r_loadA a125_8 rfl (by decide) ?_
    refine r_callI_1 a125_9 (Nat.le_of_ble_eq_true rfl) (le_mx mx124 (Nat.le_of_ble_eq_true rfl)) (Or.inr (recv_ok ty121 ow124 (by decide))) (c_Mo_here e z m f E A hI) (fun x_9 m_9 h_9 => ?_)
    obtain ⟨hm_9, h_9⟩ := h_9
    rw [hm_9]
    rw [h5] at h_9
    refine r_loadI a125_12 rfl ?_
    refine r_iceq a125_13 (fun h_13 => ?_) (fun h_13 => ?_)
    · refine r_pushI a125_20 ?_
      refine r_putZ (ki := 7) a125_21 ty121 rfl (by omega) ?_
      refine r_loadA a125_24 rfl (by decide) ?_
      refine r_dup a125_25 rfl ?_
      refine r_getI (ki := 5) a125_26 ty121 rfl ?_
      rw [up2_k (by decide), h5]
      refine r_loadA a125_29 rfl (by decide) ?_
      refine r_getI (ki := 7) a125_30 ty121 rfl ?_
      rw [up2_s]
      refine r_ifeq a125_33 (fun h_33 => ?_) (fun h_33 => ?_)
      · first
          | (exfalso; omega)
          | (refine r_pushI a125_40 ?_
             refine r_add a125_41 (by omega) ?_
             refine r_putI (ki := 5) a125_42 ty121 rfl ?_
             refine r_retVq a125_45 ?_
             exact Or.inl ⟨by omega, by omega, rfl⟩)
      · first
          | (exfalso; omega)
          | (refine r_pushI a125_36 ?_
             refine r_goto a125_37 ?_
             refine r_add a125_41 (by omega) ?_
             refine r_putI (ki := 5) a125_42 ty121 rfl ?_
             refine r_retVq a125_45 ?_
             refine Or.inr ⟨by omega, ?_⟩
             rw [Int.add_zero]; rfl)
    · refine r_pushI a125_16 ?_
      refine r_goto a125_17 ?_
      refine r_putZ (ki := 7) a125_21 ty121 rfl (by omega) ?_
      refine r_loadA a125_24 rfl (by decide) ?_
      refine r_dup a125_25 rfl ?_
      refine r_getI (ki := 5) a125_26 ty121 rfl ?_
      rw [up2_k (by decide), h5]
      refine r_loadA a125_29 rfl (by decide) ?_
      refine r_getI (ki := 7) a125_30 ty121 rfl ?_
      rw [up2_s]
      refine r_ifeq a125_33 (fun h_33 => ?_) (fun h_33 => ?_)
      · first
          | (exfalso; omega)
          | (refine r_pushI a125_40 ?_
             refine r_add a125_41 (by omega) ?_
             refine r_putI (ki := 5) a125_42 ty121 rfl ?_
             refine r_retVq a125_45 ?_
             exact Or.inl ⟨by omega, by omega, rfl⟩)
      · first
          | (exfalso; omega)
          | (refine r_pushI a125_36 ?_
             refine r_goto a125_37 ?_
             refine r_add a125_41 (by omega) ?_
             refine r_putI (ki := 5) a125_42 ty121 rfl ?_
             refine r_retVq a125_45 ?_
             refine Or.inr ⟨by omega, ?_⟩
             rw [Int.add_zero]; rfl)
theorem c_Mo_spells_13 (d z : Nat) (m : XM) (f : Int → Int) (E A p : Int) (hd : 4 ≤ d) (hI : MoS m f E A) (h7 : m 121 7 = 0) (h5 : m 121 5 = p) : CV d k_Mo_spells z m [vR 121, vR 13] (fun m' => ((pWord f E wRut p).2 = true ∧ m' = mS m 0 (pWord f E wRut p).1) ∨ ((pWord f E wRut p).2 = false ∧ m' = mS m 1 (pWord f E wRut p).1)) := by
  obtain ⟨e, rfl⟩ : ∃ e, d = e + 1 := ⟨d - 1, by omega⟩
  have hp0 := hI.2.2.1
  rw [h5] at hp0
  obtain ⟨R, hR⟩ : ∃ R, pWord f E wRut p = R := ⟨_, rfl⟩
  rw [hR]
  have loop : ∀ (L : List Int) (j w q : Int), j + L.length = 4 → 0 ≤ j → 0 ≤ q → q ≤ E → (∀ i : Nat, i < L.length → zTab 26 (j + i) = (L[i]?).getD 0) → ((w = 0 ∧ pWord f E L q = R) ∨ (w = 1 ∧ R.2 = false ∧ R.1 = q)) →
      RZ (e + 1) k_Mo_spells 2 [vR 121, vR 13, vI j] [] (zH z (mS m w q)) (qz z (qv fun m' => (R.2 = true ∧ m' = mS m 0 R.1) ∨ (R.2 = false ∧ m' = mS m 1 R.1))) := by
    intro L
    induction L with
    | nil =>
      intro j w q hj h0 p0 p1 hz hh
      have hj4 : j + ((0 : Nat) : Int) = 4 := hj
      refine r_loadI a126_2 rfl ?_
      refine r_loadA a126_3 rfl (by decide) ?_
      refine r_callI_1 a126_4 (Nat.le_of_ble_eq_true rfl) (le_mx mx209 (Nat.le_of_ble_eq_true rfl)) (Or.inr (recv_str ow209 (by omega) (by omega))) (c_J0_length_13 e z _ (by omega)) (fun x_4 m_4 h_4 => ?_)
      obtain ⟨hm_4, h_4⟩ := h_4
      rw [hm_4]
      refine r_icge a126_7 (fun h_7 => ?_) (fun h_7 => ?_)
      · refine r_retVq a126_25 ?_
        rcases hh with ⟨hw, hh⟩ | ⟨hw, h1, h2⟩
        · rw [← hh, hw]; exact Or.inl ⟨rfl, rfl⟩
        · rw [hw, ← h2]; exact Or.inr ⟨h1, rfl⟩
      · exfalso
        omega
    | cons c L ih =>
      intro j w q hj h0 p0 p1 hz hh
      rw [List.length_cons] at hj; push_cast at hj
      have hc : zTab 26 j = c := by
        have := hz 0 (by rw [List.length_cons]; omega)
        rw [show j + ((0 : Nat) : Int) = j by omega] at this
        exact this
      have hz2 : ∀ i : Nat, i < L.length → zTab 26 (j + 1 + i) = (L[i]?).getD 0 := fun i hi => by
        have := hz (i + 1) (by rw [List.length_cons]; omega)
        rw [show j + ((i + 1 : Nat) : Int) = j + 1 + (i : Int) by push_cast; omega] at this
        rw [this]; rfl
      have zr := (zTab_26 (i := j) ⟨h0, by omega⟩).2
      rw [hc] at zr
      have t16 := c_Mo_must e z (mS m w q) f E A c w q (by omega) (MoS_mS hI ⟨p0, p1⟩) (mS_7 m w q) (mS_5 m w q) (by omega)
      rw [mS_mS, mS_mS] at t16
      refine r_loadI a126_2 rfl ?_
      refine r_loadA a126_3 rfl (by decide) ?_
      refine r_callI_1 a126_4 (Nat.le_of_ble_eq_true rfl) (le_mx mx209 (Nat.le_of_ble_eq_true rfl)) (Or.inr (recv_str ow209 (by omega) (by omega))) (c_J0_length_13 e z _ (by omega)) (fun x_4 m_4 h_4 => ?_)
      obtain ⟨hm_4, h_4⟩ := h_4
      rw [hm_4]
      refine r_icge a126_7 (fun h_7 => ?_) (fun h_7 => ?_)
      · exfalso
        omega
      · refine r_loadA a126_10 rfl (by decide) ?_
        refine r_loadA a126_11 rfl (by decide) ?_
        refine r_loadI a126_12 rfl ?_
        refine r_callI_2 a126_13 (Nat.le_of_ble_eq_true rfl) (le_mx mx210 (Nat.le_of_ble_eq_true rfl)) (Or.inr (recv_str ow210 (by omega) (by omega))) (c_J0_charAt_13 e z _ j (by omega) ⟨h0, by omega⟩) (fun x_13 m_13 h_13 => ?_)
        obtain ⟨hm_13, h_13⟩ := h_13
        rw [hm_13]
        rw [show x_13 = c from h_13.trans hc]
        refine r_callV_2 a126_16 (Nat.le_of_ble_eq_true rfl) (le_mx mx125 (Nat.le_of_ble_eq_true rfl)) (Or.inr (recv_ok ty121 ow125 (by decide))) (t16) (fun m_16 h_16 => ?_)
        refine r_iinc_2 a126_19 rfl (by omega) ?_
        refine r_goto a126_22 ?_
        rcases h_16 with ⟨w1, w2, w3⟩ | ⟨w1, w3⟩
        · have hlt := @atP_lt f E q (by omega)
          rw [w3]
          refine ih (j + 1) 0 (q + 1) (by omega) (by omega) (by omega) (by omega) hz2 (Or.inl ⟨rfl, ?_⟩)
          rcases hh with ⟨_, hh⟩ | ⟨hw, _⟩
          · have hh2 : (if atP f E q = c then pWord f E L (q + 1) else (q, false)) = R := hh
            rw [if_pos w2] at hh2; exact hh2
          · exfalso; omega
        · rw [w3]
          refine ih (j + 1) 1 q (by omega) (by omega) (by omega) (by omega) hz2 (Or.inr ⟨rfl, ?_⟩)
          rcases hh with ⟨hw, hh⟩ | ⟨hw, h1, h2⟩
          · have hh2 : (if atP f E q = c then pWord f E L (q + 1) else (q, false)) = R := hh
            rw [if_neg (fun x => w1 ⟨hw, x⟩)] at hh2
            rw [← hh2]; exact ⟨rfl, rfl⟩
          · exact ⟨h1, h2⟩
  have e0 : zH z m = zH z (mS m 0 p) := by rw [mS_id h7 h5]
  refine r_entry mx126 rfl ?_
  refine r_pushI a126_0 ?_
  refine r_storeI_2 a126_1 rfl ?_
  rw [e0]
  refine loop wRut 0 0 p rfl (by omega) hp0.1 hp0.2 (fun i hi => ?_) (Or.inl ⟨rfl, hR⟩)
  have hi4 : i < 4 := hi
  have : i = 0 ∨ i = 1 ∨ i = 2 ∨ i = 3 := by omega
  rcases this with q | q | q | q <;> subst q <;> decide
theorem c_Mo_spells_14 (d z : Nat) (m : XM) (f : Int → Int) (E A p : Int) (hd : 4 ≤ d) (hI : MoS m f E A) (h7 : m 121 7 = 0) (h5 : m 121 5 = p) : CV d k_Mo_spells z m [vR 121, vR 14] (fun m' => ((pWord f E wFog p).2 = true ∧ m' = mS m 0 (pWord f E wFog p).1) ∨ ((pWord f E wFog p).2 = false ∧ m' = mS m 1 (pWord f E wFog p).1)) := by
  obtain ⟨e, rfl⟩ : ∃ e, d = e + 1 := ⟨d - 1, by omega⟩
  have hp0 := hI.2.2.1
  rw [h5] at hp0
  obtain ⟨R, hR⟩ : ∃ R, pWord f E wFog p = R := ⟨_, rfl⟩
  rw [hR]
  have loop : ∀ (L : List Int) (j w q : Int), j + L.length = 4 → 0 ≤ j → 0 ≤ q → q ≤ E → (∀ i : Nat, i < L.length → zTab 27 (j + i) = (L[i]?).getD 0) → ((w = 0 ∧ pWord f E L q = R) ∨ (w = 1 ∧ R.2 = false ∧ R.1 = q)) →
      RZ (e + 1) k_Mo_spells 2 [vR 121, vR 14, vI j] [] (zH z (mS m w q)) (qz z (qv fun m' => (R.2 = true ∧ m' = mS m 0 R.1) ∨ (R.2 = false ∧ m' = mS m 1 R.1))) := by
    intro L
    induction L with
    | nil =>
      intro j w q hj h0 p0 p1 hz hh
      have hj4 : j + ((0 : Nat) : Int) = 4 := hj
      refine r_loadI a126_2 rfl ?_
      refine r_loadA a126_3 rfl (by decide) ?_
      refine r_callI_1 a126_4 (Nat.le_of_ble_eq_true rfl) (le_mx mx209 (Nat.le_of_ble_eq_true rfl)) (Or.inr (recv_str ow209 (by omega) (by omega))) (c_J0_length_14 e z _ (by omega)) (fun x_4 m_4 h_4 => ?_)
      obtain ⟨hm_4, h_4⟩ := h_4
      rw [hm_4]
      refine r_icge a126_7 (fun h_7 => ?_) (fun h_7 => ?_)
      · refine r_retVq a126_25 ?_
        rcases hh with ⟨hw, hh⟩ | ⟨hw, h1, h2⟩
        · rw [← hh, hw]; exact Or.inl ⟨rfl, rfl⟩
        · rw [hw, ← h2]; exact Or.inr ⟨h1, rfl⟩
      · exfalso
        omega
    | cons c L ih =>
      intro j w q hj h0 p0 p1 hz hh
      rw [List.length_cons] at hj; push_cast at hj
      have hc : zTab 27 j = c := by
        have := hz 0 (by rw [List.length_cons]; omega)
        rw [show j + ((0 : Nat) : Int) = j by omega] at this
        exact this
      have hz2 : ∀ i : Nat, i < L.length → zTab 27 (j + 1 + i) = (L[i]?).getD 0 := fun i hi => by
        have := hz (i + 1) (by rw [List.length_cons]; omega)
        rw [show j + ((i + 1 : Nat) : Int) = j + 1 + (i : Int) by push_cast; omega] at this
        rw [this]; rfl
      have zr := (zTab_27 (i := j) ⟨h0, by omega⟩).2
      rw [hc] at zr
      have t16 := c_Mo_must e z (mS m w q) f E A c w q (by omega) (MoS_mS hI ⟨p0, p1⟩) (mS_7 m w q) (mS_5 m w q) (by omega)
      rw [mS_mS, mS_mS] at t16
      refine r_loadI a126_2 rfl ?_
      refine r_loadA a126_3 rfl (by decide) ?_
      refine r_callI_1 a126_4 (Nat.le_of_ble_eq_true rfl) (le_mx mx209 (Nat.le_of_ble_eq_true rfl)) (Or.inr (recv_str ow209 (by omega) (by omega))) (c_J0_length_14 e z _ (by omega)) (fun x_4 m_4 h_4 => ?_)
      obtain ⟨hm_4, h_4⟩ := h_4
      rw [hm_4]
      refine r_icge a126_7 (fun h_7 => ?_) (fun h_7 => ?_)
      · exfalso
        omega
      · refine r_loadA a126_10 rfl (by decide) ?_
        refine r_loadA a126_11 rfl (by decide) ?_
        refine r_loadI a126_12 rfl ?_
        refine r_callI_2 a126_13 (Nat.le_of_ble_eq_true rfl) (le_mx mx210 (Nat.le_of_ble_eq_true rfl)) (Or.inr (recv_str ow210 (by omega) (by omega))) (c_J0_charAt_14 e z _ j (by omega) ⟨h0, by omega⟩) (fun x_13 m_13 h_13 => ?_)
        obtain ⟨hm_13, h_13⟩ := h_13
        rw [hm_13]
        rw [show x_13 = c from h_13.trans hc]
        refine r_callV_2 a126_16 (Nat.le_of_ble_eq_true rfl) (le_mx mx125 (Nat.le_of_ble_eq_true rfl)) (Or.inr (recv_ok ty121 ow125 (by decide))) (t16) (fun m_16 h_16 => ?_)
        refine r_iinc_2 a126_19 rfl (by omega) ?_
        refine r_goto a126_22 ?_
        rcases h_16 with ⟨w1, w2, w3⟩ | ⟨w1, w3⟩
        · have hlt := @atP_lt f E q (by omega)
          rw [w3]
          refine ih (j + 1) 0 (q + 1) (by omega) (by omega) (by omega) (by omega) hz2 (Or.inl ⟨rfl, ?_⟩)
          rcases hh with ⟨_, hh⟩ | ⟨hw, _⟩
          · have hh2 : (if atP f E q = c then pWord f E L (q + 1) else (q, false)) = R := hh
            rw [if_pos w2] at hh2; exact hh2
          · exfalso; omega
        · rw [w3]
          refine ih (j + 1) 1 q (by omega) (by omega) (by omega) (by omega) hz2 (Or.inr ⟨rfl, ?_⟩)
          rcases hh with ⟨hw, hh⟩ | ⟨hw, h1, h2⟩
          · have hh2 : (if atP f E q = c then pWord f E L (q + 1) else (q, false)) = R := hh
            rw [if_neg (fun x => w1 ⟨hw, x⟩)] at hh2
            rw [← hh2]; exact ⟨rfl, rfl⟩
          · exact ⟨h1, h2⟩
  have e0 : zH z m = zH z (mS m 0 p) := by rw [mS_id h7 h5]
  refine r_entry mx126 rfl ?_
  refine r_pushI a126_0 ?_
  refine r_storeI_2 a126_1 rfl ?_
  rw [e0]
  refine loop wFog 0 0 p rfl (by omega) hp0.1 hp0.2 (fun i hi => ?_) (Or.inl ⟨rfl, hR⟩)
  have hi4 : i < 4 := hi
  have : i = 0 ∨ i = 1 ∨ i = 2 ∨ i = 3 := by omega
  rcases this with q | q | q | q <;> subst q <;> decide
theorem c_Mo_spells_15 (d z : Nat) (m : XM) (f : Int → Int) (E A p : Int) (hd : 4 ≤ d) (hI : MoS m f E A) (h7 : m 121 7 = 0) (h5 : m 121 5 = p) : CV d k_Mo_spells z m [vR 121, vR 15] (fun m' => ((pWord f E wWax p).2 = true ∧ m' = mS m 0 (pWord f E wWax p).1) ∨ ((pWord f E wWax p).2 = false ∧ m' = mS m 1 (pWord f E wWax p).1)) := by
  obtain ⟨e, rfl⟩ : ∃ e, d = e + 1 := ⟨d - 1, by omega⟩
  have hp0 := hI.2.2.1
  rw [h5] at hp0
  obtain ⟨R, hR⟩ : ∃ R, pWord f E wWax p = R := ⟨_, rfl⟩
  rw [hR]
  have loop : ∀ (L : List Int) (j w q : Int), j + L.length = 4 → 0 ≤ j → 0 ≤ q → q ≤ E → (∀ i : Nat, i < L.length → zTab 28 (j + i) = (L[i]?).getD 0) → ((w = 0 ∧ pWord f E L q = R) ∨ (w = 1 ∧ R.2 = false ∧ R.1 = q)) →
      RZ (e + 1) k_Mo_spells 2 [vR 121, vR 15, vI j] [] (zH z (mS m w q)) (qz z (qv fun m' => (R.2 = true ∧ m' = mS m 0 R.1) ∨ (R.2 = false ∧ m' = mS m 1 R.1))) := by
    intro L
    induction L with
    | nil =>
      intro j w q hj h0 p0 p1 hz hh
      have hj4 : j + ((0 : Nat) : Int) = 4 := hj
      refine r_loadI a126_2 rfl ?_
      refine r_loadA a126_3 rfl (by decide) ?_
      refine r_callI_1 a126_4 (Nat.le_of_ble_eq_true rfl) (le_mx mx209 (Nat.le_of_ble_eq_true rfl)) (Or.inr (recv_str ow209 (by omega) (by omega))) (c_J0_length_15 e z _ (by omega)) (fun x_4 m_4 h_4 => ?_)
      obtain ⟨hm_4, h_4⟩ := h_4
      rw [hm_4]
      refine r_icge a126_7 (fun h_7 => ?_) (fun h_7 => ?_)
      · refine r_retVq a126_25 ?_
        rcases hh with ⟨hw, hh⟩ | ⟨hw, h1, h2⟩
        · rw [← hh, hw]; exact Or.inl ⟨rfl, rfl⟩
        · rw [hw, ← h2]; exact Or.inr ⟨h1, rfl⟩
      · exfalso
        omega
    | cons c L ih =>
      intro j w q hj h0 p0 p1 hz hh
      rw [List.length_cons] at hj; push_cast at hj
      have hc : zTab 28 j = c := by
        have := hz 0 (by rw [List.length_cons]; omega)
        rw [show j + ((0 : Nat) : Int) = j by omega] at this
        exact this
      have hz2 : ∀ i : Nat, i < L.length → zTab 28 (j + 1 + i) = (L[i]?).getD 0 := fun i hi => by
        have := hz (i + 1) (by rw [List.length_cons]; omega)
        rw [show j + ((i + 1 : Nat) : Int) = j + 1 + (i : Int) by push_cast; omega] at this
        rw [this]; rfl
      have zr := (zTab_28 (i := j) ⟨h0, by omega⟩).2
      rw [hc] at zr
      have t16 := c_Mo_must e z (mS m w q) f E A c w q (by omega) (MoS_mS hI ⟨p0, p1⟩) (mS_7 m w q) (mS_5 m w q) (by omega)
      rw [mS_mS, mS_mS] at t16
      refine r_loadI a126_2 rfl ?_
      refine r_loadA a126_3 rfl (by decide) ?_
      refine r_callI_1 a126_4 (Nat.le_of_ble_eq_true rfl) (le_mx mx209 (Nat.le_of_ble_eq_true rfl)) (Or.inr (recv_str ow209 (by omega) (by omega))) (c_J0_length_15 e z _ (by omega)) (fun x_4 m_4 h_4 => ?_)
      obtain ⟨hm_4, h_4⟩ := h_4
      rw [hm_4]
      refine r_icge a126_7 (fun h_7 => ?_) (fun h_7 => ?_)
      · exfalso
        omega
      · refine r_loadA a126_10 rfl (by decide) ?_
        refine r_loadA a126_11 rfl (by decide) ?_
        refine r_loadI a126_12 rfl ?_
        refine r_callI_2 a126_13 (Nat.le_of_ble_eq_true rfl) (le_mx mx210 (Nat.le_of_ble_eq_true rfl)) (Or.inr (recv_str ow210 (by omega) (by omega))) (c_J0_charAt_15 e z _ j (by omega) ⟨h0, by omega⟩) (fun x_13 m_13 h_13 => ?_)
        obtain ⟨hm_13, h_13⟩ := h_13
        rw [hm_13]
        rw [show x_13 = c from h_13.trans hc]
        refine r_callV_2 a126_16 (Nat.le_of_ble_eq_true rfl) (le_mx mx125 (Nat.le_of_ble_eq_true rfl)) (Or.inr (recv_ok ty121 ow125 (by decide))) (t16) (fun m_16 h_16 => ?_)
        refine r_iinc_2 a126_19 rfl (by omega) ?_
        refine r_goto a126_22 ?_
        rcases h_16 with ⟨w1, w2, w3⟩ | ⟨w1, w3⟩
        · have hlt := @atP_lt f E q (by omega)
          rw [w3]
          refine ih (j + 1) 0 (q + 1) (by omega) (by omega) (by omega) (by omega) hz2 (Or.inl ⟨rfl, ?_⟩)
          rcases hh with ⟨_, hh⟩ | ⟨hw, _⟩
          · have hh2 : (if atP f E q = c then pWord f E L (q + 1) else (q, false)) = R := hh
            rw [if_pos w2] at hh2; exact hh2
          · exfalso; omega
        · rw [w3]
          refine ih (j + 1) 1 q (by omega) (by omega) (by omega) (by omega) hz2 (Or.inr ⟨rfl, ?_⟩)
          rcases hh with ⟨hw, hh⟩ | ⟨hw, h1, h2⟩
          · have hh2 : (if atP f E q = c then pWord f E L (q + 1) else (q, false)) = R := hh
            rw [if_neg (fun x => w1 ⟨hw, x⟩)] at hh2
            rw [← hh2]; exact ⟨rfl, rfl⟩
          · exact ⟨h1, h2⟩
  have e0 : zH z m = zH z (mS m 0 p) := by rw [mS_id h7 h5]
  refine r_entry mx126 rfl ?_
  refine r_pushI a126_0 ?_
  refine r_storeI_2 a126_1 rfl ?_
  rw [e0]
  refine loop wWax 0 0 p rfl (by omega) hp0.1 hp0.2 (fun i hi => ?_) (Or.inl ⟨rfl, hR⟩)
  have hi4 : i < 4 := hi
  have : i = 0 ∨ i = 1 ∨ i = 2 ∨ i = 3 := by omega
  rcases this with q | q | q | q <;> subst q <;> decide
theorem c_Mo_spells_18 (d z : Nat) (m : XM) (f : Int → Int) (E A p : Int) (hd : 4 ≤ d) (hI : MoS m f E A) (h7 : m 121 7 = 0) (h5 : m 121 5 = p) : CV d k_Mo_spells z m [vR 121, vR 18] (fun m' => ((pWord f E wIce p).2 = true ∧ m' = mS m 0 (pWord f E wIce p).1) ∨ ((pWord f E wIce p).2 = false ∧ m' = mS m 1 (pWord f E wIce p).1)) := by
  obtain ⟨e, rfl⟩ : ∃ e, d = e + 1 := ⟨d - 1, by omega⟩
  have hp0 := hI.2.2.1
  rw [h5] at hp0
  obtain ⟨R, hR⟩ : ∃ R, pWord f E wIce p = R := ⟨_, rfl⟩
  rw [hR]
  have loop : ∀ (L : List Int) (j w q : Int), j + L.length = 4 → 0 ≤ j → 0 ≤ q → q ≤ E → (∀ i : Nat, i < L.length → zTab 31 (j + i) = (L[i]?).getD 0) → ((w = 0 ∧ pWord f E L q = R) ∨ (w = 1 ∧ R.2 = false ∧ R.1 = q)) →
      RZ (e + 1) k_Mo_spells 2 [vR 121, vR 18, vI j] [] (zH z (mS m w q)) (qz z (qv fun m' => (R.2 = true ∧ m' = mS m 0 R.1) ∨ (R.2 = false ∧ m' = mS m 1 R.1))) := by
    intro L
    induction L with
    | nil =>
      intro j w q hj h0 p0 p1 hz hh
      have hj4 : j + ((0 : Nat) : Int) = 4 := hj
      refine r_loadI a126_2 rfl ?_
      refine r_loadA a126_3 rfl (by decide) ?_
      refine r_callI_1 a126_4 (Nat.le_of_ble_eq_true rfl) (le_mx mx209 (Nat.le_of_ble_eq_true rfl)) (Or.inr (recv_str ow209 (by omega) (by omega))) (c_J0_length_18 e z _ (by omega)) (fun x_4 m_4 h_4 => ?_)
      obtain ⟨hm_4, h_4⟩ := h_4
      rw [hm_4]
      refine r_icge a126_7 (fun h_7 => ?_) (fun h_7 => ?_)
      · refine r_retVq a126_25 ?_
        rcases hh with ⟨hw, hh⟩ | ⟨hw, h1, h2⟩
        · rw [← hh, hw]; exact Or.inl ⟨rfl, rfl⟩
        · rw [hw, ← h2]; exact Or.inr ⟨h1, rfl⟩
      · exfalso
        omega
    | cons c L ih =>
      intro j w q hj h0 p0 p1 hz hh
      rw [List.length_cons] at hj; push_cast at hj
      have hc : zTab 31 j = c := by
        have := hz 0 (by rw [List.length_cons]; omega)
        rw [show j + ((0 : Nat) : Int) = j by omega] at this
        exact this
      have hz2 : ∀ i : Nat, i < L.length → zTab 31 (j + 1 + i) = (L[i]?).getD 0 := fun i hi => by
        have := hz (i + 1) (by rw [List.length_cons]; omega)
        rw [show j + ((i + 1 : Nat) : Int) = j + 1 + (i : Int) by push_cast; omega] at this
        rw [this]; rfl
      have zr := (zTab_31 (i := j) ⟨h0, by omega⟩).2
      rw [hc] at zr
      have t16 := c_Mo_must e z (mS m w q) f E A c w q (by omega) (MoS_mS hI ⟨p0, p1⟩) (mS_7 m w q) (mS_5 m w q) (by omega)
      rw [mS_mS, mS_mS] at t16
      refine r_loadI a126_2 rfl ?_
      refine r_loadA a126_3 rfl (by decide) ?_
      refine r_callI_1 a126_4 (Nat.le_of_ble_eq_true rfl) (le_mx mx209 (Nat.le_of_ble_eq_true rfl)) (Or.inr (recv_str ow209 (by omega) (by omega))) (c_J0_length_18 e z _ (by omega)) (fun x_4 m_4 h_4 => ?_)
      obtain ⟨hm_4, h_4⟩ := h_4
      rw [hm_4]
      refine r_icge a126_7 (fun h_7 => ?_) (fun h_7 => ?_)
      · exfalso
        omega
      · refine r_loadA a126_10 rfl (by decide) ?_
        refine r_loadA a126_11 rfl (by decide) ?_
        refine r_loadI a126_12 rfl ?_
        refine r_callI_2 a126_13 (Nat.le_of_ble_eq_true rfl) (le_mx mx210 (Nat.le_of_ble_eq_true rfl)) (Or.inr (recv_str ow210 (by omega) (by omega))) (c_J0_charAt_18 e z _ j (by omega) ⟨h0, by omega⟩) (fun x_13 m_13 h_13 => ?_)
        obtain ⟨hm_13, h_13⟩ := h_13
        rw [hm_13]
        rw [show x_13 = c from h_13.trans hc]
        refine r_callV_2 a126_16 (Nat.le_of_ble_eq_true rfl) (le_mx mx125 (Nat.le_of_ble_eq_true rfl)) (Or.inr (recv_ok ty121 ow125 (by decide))) (t16) (fun m_16 h_16 => ?_)
        refine r_iinc_2 a126_19 rfl (by omega) ?_
        refine r_goto a126_22 ?_
        rcases h_16 with ⟨w1, w2, w3⟩ | ⟨w1, w3⟩
        · have hlt := @atP_lt f E q (by omega)
          rw [w3]
          refine ih (j + 1) 0 (q + 1) (by omega) (by omega) (by omega) (by omega) hz2 (Or.inl ⟨rfl, ?_⟩)
          rcases hh with ⟨_, hh⟩ | ⟨hw, _⟩
          · have hh2 : (if atP f E q = c then pWord f E L (q + 1) else (q, false)) = R := hh
            rw [if_pos w2] at hh2; exact hh2
          · exfalso; omega
        · rw [w3]
          refine ih (j + 1) 1 q (by omega) (by omega) (by omega) (by omega) hz2 (Or.inr ⟨rfl, ?_⟩)
          rcases hh with ⟨hw, hh⟩ | ⟨hw, h1, h2⟩
          · have hh2 : (if atP f E q = c then pWord f E L (q + 1) else (q, false)) = R := hh
            rw [if_neg (fun x => w1 ⟨hw, x⟩)] at hh2
            rw [← hh2]; exact ⟨rfl, rfl⟩
          · exact ⟨h1, h2⟩
  have e0 : zH z m = zH z (mS m 0 p) := by rw [mS_id h7 h5]
  refine r_entry mx126 rfl ?_
  refine r_pushI a126_0 ?_
  refine r_storeI_2 a126_1 rfl ?_
  rw [e0]
  refine loop wIce 0 0 p rfl (by omega) hp0.1 hp0.2 (fun i hi => ?_) (Or.inl ⟨rfl, hR⟩)
  have hi4 : i < 4 := hi
  have : i = 0 ∨ i = 1 ∨ i = 2 ∨ i = 3 := by omega
  rcases this with q | q | q | q <;> subst q <;> decide
theorem c_Mo_figures (d z : Nat) (m : XM) (f : Int → Int) (E A w p : Int) (hd : 1 ≤ d) (hI : MoS m f E A) (h7 : m 121 7 = w) (h5 : m 121 5 = p) (hw : w = 0 ∨ w = 1) : CI d k_Mo_figures z m [vR 121] (fun x m' => (w = 0 ∧ ∃ v q, pNum f E p = some (v, q) ∧ x = v ∧ m' = mS m 0 q) ∨ ((w = 1 ∨ pNum f E p = none) ∧ x = 0 ∧ m' = mS m 1 p)) := by
  obtain ⟨e, rfl⟩ : ∃ e, d = e + 1 := ⟨d - 1, by omega⟩
  have hb := hI.2.1
  have hp := hI.2.2.1
  rw [h5] at hp
  have l1 := @atP_lt f E p
  have l2 := @atP_lt f E (p + 1)
  have eD : ∀ c : Int, ixD c = if 48 ≤ c ∧ c ≤ 57 then c - 48 else -1 := fun c => rfl
  have hpn : pNum f E p = if ixD (atP f E p) = -1 then none else if ixD (atP f E p) = 0 then some (0, p + 1) else if ixD (atP f E (p + 1)) = -1 then some (ixD (atP f E p), p + 1) else some (10 * ixD (atP f E p) + ixD (atP f E (p + 1)), p + 2) := rfl
  obtain ⟨PO, hPO⟩ : ∃ PO : Int → XM → Prop, (fun x m' => (w = 0 ∧ ∃ v q, pNum f E p = some (v, q) ∧ x = v ∧ m' = mS m 0 q) ∨ ((w = 1 ∨ pNum f E p = none) ∧ x = 0 ∧ m' = mS m 1 p)) = PO := ⟨_, rfl⟩
  rw [hPO]
  have mk : ∀ (w q : Int) , up2 (mS m w p) 121 5 q = mS m w q := fun w q => by unfold mS; rw [up2_up2]
  have mk2 : ∀ (w p q : Int) , up2 (mS m w p) 121 5 q = mS m w q := fun w p q => by unfold mS; rw [up2_up2]
  -- wrong: nothing more
  have bad : (w = 1 ∨ pNum f E p = none) → ∀ y1 y2, RZ (e + 1) k_Mo_figures 27 [vR 121, y1, y2] [vI 1, vR 121] (zH z m) (qz z (qi PO)) := by
    intro hbad y1 y2
    have em : up2 m 121 7 1 = mS m 1 p := by unfold mS; rw [← h5]; exact (by rw [show m 121 5 = up2 m 121 7 1 121 5 by rw [up2_k (by decide)]]; exact (up2_id _ _ _).symm)
    refine r_putZ (ki := 7) a127_27 ty121 rfl (by omega) ?_
    rw [em]
    refine r_pushI a127_30 ?_
    refine r_storeI_1 a127_31 rfl ?_
    refine r_pushI a127_32 ?_
    refine r_storeI_2 a127_33 rfl ?_
    refine r_loadI a127_34 rfl ?_
    refine r_pushI a127_35 ?_
    refine r_icge a127_36 (fun h_36 => ?_) (fun h_36 => ?_)
    · exfalso
      omega
    · refine r_loadA a127_39 rfl (by decide) ?_
      refine r_getI (ki := 7) a127_40 ty121 rfl ?_
      rw [mS_7]
      refine r_ifne a127_43 (fun h_43 => ?_) (fun h_43 => ?_)
      · refine r_loadI a127_97 rfl ?_
        refine r_retIq a127_98 ?_
        rw [← hPO]
        exact Or.inr ⟨hbad, rfl, rfl⟩
      · exfalso
        omega
  -- the second figure
  have two : ∀ (v1 : Int), w = 0 → 48 ≤ atP f E p → atP f E p ≤ 57 → v1 = atP f E p - 48 → RZ (e + 1) k_Mo_figures 34 [vR 121, vI v1, vI 1] [] (zH z (mS m 0 (p + 1))) (qz z (qi PO)) := by
    intro v1 hw0 a1 a2 hv
    have hlt := l1 (by omega)
    have hS := MoS_mS (w := 0) hI (p := p + 1) (by omega)
    have d1 : ixD (atP f E p) = v1 := by rw [eD, if_pos ⟨a1, a2⟩]; exact hv.symm
    have last : ∀ (q v : Int), q = p + 2 → v = 10 * v1 + (atP f E (p + 1) - 48) → v1 ≠ 0 → 48 ≤ atP f E (p + 1) → atP f E (p + 1) ≤ 57 → RZ (e + 1) k_Mo_figures 34 [vR 121, vI v, vI 2] [] (zH z (mS m 0 q)) (qz z (qi PO)) := by
      intro q v hq hv2 hv0 b1 b2
      have d2 : ixD (atP f E (p + 1)) = atP f E (p + 1) - 48 := by rw [eD, if_pos ⟨b1, b2⟩]
      refine r_loadI a127_34 rfl ?_
      refine r_pushI a127_35 ?_
      refine r_icge a127_36 (fun h_36 => ?_) (fun h_36 => ?_)
      · refine r_loadI a127_97 rfl ?_
        refine r_retIq a127_98 ?_
        rw [← hPO]
        refine Or.inl ⟨hw0, v, q, ?_, rfl, rfl⟩
        rw [hpn, if_neg (by omega), if_neg (by omega), if_neg (by omega), d1, d2, hq, hv2]
      · exfalso
        omega
    refine r_loadI a127_34 rfl ?_
    refine r_pushI a127_35 ?_
    refine r_icge a127_36 (fun h_36 => ?_) (fun h_36 => ?_)
    · exfalso
      omega
    · refine r_loadA a127_39 rfl (by decide) ?_
      refine r_getI (ki := 7) a127_40 ty121 rfl ?_
      rw [mS_7]
      refine r_ifne a127_43 (fun h_43 => ?_) (fun h_43 => ?_)
      · exfalso
        omega
      · refine r_loadA a127_46 rfl (by decide) ?_
        refine r_callI_1 a127_47 (Nat.le_of_ble_eq_true rfl) (le_mx mx124 (Nat.le_of_ble_eq_true rfl)) (Or.inr (recv_ok ty121 ow124 (by decide))) (c_Mo_here e z _ f E A hS) (fun x_47 m_47 h_47 => ?_)
        obtain ⟨hm_47, h_47⟩ := h_47
        rw [hm_47]
        rw [mS_5] at h_47
        refine r_pushI a127_50 ?_
        refine r_pushI a127_52 ?_
        refine r_callI_3 a127_54 (Nat.le_of_ble_eq_true rfl) (le_mx mx119 (Nat.le_of_ble_eq_true rfl)) (Or.inl rfl) (c_Mo_in e z _ x_47 48 57) (fun x_54 m_54 h_54 => ?_)
        obtain ⟨hm_54, h_54⟩ := h_54
        rw [hm_54]
        refine r_ifeq a127_57 (fun h_57 => ?_) (fun h_57 => ?_)
        · refine r_loadI a127_97 rfl ?_
          refine r_retIq a127_98 ?_
          rw [← hPO]
          refine Or.inl ⟨hw0, v1, p + 1, ?_, rfl, rfl⟩
          rw [hpn, if_neg (by omega), d1]
          by_cases hv0 : v1 = 0
          · rw [if_pos hv0, hv0]
          · first
              | (exfalso; omega)
              | (rw [if_neg hv0, if_pos (by rw [eD, if_neg (by omega)])])
        · refine r_loadI a127_60 rfl ?_
          refine r_ifeq a127_61 (fun h_61 => ?_) (fun h_61 => ?_)
          · exfalso
            omega
          · refine r_loadI a127_64 rfl ?_
            refine r_ifle a127_65 (fun h_65 => ?_) (fun h_65 => ?_)
            · refine r_loadI a127_97 rfl ?_
              refine r_retIq a127_98 ?_
              rw [← hPO]
              refine Or.inl ⟨hw0, v1, p + 1, ?_, rfl, rfl⟩
              rw [hpn, if_neg (by omega), d1]
              by_cases hv0 : v1 = 0
              · rw [if_pos hv0, hv0]
              · first
                  | (exfalso; omega)
                  | (rw [if_neg hv0, if_pos (by rw [eD, if_neg (by omega)])])
            · refine r_pushI a127_68 ?_
              refine r_loadI a127_70 rfl ?_
              refine r_mul a127_71 (by omega) ?_
              refine r_loadA a127_72 rfl (by decide) ?_
              refine r_callI_1 a127_73 (Nat.le_of_ble_eq_true rfl) (le_mx mx124 (Nat.le_of_ble_eq_true rfl)) (Or.inr (recv_ok ty121 ow124 (by decide))) (c_Mo_here e z _ f E A hS) (fun x_73 m_73 h_73 => ?_)
              obtain ⟨hm_73, h_73⟩ := h_73
              rw [hm_73]
              rw [mS_5] at h_73
              refine r_add a127_76 (by omega) ?_
              refine r_pushI a127_77 ?_
              refine r_sub a127_79 (by omega) ?_
              refine r_storeI_1 a127_80 rfl ?_
              refine r_loadA a127_81 rfl (by decide) ?_
              refine r_dup a127_82 rfl ?_
              refine r_getI (ki := 5) a127_83 ty121 rfl ?_
              rw [mS_5]
              refine r_pushI a127_86 ?_
              refine r_add a127_87 (by omega) ?_
              refine r_putI (ki := 5) a127_88 ty121 rfl ?_
              have hlt2 := l2 (by omega)
              rw [mk2]
              refine r_iinc_2 a127_91 rfl (by omega) ?_
              refine r_goto a127_94 ?_
              exact last _ _ (by omega) (by omega) (by omega) (by omega) (by omega)
  have good : w = 0 → 48 ≤ atP f E p → atP f E p ≤ 57 → ∀ y1 y2, RZ (e + 1) k_Mo_figures 27 [vR 121, y1, y2] [vI 0, vR 121] (zH z m) (qz z (qi PO)) := by
    intro hw0 a1 a2 y1 y2
    have em : up2 m 121 7 0 = mS m 0 p := by rw [mS_id (by omega) h5, ← hw0, ← h7, up2_id]
    have hlt := l1 (by omega)
    have hS := MoS_mS (w := 0) hI (p := p) hp
    refine r_putZ (ki := 7) a127_27 ty121 rfl (by omega) ?_
    rw [em]
    refine r_pushI a127_30 ?_
    refine r_storeI_1 a127_31 rfl ?_
    refine r_pushI a127_32 ?_
    refine r_storeI_2 a127_33 rfl ?_
    refine r_loadI a127_34 rfl ?_
    refine r_pushI a127_35 ?_
    refine r_icge a127_36 (fun h_36 => ?_) (fun h_36 => ?_)
    · exfalso
      omega
    · refine r_loadA a127_39 rfl (by decide) ?_
      refine r_getI (ki := 7) a127_40 ty121 rfl ?_
      rw [mS_7]
      refine r_ifne a127_43 (fun h_43 => ?_) (fun h_43 => ?_)
      · exfalso
        omega
      · refine r_loadA a127_46 rfl (by decide) ?_
        refine r_callI_1 a127_47 (Nat.le_of_ble_eq_true rfl) (le_mx mx124 (Nat.le_of_ble_eq_true rfl)) (Or.inr (recv_ok ty121 ow124 (by decide))) (c_Mo_here e z _ f E A hS) (fun x_47 m_47 h_47 => ?_)
        obtain ⟨hm_47, h_47⟩ := h_47
        rw [hm_47]
        rw [mS_5] at h_47
        refine r_pushI a127_50 ?_
        refine r_pushI a127_52 ?_
        refine r_callI_3 a127_54 (Nat.le_of_ble_eq_true rfl) (le_mx mx119 (Nat.le_of_ble_eq_true rfl)) (Or.inl rfl) (c_Mo_in e z _ x_47 48 57) (fun x_54 m_54 h_54 => ?_)
        obtain ⟨hm_54, h_54⟩ := h_54
        rw [hm_54]
        refine r_ifeq a127_57 (fun h_57 => ?_) (fun h_57 => ?_)
        · exfalso
          omega
        · refine r_loadI a127_60 rfl ?_
          refine r_ifeq a127_61 (fun h_61 => ?_) (fun h_61 => ?_)
          · refine r_pushI a127_68 ?_
            refine r_loadI a127_70 rfl ?_
            refine r_mul a127_71 (by omega) ?_
            refine r_loadA a127_72 rfl (by decide) ?_
            refine r_callI_1 a127_73 (Nat.le_of_ble_eq_true rfl) (le_mx mx124 (Nat.le_of_ble_eq_true rfl)) (Or.inr (recv_ok ty121 ow124 (by decide))) (c_Mo_here e z _ f E A hS) (fun x_73 m_73 h_73 => ?_)
            obtain ⟨hm_73, h_73⟩ := h_73
            rw [hm_73]
            rw [mS_5] at h_73
            refine r_add a127_76 (by omega) ?_
            refine r_pushI a127_77 ?_
            refine r_sub a127_79 (by omega) ?_
            refine r_storeI_1 a127_80 rfl ?_
            refine r_loadA a127_81 rfl (by decide) ?_
            refine r_dup a127_82 rfl ?_
            refine r_getI (ki := 5) a127_83 ty121 rfl ?_
            rw [mS_5]
            refine r_pushI a127_86 ?_
            refine r_add a127_87 (by omega) ?_
            refine r_putI (ki := 5) a127_88 ty121 rfl ?_
            rw [mk2]
            refine r_iinc_2 a127_91 rfl (by omega) ?_
            refine r_goto a127_94 ?_
            exact two _ hw0 a1 a2 (by omega)
          · exfalso
            omega
  refine r_entry mx127 rfl ?_
  refine r_loadA a127_0 rfl (by decide) ?_
  refine r_loadA a127_1 rfl (by decide) ?_
  refine r_getI (ki := 7) a127_2 ty121 rfl ?_
  rw [h7]
  refine r_ifne a127_5 (fun h_5 => ?_) (fun h_5 => ?_)
  · refine r_pushI a127_22 ?_
    refine r_goto a127_23 ?_
    first
      | exact good (by omega) (by omega) (by omega) _ _
      | (refine bad ?_ _ _
         first
           | (left; omega)
           | (right; rw [hpn, if_pos (by rw [eD, if_neg (by omega)])]))
  · refine r_loadA a127_8 rfl (by decide) ?_
    refine r_callI_1 a127_9 (Nat.le_of_ble_eq_true rfl) (le_mx mx124 (Nat.le_of_ble_eq_true rfl)) (Or.inr (recv_ok ty121 ow124 (by decide))) (c_Mo_here e z m f E A hI) (fun x_9 m_9 h_9 => ?_)
    obtain ⟨hm_9, h_9⟩ := h_9
    rw [hm_9]
    rw [h5] at h_9
    refine r_pushI a127_12 ?_
    refine r_pushI a127_14 ?_
    refine r_callI_3 a127_16 (Nat.le_of_ble_eq_true rfl) (le_mx mx119 (Nat.le_of_ble_eq_true rfl)) (Or.inl rfl) (c_Mo_in e z m x_9 48 57) (fun x_16 m_16 h_16 => ?_)
    obtain ⟨hm_16, h_16⟩ := h_16
    rw [hm_16]
    refine r_ifne a127_19 (fun h_19 => ?_) (fun h_19 => ?_)
    · refine r_pushI a127_26 ?_
      first
        | exact good (by omega) (by omega) (by omega) _ _
        | (refine bad ?_ _ _
           first
             | (left; omega)
             | (right; rw [hpn, if_pos (by rw [eD, if_neg (by omega)])]))
    · refine r_pushI a127_22 ?_
      refine r_goto a127_23 ?_
      first
        | exact good (by omega) (by omega) (by omega) _ _
        | (refine bad ?_ _ _
           first
             | (left; omega)
             | (right; rw [hpn, if_pos (by rw [eD, if_neg (by omega)])]))
theorem fy_16 (c : Int) : firstI (fun j => decide (zTab 29 j = c)) (-1) 6 0 = ixW c := by
  rw [← fx_11]; rfl
theorem c_Mo_among_16 (d z : Nat) (m : XM) (f : Int → Int) (E A p : Int) (hd : 4 ≤ d) (hI : MoS m f E A) (h7 : m 121 7 = 0) (h5 : m 121 5 = p) : CI d k_Mo_among z m [vR 121, vR 16] (fun x m' => x = ixW (atP f E p) ∧ ((0 ≤ x ∧ m' = mS m 0 (p + 1)) ∨ (x = -1 ∧ m' = m))) := by
  obtain ⟨e, rfl⟩ : ∃ e, d = e + 1 := ⟨d - 1, by omega⟩
  have hb := hI.2.1
  have hp := hI.2.2.1
  rw [h5] at hp
  have hr := ixW_r (atP f E p)
  have loop : ∀ (k : Nat) (j : Int), j + k = 6 → 0 ≤ j → firstI (fun j => decide (zTab 29 j = atP f E p)) (-1) k j = ixW (atP f E p) →
      RZ (e + 1) k_Mo_among 2 [vR 121, vR 16, vI j] [] (zH z m) (qz z (qi fun x m' => x = ixW (atP f E p) ∧ ((0 ≤ x ∧ m' = mS m 0 (p + 1)) ∨ (x = -1 ∧ m' = m)))) := by
    intro k
    induction k with
    | zero =>
      intro j hj h0 hf
      have hf2 : (-1 : Int) = ixW (atP f E p) := hf
      refine r_loadI a128_2 rfl ?_
      refine r_loadA a128_3 rfl (by decide) ?_
      refine r_callI_1 a128_4 (Nat.le_of_ble_eq_true rfl) (le_mx mx209 (Nat.le_of_ble_eq_true rfl)) (Or.inr (recv_str ow209 (by omega) (by omega))) (c_J0_length_16 e z _ (by omega)) (fun x_4 m_4 h_4 => ?_)
      obtain ⟨hm_4, h_4⟩ := h_4
      rw [hm_4]
      refine r_icge a128_7 (fun h_7 => ?_) (fun h_7 => ?_)
      · refine r_pushI a128_40 ?_
        refine r_retIq a128_41 ?_
        exact ⟨hf2, Or.inr ⟨rfl, rfl⟩⟩
      · exfalso
        omega
    | succ k ih =>
      intro j hj h0 hf
      have hf2 : (if decide (zTab 29 j = atP f E p) = true then j else firstI (fun j => decide (zTab 29 j = atP f E p)) (-1) k (j + 1)) = ixW (atP f E p) := hf
      have zr := (zTab_29 (i := j) ⟨h0, by omega⟩).2
      refine r_loadI a128_2 rfl ?_
      refine r_loadA a128_3 rfl (by decide) ?_
      refine r_callI_1 a128_4 (Nat.le_of_ble_eq_true rfl) (le_mx mx209 (Nat.le_of_ble_eq_true rfl)) (Or.inr (recv_str ow209 (by omega) (by omega))) (c_J0_length_16 e z _ (by omega)) (fun x_4 m_4 h_4 => ?_)
      obtain ⟨hm_4, h_4⟩ := h_4
      rw [hm_4]
      refine r_icge a128_7 (fun h_7 => ?_) (fun h_7 => ?_)
      · exfalso
        omega
      · refine r_loadA a128_10 rfl (by decide) ?_
        refine r_callI_1 a128_11 (Nat.le_of_ble_eq_true rfl) (le_mx mx124 (Nat.le_of_ble_eq_true rfl)) (Or.inr (recv_ok ty121 ow124 (by decide))) (c_Mo_here e z _ f E A hI) (fun x_11 m_11 h_11 => ?_)
        obtain ⟨hm_11, h_11⟩ := h_11
        rw [hm_11]
        rw [h5] at h_11
        refine r_loadA a128_14 rfl (by decide) ?_
        refine r_loadI a128_15 rfl ?_
        refine r_callI_2 a128_16 (Nat.le_of_ble_eq_true rfl) (le_mx mx210 (Nat.le_of_ble_eq_true rfl)) (Or.inr (recv_str ow210 (by omega) (by omega))) (c_J0_charAt_16 e z _ j (by omega) ⟨h0, by omega⟩) (fun x_16 m_16 h_16 => ?_)
        obtain ⟨hm_16, h_16⟩ := h_16
        rw [hm_16]
        refine r_icne a128_19 (fun h_19 => ?_) (fun h_19 => ?_)
        · have hc : ¬ zTab 29 j = atP f E p := by
            have e16 : x_16 = zTab 29 j := h_16
            omega
          rw [if_neg (by rw [decide_eq_true_iff]; exact hc)] at hf2
          refine r_iinc_2 a128_34 rfl (by omega) ?_
          refine r_goto a128_37 ?_
          exact ih (j + 1) (by omega) (by omega) hf2
        · refine r_loadA a128_22 rfl (by decide) ?_
          refine r_dup a128_23 rfl ?_
          refine r_getI (ki := 5) a128_24 ty121 rfl ?_
          refine r_pushI a128_27 ?_
          rw [h5]
          refine r_add a128_28 (by omega) ?_
          refine r_putI (ki := 5) a128_29 ty121 rfl ?_
          refine r_loadI a128_32 rfl ?_
          refine r_retIq a128_33 ?_
          have hc : zTab 29 j = atP f E p := by
            have e16 : x_16 = zTab 29 j := h_16
            omega
          have hlt := @atP_lt f E p (by omega)
          rw [if_pos (by rw [decide_eq_true_iff]; exact hc)] at hf2
          refine ⟨hf2, Or.inl ⟨h0, ?_⟩⟩
          unfold mS
          have : up2 m 121 7 0 = m := by rw [← h7, up2_id]
          rw [this]
  refine r_entry mx128 rfl ?_
  refine r_pushI a128_0 ?_
  refine r_storeI_2 a128_1 rfl ?_
  exact loop 6 0 (by omega) (by omega) (fy_16 _)
theorem fy_17 (c : Int) : firstI (fun j => decide (zTab 30 j = c)) (-1) 3 0 = ixH c := by
  rw [← fx_12]; rfl
theorem c_Mo_among_17 (d z : Nat) (m : XM) (f : Int → Int) (E A p : Int) (hd : 4 ≤ d) (hI : MoS m f E A) (h7 : m 121 7 = 0) (h5 : m 121 5 = p) : CI d k_Mo_among z m [vR 121, vR 17] (fun x m' => x = ixH (atP f E p) ∧ ((0 ≤ x ∧ m' = mS m 0 (p + 1)) ∨ (x = -1 ∧ m' = m))) := by
  obtain ⟨e, rfl⟩ : ∃ e, d = e + 1 := ⟨d - 1, by omega⟩
  have hb := hI.2.1
  have hp := hI.2.2.1
  rw [h5] at hp
  have hr := ixH_r (atP f E p)
  have loop : ∀ (k : Nat) (j : Int), j + k = 3 → 0 ≤ j → firstI (fun j => decide (zTab 30 j = atP f E p)) (-1) k j = ixH (atP f E p) →
      RZ (e + 1) k_Mo_among 2 [vR 121, vR 17, vI j] [] (zH z m) (qz z (qi fun x m' => x = ixH (atP f E p) ∧ ((0 ≤ x ∧ m' = mS m 0 (p + 1)) ∨ (x = -1 ∧ m' = m)))) := by
    intro k
    induction k with
    | zero =>
      intro j hj h0 hf
      have hf2 : (-1 : Int) = ixH (atP f E p) := hf
      refine r_loadI a128_2 rfl ?_
      refine r_loadA a128_3 rfl (by decide) ?_
      refine r_callI_1 a128_4 (Nat.le_of_ble_eq_true rfl) (le_mx mx209 (Nat.le_of_ble_eq_true rfl)) (Or.inr (recv_str ow209 (by omega) (by omega))) (c_J0_length_17 e z _ (by omega)) (fun x_4 m_4 h_4 => ?_)
      obtain ⟨hm_4, h_4⟩ := h_4
      rw [hm_4]
      refine r_icge a128_7 (fun h_7 => ?_) (fun h_7 => ?_)
      · refine r_pushI a128_40 ?_
        refine r_retIq a128_41 ?_
        exact ⟨hf2, Or.inr ⟨rfl, rfl⟩⟩
      · exfalso
        omega
    | succ k ih =>
      intro j hj h0 hf
      have hf2 : (if decide (zTab 30 j = atP f E p) = true then j else firstI (fun j => decide (zTab 30 j = atP f E p)) (-1) k (j + 1)) = ixH (atP f E p) := hf
      have zr := (zTab_30 (i := j) ⟨h0, by omega⟩).2
      refine r_loadI a128_2 rfl ?_
      refine r_loadA a128_3 rfl (by decide) ?_
      refine r_callI_1 a128_4 (Nat.le_of_ble_eq_true rfl) (le_mx mx209 (Nat.le_of_ble_eq_true rfl)) (Or.inr (recv_str ow209 (by omega) (by omega))) (c_J0_length_17 e z _ (by omega)) (fun x_4 m_4 h_4 => ?_)
      obtain ⟨hm_4, h_4⟩ := h_4
      rw [hm_4]
      refine r_icge a128_7 (fun h_7 => ?_) (fun h_7 => ?_)
      · exfalso
        omega
      · refine r_loadA a128_10 rfl (by decide) ?_
        refine r_callI_1 a128_11 (Nat.le_of_ble_eq_true rfl) (le_mx mx124 (Nat.le_of_ble_eq_true rfl)) (Or.inr (recv_ok ty121 ow124 (by decide))) (c_Mo_here e z _ f E A hI) (fun x_11 m_11 h_11 => ?_)
        obtain ⟨hm_11, h_11⟩ := h_11
        rw [hm_11]
        rw [h5] at h_11
        refine r_loadA a128_14 rfl (by decide) ?_
        refine r_loadI a128_15 rfl ?_
        refine r_callI_2 a128_16 (Nat.le_of_ble_eq_true rfl) (le_mx mx210 (Nat.le_of_ble_eq_true rfl)) (Or.inr (recv_str ow210 (by omega) (by omega))) (c_J0_charAt_17 e z _ j (by omega) ⟨h0, by omega⟩) (fun x_16 m_16 h_16 => ?_)
        obtain ⟨hm_16, h_16⟩ := h_16
        rw [hm_16]
        refine r_icne a128_19 (fun h_19 => ?_) (fun h_19 => ?_)
        · have hc : ¬ zTab 30 j = atP f E p := by
            have e16 : x_16 = zTab 30 j := h_16
            omega
          rw [if_neg (by rw [decide_eq_true_iff]; exact hc)] at hf2
          refine r_iinc_2 a128_34 rfl (by omega) ?_
          refine r_goto a128_37 ?_
          exact ih (j + 1) (by omega) (by omega) hf2
        · refine r_loadA a128_22 rfl (by decide) ?_
          refine r_dup a128_23 rfl ?_
          refine r_getI (ki := 5) a128_24 ty121 rfl ?_
          refine r_pushI a128_27 ?_
          rw [h5]
          refine r_add a128_28 (by omega) ?_
          refine r_putI (ki := 5) a128_29 ty121 rfl ?_
          refine r_loadI a128_32 rfl ?_
          refine r_retIq a128_33 ?_
          have hc : zTab 30 j = atP f E p := by
            have e16 : x_16 = zTab 30 j := h_16
            omega
          have hlt := @atP_lt f E p (by omega)
          rw [if_pos (by rw [decide_eq_true_iff]; exact hc)] at hf2
          refine ⟨hf2, Or.inl ⟨h0, ?_⟩⟩
          unfold mS
          have : up2 m 121 7 0 = m := by rw [← h7, up2_id]
          rw [this]
  refine r_entry mx128 rfl ?_
  refine r_pushI a128_0 ?_
  refine r_storeI_2 a128_1 rfl ?_
  exact loop 3 0 (by omega) (by omega) (fy_17 _)
