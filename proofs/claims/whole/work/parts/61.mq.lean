-- ===== the reference: its answers by loops =====
theorem FrR_138 {m m' : XM} (h : FrR m m') : m' 138 = m 138 := h.1 138 (by decide) (by decide)
theorem c_Mo_quickQ (d z : Nat) (m : XM) (s : Int → Int) (cl : CLs) (k : Int) (hd : 17 ≤ d) (hC : CpM m s cl) (hk : sk s k) :
    CV d k_Mo_runsQuickest z m [vR 121, vI k] (fun m' => KM m m' ∧ m' 138 = m 138 ∧ m' 121 28 = qT s cl k (lQ s cl k (s 7) 1) (s 0).toNat ∧ m' 121 31 = qU s cl k (lQ s cl k (s 7) 1) (s 0).toNat ∧ ∀ i, 0 ≤ i → i < s 0 → m' 132 i = qTk s cl k (lQ s cl k (s 7) 1) i) :=
  (c_Mo_runsQuickest d z m s cl k 1 hd (CpM_A hC hk (CpM_7 hC) (by omega)) hC.1 (CpM_16 hC)).imp fun m' ⟨h1, _, h3⟩ => by
    obtain ⟨a, _, _, b, c⟩ := RnS_q h3
    exact ⟨FrR_KM h1, FrR_138 h1, a, b, fun i x y => (c i x y).1⟩
theorem c_Mo_loses (d z : Nat) (m : XM) (s : Int → Int) (cl : CLs) (a b p : Int) (hd : 18 ≤ d) (hC : CpM m s cl) :
    CI d k_Mo_loses z m [vR 121, vI a, vI b, vI p] (fun x m' => KM m m' ∧ x = aLoses s cl a b p) := by
  obtain ⟨e, rfl⟩ : ∃ e, d = e + 1 := ⟨d - 1, by omega⟩
  have hN := hC.2.1.1.1
  have r7 := CpM_7 hC
  have tr := fun (k i : Int) (i1 : 0 ≤ i) (i2 : i < s 0) => qTk_r (k := k) hC.2.1 (CpM_e hC).1 (CpM_e hC).2 (lQ_e (k := k) (w := 1) hC.2.1 (CpM_e hC).1 (CpM_e hC).2 r7) i1 i2
  have loop : ∀ (c j : Nat) (m1 : XM) (i4 : Int) (y7 : XV), (j : Int) + c = s 0 → KM m m1 → sk s a → sk s b → (0 ≤ p ∧ p ≤ 1) → a ≠ b → (∀ i, 0 ≤ i → i < s 0 → m1 138 i = qTk s cl a (lQ s cl a (s 7) 1) i) → (∀ i, 0 ≤ i → i < s 0 → m1 132 i = qTk s cl b (lQ s cl b (s 7) 1) i) →
      i4 = (if (losI s cl a b j).1 < 0 then -5 else (losI s cl a b j).1) →
      RZ (e + 1) k_Mo_loses 89 [vR 121, vI a, vI b, vI p, vI i4, vI (losI s cl a b j).2, vI (j : Int), y7] [] (zH z m1) (qz z (qi fun x m' => KM m m' ∧ x = aLoses s cl a b p)) := by
    intro c
    induction c with
    | zero =>
      intro j m1 i4 y7 hj kc ha hb hp hab t1 t2 hi4
      have ej : (s 0).toNat = j := by omega
      have f122 : m1 122 = s := (CpM_K kc hC).1
      have hr := losI_r s cl a b j
      have hw : aLoses s cl a b p = if (losI s cl a b j).1 < 0 then -5 else if p = 0 then (losI s cl a b j).1 else (losI s cl a b j).2 := by
        unfold aLoses; rw [if_neg (fun q => q ⟨ha, hb, hp⟩), if_neg hab, ej]
      by_cases hneg : (losI s cl a b j).1 < 0
      · rw [if_pos hneg] at hi4 hw
        refine r_loadI a180_89 rfl ?_
        refine r_loadA a180_91 rfl (by decide) ?_
        refine r_getR a180_92 ty121 rf121_1 (by decide) ?_
        refine r_pushI a180_95 ?_
        refine r_iald a180_96 ty122 (by omega) ?_
        rw [f122]
        refine r_icge a180_97 (fun h_97 => ?_) (fun h_97 => ?_)
        · refine r_loadI a180_155 rfl ?_
          refine r_ifeq a180_156 (fun h_156 => ?_) (fun h_156 => ?_)
          · refine r_loadI a180_166 rfl ?_
            refine r_goto a180_168 ?_
            refine r_retIq a180_173 ?_
            exact ⟨kc, by omega⟩
          · refine r_loadI a180_159 rfl ?_
            refine r_pushI a180_161 ?_
            refine r_icne a180_163 (fun h_163 => ?_) (fun h_163 => ?_)
            · refine r_loadI a180_171 rfl ?_
              refine r_retIq a180_173 ?_
              exact ⟨kc, by omega⟩
            · refine r_loadI a180_166 rfl ?_
              refine r_goto a180_168 ?_
              refine r_retIq a180_173 ?_
              exact ⟨kc, by omega⟩
        · exfalso
          omega
      · rw [if_neg hneg] at hi4 hw
        refine r_loadI a180_89 rfl ?_
        refine r_loadA a180_91 rfl (by decide) ?_
        refine r_getR a180_92 ty121 rf121_1 (by decide) ?_
        refine r_pushI a180_95 ?_
        refine r_iald a180_96 ty122 (by omega) ?_
        rw [f122]
        refine r_icge a180_97 (fun h_97 => ?_) (fun h_97 => ?_)
        · refine r_loadI a180_155 rfl ?_
          refine r_ifeq a180_156 (fun h_156 => ?_) (fun h_156 => ?_)
          · refine r_loadI a180_166 rfl ?_
            refine r_goto a180_168 ?_
            refine r_retIq a180_173 ?_
            refine ⟨kc, ?_⟩
            rw [hw]
            first
              | (rw [if_pos (by omega)]; omega)
              | (rw [if_neg (by omega)])
          · refine r_loadI a180_159 rfl ?_
            refine r_pushI a180_161 ?_
            refine r_icne a180_163 (fun h_163 => ?_) (fun h_163 => ?_)
            · refine r_loadI a180_171 rfl ?_
              refine r_retIq a180_173 ?_
              refine ⟨kc, ?_⟩
              rw [hw]
              first
                | (rw [if_pos (by omega)]; omega)
                | (rw [if_neg (by omega)])
            · refine r_loadI a180_166 rfl ?_
              refine r_goto a180_168 ?_
              refine r_retIq a180_173 ?_
              refine ⟨kc, ?_⟩
              rw [hw]
              first
                | (rw [if_pos (by omega)]; omega)
                | (rw [if_neg (by omega)])
        · exfalso
          omega
    | succ c ih =>
      intro j m1 i4 y7 hj kc ha hb hp hab t1 t2 hi4
      have f122 : m1 122 = s := (CpM_K kc hC).1
      have r1 := tr a j (by omega) (by omega)
      have r2 := tr b j (by omega) (by omega)
      have u1 := t1 j (by omega) (by omega)
      have u2 := t2 j (by omega) (by omega)
      have eS : losI s cl a b (j + 1) = if qTk s cl a (lQ s cl a (s 7) 1) j - qTk s cl b (lQ s cl b (s 7) 1) j > (losI s cl a b j).2 then ((j : Int), qTk s cl a (lQ s cl a (s 7) 1) j - qTk s cl b (lQ s cl b (s 7) 1) j) else losI s cl a b j := rfl
      refine r_loadI a180_89 rfl ?_
      refine r_loadA a180_91 rfl (by decide) ?_
      refine r_getR a180_92 ty121 rf121_1 (by decide) ?_
      refine r_pushI a180_95 ?_
      refine r_iald a180_96 ty122 (by omega) ?_
      rw [f122]
      refine r_icge a180_97 (fun h_97 => ?_) (fun h_97 => ?_)
      · exfalso
        omega
      · refine r_loadA a180_100 rfl (by decide) ?_
        refine r_getR a180_101 ty121 rf121_40 (by decide) ?_
        refine r_loadI a180_104 rfl ?_
        refine r_iald a180_106 ty138 (by omega) ?_
        rw [u1]
        refine r_loadA a180_107 rfl (by decide) ?_
        refine r_getR a180_108 ty121 rf121_25 (by decide) ?_
        refine r_loadI a180_111 rfl ?_
        refine r_iald a180_113 ty132 (by omega) ?_
        rw [u2]
        refine r_sub a180_114 (by omega) ?_
        refine r_storeI_7 a180_115 rfl ?_
        refine r_loadI a180_117 rfl ?_
        refine r_loadI a180_119 rfl ?_
        refine r_icle a180_121 (fun h_121 => ?_) (fun h_121 => ?_)
        · refine r_loadI a180_129 rfl ?_
          refine r_storeI_4 a180_131 rfl ?_
          refine r_loadI a180_133 rfl ?_
          refine r_loadI a180_135 rfl ?_
          refine r_icle a180_137 (fun h_137 => ?_) (fun h_137 => ?_)
          · refine r_loadI a180_145 rfl ?_
            refine r_storeI_5 a180_147 rfl ?_
            refine r_iinc_6 a180_149 rfl (by omega) ?_
            refine r_goto a180_152 ?_
            by_cases hcd : qTk s cl a (lQ s cl a (s 7) 1) j - qTk s cl b (lQ s cl b (s 7) 1) j > (losI s cl a b j).2
            · rw [if_pos hcd] at eS
              first
                | (exfalso; omega)
                | (have q := ih (j + 1) m1 (j : Int) (vI (qTk s cl a (lQ s cl a (s 7) 1) j - qTk s cl b (lQ s cl b (s 7) 1) j)) (by push_cast; omega) kc ha hb hp hab t1 t2 (by rw [eS]; show (j : Int) = if (j : Int) < 0 then -5 else (j : Int); rw [if_neg (by omega)])
                   rw [eS] at q; exact q)
            · rw [if_neg hcd] at eS
              first
                | (exfalso; omega)
                | (have q := ih (j + 1) m1 i4 (vI (qTk s cl a (lQ s cl a (s 7) 1) j - qTk s cl b (lQ s cl b (s 7) 1) j)) (by push_cast; omega) kc ha hb hp hab t1 t2 (by rw [eS]; exact hi4)
                   rw [eS] at q; exact q)
          · refine r_loadI a180_140 rfl ?_
            refine r_goto a180_142 ?_
            refine r_storeI_5 a180_147 rfl ?_
            refine r_iinc_6 a180_149 rfl (by omega) ?_
            refine r_goto a180_152 ?_
            by_cases hcd : qTk s cl a (lQ s cl a (s 7) 1) j - qTk s cl b (lQ s cl b (s 7) 1) j > (losI s cl a b j).2
            · rw [if_pos hcd] at eS
              first
                | (exfalso; omega)
                | (have q := ih (j + 1) m1 (j : Int) (vI (qTk s cl a (lQ s cl a (s 7) 1) j - qTk s cl b (lQ s cl b (s 7) 1) j)) (by push_cast; omega) kc ha hb hp hab t1 t2 (by rw [eS]; show (j : Int) = if (j : Int) < 0 then -5 else (j : Int); rw [if_neg (by omega)])
                   rw [eS] at q; exact q)
            · rw [if_neg hcd] at eS
              first
                | (exfalso; omega)
                | (have q := ih (j + 1) m1 i4 (vI (qTk s cl a (lQ s cl a (s 7) 1) j - qTk s cl b (lQ s cl b (s 7) 1) j)) (by push_cast; omega) kc ha hb hp hab t1 t2 (by rw [eS]; exact hi4)
                   rw [eS] at q; exact q)
        · refine r_loadI a180_124 rfl ?_
          refine r_goto a180_126 ?_
          refine r_storeI_4 a180_131 rfl ?_
          refine r_loadI a180_133 rfl ?_
          refine r_loadI a180_135 rfl ?_
          refine r_icle a180_137 (fun h_137 => ?_) (fun h_137 => ?_)
          · refine r_loadI a180_145 rfl ?_
            refine r_storeI_5 a180_147 rfl ?_
            refine r_iinc_6 a180_149 rfl (by omega) ?_
            refine r_goto a180_152 ?_
            by_cases hcd : qTk s cl a (lQ s cl a (s 7) 1) j - qTk s cl b (lQ s cl b (s 7) 1) j > (losI s cl a b j).2
            · rw [if_pos hcd] at eS
              first
                | (exfalso; omega)
                | (have q := ih (j + 1) m1 (j : Int) (vI (qTk s cl a (lQ s cl a (s 7) 1) j - qTk s cl b (lQ s cl b (s 7) 1) j)) (by push_cast; omega) kc ha hb hp hab t1 t2 (by rw [eS]; show (j : Int) = if (j : Int) < 0 then -5 else (j : Int); rw [if_neg (by omega)])
                   rw [eS] at q; exact q)
            · rw [if_neg hcd] at eS
              first
                | (exfalso; omega)
                | (have q := ih (j + 1) m1 i4 (vI (qTk s cl a (lQ s cl a (s 7) 1) j - qTk s cl b (lQ s cl b (s 7) 1) j)) (by push_cast; omega) kc ha hb hp hab t1 t2 (by rw [eS]; exact hi4)
                   rw [eS] at q; exact q)
          · refine r_loadI a180_140 rfl ?_
            refine r_goto a180_142 ?_
            refine r_storeI_5 a180_147 rfl ?_
            refine r_iinc_6 a180_149 rfl (by omega) ?_
            refine r_goto a180_152 ?_
            by_cases hcd : qTk s cl a (lQ s cl a (s 7) 1) j - qTk s cl b (lQ s cl b (s 7) 1) j > (losI s cl a b j).2
            · rw [if_pos hcd] at eS
              first
                | (exfalso; omega)
                | (have q := ih (j + 1) m1 (j : Int) (vI (qTk s cl a (lQ s cl a (s 7) 1) j - qTk s cl b (lQ s cl b (s 7) 1) j)) (by push_cast; omega) kc ha hb hp hab t1 t2 (by rw [eS]; show (j : Int) = if (j : Int) < 0 then -5 else (j : Int); rw [if_neg (by omega)])
                   rw [eS] at q; exact q)
            · rw [if_neg hcd] at eS
              first
                | (exfalso; omega)
                | (have q := ih (j + 1) m1 i4 (vI (qTk s cl a (lQ s cl a (s 7) 1) j - qTk s cl b (lQ s cl b (s 7) 1) j)) (by push_cast; omega) kc ha hb hp hab t1 t2 (by rw [eS]; exact hi4)
                   rw [eS] at q; exact q)
  have cpy : ∀ (c : Nat) (j : Int) (m1 : XM) (y5 y6 y7 : XV), j + c = s 0 → 0 ≤ j → KM m m1 → sk s a → sk s b → (0 ≤ p ∧ p ≤ 1) → a ≠ b → (∀ i, 0 ≤ i → i < s 0 → m1 132 i = qTk s cl a (lQ s cl a (s 7) 1) i) → (∀ i, 0 ≤ i → i < j → m1 138 i = qTk s cl a (lQ s cl a (s 7) 1) i) →
      RZ (e + 1) k_Mo_loses 43 [vR 121, vI a, vI b, vI p, vI j, y5, y6, y7] [] (zH z m1) (qz z (qi fun x m' => KM m m' ∧ x = aLoses s cl a b p)) := by
    intro c
    induction c with
    | zero =>
      intro j m1 y5 y6 y7 hj h0 kc ha hb hp hab t1 t2
      have f122 : m1 122 = s := (CpM_K kc hC).1
      refine r_loadI a180_43 rfl ?_
      refine r_loadA a180_45 rfl (by decide) ?_
      refine r_getR a180_46 ty121 rf121_1 (by decide) ?_
      refine r_pushI a180_49 ?_
      refine r_iald a180_50 ty122 (by omega) ?_
      rw [f122]
      refine r_icge a180_51 (fun h_51 => ?_) (fun h_51 => ?_)
      · refine r_loadA a180_74 rfl (by decide) ?_
        refine r_loadI a180_75 rfl ?_
        refine r_callV_2 a180_76 (Nat.le_of_ble_eq_true rfl) (le_mx mx179 (Nat.le_of_ble_eq_true rfl)) (Or.inr (recv_ok ty121 ow179 (by decide))) (c_Mo_quickQ e z m1 s cl b (by omega) (CpM_K kc hC) hb) (fun m_76 h_76 => ?_)
        refine r_pushI a180_79 ?_
        refine r_storeI_4 a180_81 rfl ?_
        refine r_pushI a180_83 ?_
        refine r_storeI_5 a180_84 rfl ?_
        refine r_pushI a180_86 ?_
        refine r_storeI_6 a180_87 rfl ?_
        obtain ⟨g1, g2, _, _, g5⟩ := h_76
        exact loop (s 0).toNat 0 m_76 (-5) _ (by omega) (KM.trans kc g1) ha hb hp hab (fun i x y => by rw [g2]; exact t2 i x (by omega)) g5 rfl
      · exfalso
        omega
    | succ c ih =>
      intro j m1 y5 y6 y7 hj h0 kc ha hb hp hab t1 t2
      have f122 : m1 122 = s := (CpM_K kc hC).1
      have u1 := t1 j h0 (by omega)
      refine r_loadI a180_43 rfl ?_
      refine r_loadA a180_45 rfl (by decide) ?_
      refine r_getR a180_46 ty121 rf121_1 (by decide) ?_
      refine r_pushI a180_49 ?_
      refine r_iald a180_50 ty122 (by omega) ?_
      rw [f122]
      refine r_icge a180_51 (fun h_51 => ?_) (fun h_51 => ?_)
      · exfalso
        omega
      · refine r_loadA a180_54 rfl (by decide) ?_
        refine r_getR a180_55 ty121 rf121_40 (by decide) ?_
        refine r_loadI a180_58 rfl ?_
        refine r_loadA a180_60 rfl (by decide) ?_
        refine r_getR a180_61 ty121 rf121_25 (by decide) ?_
        refine r_loadI a180_64 rfl ?_
        refine r_iald a180_66 ty132 (by omega) ?_
        rw [u1]
        refine r_iast a180_67 ty138 (by omega) ?_
        refine r_iinc_4 a180_68 rfl (by omega) ?_
        refine r_goto a180_71 ?_
        refine ih (j + 1) _ _ _ _ (by omega) (by omega) (KM_up kc (by omega)) ha hb hp hab (fun i x y => by rw [up2_c (by decide)]; exact t1 i x y) (fun i x y => ?_)
        by_cases q : i = j
        · rw [q, up2_s]
        · rw [up2_k q]; exact t2 i x (by omega)
  refine r_entry mx180 rfl ?_
  refine r_loadA a180_0 rfl (by decide) ?_
  refine r_loadI a180_1 rfl ?_
  refine r_callI_2 a180_2 (Nat.le_of_ble_eq_true rfl) (le_mx mx122 (Nat.le_of_ble_eq_true rfl)) (Or.inr (recv_ok ty121 ow122 (by decide))) (c_Mo_isSk e z m s cl hC a (by omega)) (fun x_2 m_2 h_2 => ?_)
  obtain ⟨hm_2, h_2⟩ := h_2
  rw [hm_2]
  refine r_ifeq a180_5 (fun h_5 => ?_) (fun h_5 => ?_)
  · refine r_pushI a180_25 ?_
    refine r_retIq a180_26 ?_
    refine ⟨KM.refl m, ?_⟩
    unfold aLoses; rw [if_pos]
    rintro ⟨a1, a2, a3⟩
    first
      | exact (okD h_2).2 (by omega) a1
      | exact (okD h_10).2 (by omega) a2
      | omega
  · refine r_loadA a180_8 rfl (by decide) ?_
    refine r_loadI a180_9 rfl ?_
    refine r_callI_2 a180_10 (Nat.le_of_ble_eq_true rfl) (le_mx mx122 (Nat.le_of_ble_eq_true rfl)) (Or.inr (recv_ok ty121 ow122 (by decide))) (c_Mo_isSk e z m s cl hC b (by omega)) (fun x_10 m_10 h_10 => ?_)
    obtain ⟨hm_10, h_10⟩ := h_10
    rw [hm_10]
    refine r_ifeq a180_13 (fun h_13 => ?_) (fun h_13 => ?_)
    · refine r_pushI a180_25 ?_
      refine r_retIq a180_26 ?_
      refine ⟨KM.refl m, ?_⟩
      unfold aLoses; rw [if_pos]
      rintro ⟨a1, a2, a3⟩
      first
        | exact (okD h_2).2 (by omega) a1
        | exact (okD h_10).2 (by omega) a2
        | omega
    · refine r_loadI a180_16 rfl ?_
      refine r_pushI a180_17 ?_
      refine r_pushI a180_18 ?_
      refine r_callI_3 a180_19 (Nat.le_of_ble_eq_true rfl) (le_mx mx119 (Nat.le_of_ble_eq_true rfl)) (Or.inl rfl) (c_Mo_in e z m p 0 1) (fun x_19 m_19 h_19 => ?_)
      obtain ⟨hm_19, h_19⟩ := h_19
      rw [hm_19]
      refine r_ifne a180_22 (fun h_22 => ?_) (fun h_22 => ?_)
      · have ha := (okD h_2).1 (by omega)
        have hb := (okD h_10).1 (by omega)
        have hp : 0 ≤ p ∧ p ≤ 1 := by omega
        refine r_loadI a180_27 rfl ?_
        refine r_loadI a180_28 rfl ?_
        refine r_icne a180_29 (fun h_29 => ?_) (fun h_29 => ?_)
        · refine r_loadA a180_35 rfl (by decide) ?_
          refine r_loadI a180_36 rfl ?_
          refine r_callV_2 a180_37 (Nat.le_of_ble_eq_true rfl) (le_mx mx179 (Nat.le_of_ble_eq_true rfl)) (Or.inr (recv_ok ty121 ow179 (by decide))) (c_Mo_quickQ e z m s cl a (by omega) hC ha) (fun m_37 h_37 => ?_)
          refine r_pushI a180_40 ?_
          refine r_storeI_4 a180_41 rfl ?_
          exact cpy (s 0).toNat 0 m_37 _ _ _ (by omega) (by omega) h_37.1 ha hb hp (by omega) h_37.2.2.2.2 (fun i x y => by omega)
        · refine r_pushI a180_32 ?_
          refine r_retIq a180_34 ?_
          exact ⟨KM.refl m, by unfold aLoses; rw [if_neg (fun q => q ⟨ha, hb, hp⟩), if_pos (by omega)]⟩
      · refine r_pushI a180_25 ?_
        refine r_retIq a180_26 ?_
        refine ⟨KM.refl m, ?_⟩
        unfold aLoses; rw [if_pos]
        rintro ⟨a1, a2, a3⟩
        first
          | exact (okD h_2).2 (by omega) a1
          | exact (okD h_10).2 (by omega) a2
          | omega
theorem c_Mo_wins (d z : Nat) (m : XM) (s : Int → Int) (cl : CLs) (a b v p : Int) (hd : 18 ≤ d) (hC : CpM m s cl) :
    CL d k_Mo_wins z m [vR 121, vI a, vI b, vI v, vI p] (fun x m' => KM m m' ∧ x = aWins s cl a b v p) := by
  obtain ⟨e, rfl⟩ : ∃ e, d = e + 1 := ⟨d - 1, by omega⟩
  have hN := hC.2.1.1.1
  have r7 := CpM_7 hC
  have ur := fun (k : Int) => qU_r (k := k) hC.2.1 (CpM_e hC).1 (CpM_e hC).2 (lQ_e (k := k) (w := 1) hC.2.1 (CpM_e hC).1 (CpM_e hC).2 r7)
  have ua := ur a
  have ub := ur b
  have hp20 := p20_pos (s 0).toNat
  have hp20b := p20_le (s 0).toNat (by omega)
  obtain ⟨w, hw⟩ : ∃ w, winN s cl a b v = w := ⟨_, rfl⟩
  have hW := hw
  unfold winN at hW
  have aw : aWins s cl a b v p = if sk s a ∧ sk s b ∧ a ≠ b ∧ (0 ≤ v ∧ v ≤ 1) ∧ 0 ≤ p ∧ p ≤ 1 then lowQ w (p20 (s 0).toNat * p20 (s 0).toNat) p else MINL := by unfold aWins; rw [hw]
  rw [aw]
  generalize hua : qU s cl a (lQ s cl a (s 7) 1) (s 0).toNat = A at ua hW
  generalize hub : qU s cl b (lQ s cl b (s 7) 1) (s 0).toNat = B at ub hW
  generalize hta : qT s cl a (lQ s cl a (s 7) 1) (s 0).toNat = ta at hW
  generalize htb : qT s cl b (lQ s cl b (s 7) 1) (s 0).toNat = tb at hW
  generalize hQ : p20 (s 0).toNat = Q at *
  have hQQ : Q * Q ≤ 1280000000 * 1280000000 := (mul_r (x := Q) (y := Q) (u := 1280000000) ⟨by omega, hp20b⟩ ⟨by omega, hp20b⟩).2
  have hQ1 : 1 ≤ Q * Q := Int.le_trans hp20 (by have := Int.mul_le_mul_of_nonneg_left hp20 (show 0 ≤ Q by omega); omega)
  have hAB := mul_r (x := A) (y := B) (u := Q) ⟨ua.1, ua.2.2⟩ ⟨ub.1, ub.2.2⟩
  have hAQ := mul_r (x := A) (y := Q) (u := Q) ⟨ua.1, ua.2.2⟩ ⟨by omega, by omega⟩
  have hAd := mul_r (x := A) (y := Q - B) (u := Q) ⟨ua.1, ua.2.2⟩ ⟨by omega, by omega⟩
  have hdd := mul_r (x := Q - A) (y := Q - B) (u := Q) ⟨by omega, by omega⟩ ⟨by omega, by omega⟩
  have hms : A * (Q - B) = A * Q - A * B := Int.mul_sub A Q B
  have fin : ∀ (m1 : XM) (x10 x12 : Int), KM m m1 → sk s a → sk s b → a ≠ b → (0 ≤ v ∧ v ≤ 1) → (0 ≤ p ∧ p ≤ 1) → (v = 0 → x10 = w ∧ 0 ≤ x10 ∧ x10 < 9223372036854775808) → (v ≠ 0 → x12 = w ∧ 0 ≤ x12 ∧ x12 < 9223372036854775808) → ∀ y5 y6 : XV, RZ (e + 1) k_Mo_wins 146 [vR 121, vI a, vI b, vI v, vI p, y5, y6, vR 0, vL Q, vR 0, vL x10, vR 0, vL x12, vR 0] [] (zH z m1) (qz z (ql fun x m' => KM m m' ∧ x = if sk s a ∧ sk s b ∧ a ≠ b ∧ (0 ≤ v ∧ v ≤ 1) ∧ 0 ≤ p ∧ p ≤ 1 then lowQ w (Q * Q) p else MINL)) := by
    intro m1 x10 x12 kc ha hb hab hv hp h1 h2 y5 y6
    refine r_loadI a181_146 rfl ?_
    refine r_ifne a181_147 (fun h_147 => ?_) (fun h_147 => ?_)
    · refine r_loadL a181_155 rfl ?_
      refine r_loadL a181_157 rfl ?_
      refine r_loadL a181_159 rfl ?_
      have hx : (v = 0 ∧ x10 = w ∧ 0 ≤ x10 ∧ x10 < 9223372036854775808) ∨ (v ≠ 0 ∧ x12 = w ∧ 0 ≤ x12 ∧ x12 < 9223372036854775808) := by
        by_cases q : v = 0
        · exact Or.inl ⟨q, h1 q⟩
        · exact Or.inr ⟨q, h2 q⟩
      refine r_lmul a181_161 (by omega) ?_
      refine r_loadI a181_162 rfl ?_
      refine r_callL_3 a181_164 (Nat.le_of_ble_eq_true rfl) (le_mx mx158 (Nat.le_of_ble_eq_true rfl)) (Or.inl rfl) (c_Mo_low e z m1 _ (Q * Q) p (by omega) (by omega)) (fun x_164 m_164 h_164 => ?_)
      obtain ⟨hm_164, h_164⟩ := h_164
      rw [hm_164]
      refine r_retLq a181_167 ?_
      refine ⟨kc, ?_⟩
      rw [if_pos ⟨ha, hb, hab, hv, hp⟩, h_164]
      rcases hx with ⟨q, q2, _⟩ | ⟨q, q2, _⟩
      · first
          | rw [q2]
          | (exfalso; omega)
      · first
          | rw [q2]
          | (exfalso; omega)
    · refine r_loadL a181_150 rfl ?_
      refine r_goto a181_152 ?_
      refine r_loadL a181_157 rfl ?_
      refine r_loadL a181_159 rfl ?_
      have hx : (v = 0 ∧ x10 = w ∧ 0 ≤ x10 ∧ x10 < 9223372036854775808) ∨ (v ≠ 0 ∧ x12 = w ∧ 0 ≤ x12 ∧ x12 < 9223372036854775808) := by
        by_cases q : v = 0
        · exact Or.inl ⟨q, h1 q⟩
        · exact Or.inr ⟨q, h2 q⟩
      refine r_lmul a181_161 (by omega) ?_
      refine r_loadI a181_162 rfl ?_
      refine r_callL_3 a181_164 (Nat.le_of_ble_eq_true rfl) (le_mx mx158 (Nat.le_of_ble_eq_true rfl)) (Or.inl rfl) (c_Mo_low e z m1 _ (Q * Q) p (by omega) (by omega)) (fun x_164 m_164 h_164 => ?_)
      obtain ⟨hm_164, h_164⟩ := h_164
      rw [hm_164]
      refine r_retLq a181_167 ?_
      refine ⟨kc, ?_⟩
      rw [if_pos ⟨ha, hb, hab, hv, hp⟩, h_164]
      rcases hx with ⟨q, q2, _⟩ | ⟨q, q2, _⟩
      · first
          | rw [q2]
          | (exfalso; omega)
      · first
          | rw [q2]
          | (exfalso; omega)
  refine r_entry mx181 rfl ?_
  refine r_loadA a181_0 rfl (by decide) ?_
  refine r_loadI a181_1 rfl ?_
  refine r_callI_2 a181_2 (Nat.le_of_ble_eq_true rfl) (le_mx mx122 (Nat.le_of_ble_eq_true rfl)) (Or.inr (recv_ok ty121 ow122 (by decide))) (c_Mo_isSk e z m s cl hC a (by omega)) (fun x_2 m_2 h_2 => ?_)
  obtain ⟨hm_2, h_2⟩ := h_2
  rw [hm_2]
  refine r_ifeq a181_5 (fun h_5 => ?_) (fun h_5 => ?_)
  · refine r_pushL a181_40 ?_
    refine r_retLq a181_43 ?_
    refine ⟨KM.refl m, ?_⟩
    rw [if_neg]
    rintro ⟨a1, a2, a3⟩
    first
      | exact (okD h_2).2 (by omega) a1
      | exact (okD h_10).2 (by omega) a2
      | omega
  · refine r_loadA a181_8 rfl (by decide) ?_
    refine r_loadI a181_9 rfl ?_
    refine r_callI_2 a181_10 (Nat.le_of_ble_eq_true rfl) (le_mx mx122 (Nat.le_of_ble_eq_true rfl)) (Or.inr (recv_ok ty121 ow122 (by decide))) (c_Mo_isSk e z m s cl hC b (by omega)) (fun x_10 m_10 h_10 => ?_)
    obtain ⟨hm_10, h_10⟩ := h_10
    rw [hm_10]
    refine r_ifeq a181_13 (fun h_13 => ?_) (fun h_13 => ?_)
    · refine r_pushL a181_40 ?_
      refine r_retLq a181_43 ?_
      refine ⟨KM.refl m, ?_⟩
      rw [if_neg]
      rintro ⟨a1, a2, a3⟩
      first
        | exact (okD h_2).2 (by omega) a1
        | exact (okD h_10).2 (by omega) a2
        | omega
    · refine r_loadI a181_16 rfl ?_
      refine r_loadI a181_17 rfl ?_
      refine r_iceq a181_18 (fun h_18 => ?_) (fun h_18 => ?_)
      · refine r_pushL a181_40 ?_
        refine r_retLq a181_43 ?_
        refine ⟨KM.refl m, ?_⟩
        rw [if_neg]
        rintro ⟨a1, a2, a3⟩
        first
          | exact (okD h_2).2 (by omega) a1
          | exact (okD h_10).2 (by omega) a2
          | omega
      · refine r_loadI a181_21 rfl ?_
        refine r_pushI a181_22 ?_
        refine r_pushI a181_23 ?_
        refine r_callI_3 a181_24 (Nat.le_of_ble_eq_true rfl) (le_mx mx119 (Nat.le_of_ble_eq_true rfl)) (Or.inl rfl) (c_Mo_in e z m v 0 1) (fun x_24 m_24 h_24 => ?_)
        obtain ⟨hm_24, h_24⟩ := h_24
        rw [hm_24]
        refine r_ifeq a181_27 (fun h_27 => ?_) (fun h_27 => ?_)
        · refine r_pushL a181_40 ?_
          refine r_retLq a181_43 ?_
          refine ⟨KM.refl m, ?_⟩
          rw [if_neg]
          rintro ⟨a1, a2, a3⟩
          first
            | exact (okD h_2).2 (by omega) a1
            | exact (okD h_10).2 (by omega) a2
            | omega
        · refine r_loadI a181_30 rfl ?_
          refine r_pushI a181_32 ?_
          refine r_pushI a181_33 ?_
          refine r_callI_3 a181_34 (Nat.le_of_ble_eq_true rfl) (le_mx mx119 (Nat.le_of_ble_eq_true rfl)) (Or.inl rfl) (c_Mo_in e z m p 0 1) (fun x_34 m_34 h_34 => ?_)
          obtain ⟨hm_34, h_34⟩ := h_34
          rw [hm_34]
          refine r_ifne a181_37 (fun h_37 => ?_) (fun h_37 => ?_)
          · refine r_loadA a181_44 rfl (by decide) ?_
            refine r_loadI a181_45 rfl ?_
            have ha := (okD h_2).1 (by omega)
            have hb := (okD h_10).1 (by omega)
            refine r_callV_2 a181_46 (Nat.le_of_ble_eq_true rfl) (le_mx mx179 (Nat.le_of_ble_eq_true rfl)) (Or.inr (recv_ok ty121 ow179 (by decide))) (c_Mo_quickQ e z m s cl a (by omega) hC ha) (fun m_46 h_46 => ?_)
            obtain ⟨g1, _, g3, g4, _⟩ := h_46
            rw [hta] at g3
            rw [hua] at g4
            have hC2 := CpM_K g1 hC
            refine r_loadA a181_49 rfl (by decide) ?_
            refine r_getI (ki := 28) a181_50 ty121 rfl ?_
            rw [g3]
            refine r_storeI_5 a181_53 rfl ?_
            refine r_loadA a181_55 rfl (by decide) ?_
            refine r_getL (ki := 31) a181_56 ty121 rfl ?_
            rw [g4]
            refine r_storeL_6 a181_59 rfl ?_
            refine r_loadA a181_61 rfl (by decide) ?_
            refine r_loadI a181_62 rfl ?_
            refine r_callV_2 a181_63 (Nat.le_of_ble_eq_true rfl) (le_mx mx179 (Nat.le_of_ble_eq_true rfl)) (Or.inr (recv_ok ty121 ow179 (by decide))) (c_Mo_quickQ e z m_46 s cl b (by omega) hC2 hb) (fun m_63 h_63 => ?_)
            obtain ⟨u1, _, u3, u4, _⟩ := h_63
            rw [htb] at u3
            rw [hub] at u4
            have kc := KM.trans g1 u1
            have f122 : m_63 122 = s := (CpM_K kc hC).1
            refine r_loadA a181_66 rfl (by decide) ?_
            refine r_getR a181_67 ty121 rf121_1 (by decide) ?_
            refine r_pushI a181_70 ?_
            refine r_iald a181_71 ty122 (by omega) ?_
            rw [f122]
            refine r_callL_1 a181_72 (Nat.le_of_ble_eq_true rfl) (le_mx mx157 (Nat.le_of_ble_eq_true rfl)) (Or.inl rfl) (c_Mo_power e z m_63 (s 0) hN) (fun x_72 m_72 h_72 => ?_)
            obtain ⟨hm_72, h_72⟩ := h_72
            rw [hm_72]
            rw [h_72, hQ]
            refine r_storeL_8 a181_75 rfl ?_
            refine r_loadL a181_77 rfl ?_
            refine r_loadL a181_79 rfl ?_
            refine r_loadA a181_81 rfl (by decide) ?_
            refine r_getL (ki := 31) a181_82 ty121 rfl ?_
            rw [u4]
            refine r_lsub a181_85 (by omega) ?_
            refine r_lmul a181_86 (by omega) ?_
            refine r_loadI a181_87 rfl ?_
            refine r_loadA a181_89 rfl (by decide) ?_
            refine r_getI (ki := 28) a181_90 ty121 rfl ?_
            rw [u3]
            refine r_icge a181_93 (fun h_93 => ?_) (fun h_93 => ?_)
            · refine r_pushL a181_106 ?_
              refine r_ladd a181_107 (by omega) ?_
              refine r_storeL_10 a181_108 rfl ?_
              refine r_loadL a181_110 rfl ?_
              refine r_loadL a181_112 rfl ?_
              refine r_lsub a181_114 (by omega) ?_
              refine r_loadL a181_115 rfl ?_
              refine r_loadA a181_117 rfl (by decide) ?_
              refine r_getL (ki := 31) a181_118 ty121 rfl ?_
              rw [u4]
              refine r_lsub a181_121 (by omega) ?_
              refine r_lmul a181_122 (by omega) ?_
              refine r_loadI a181_123 rfl ?_
              refine r_loadA a181_125 rfl (by decide) ?_
              refine r_getI (ki := 28) a181_126 ty121 rfl ?_
              rw [u3]
              refine r_icne a181_129 (fun h_129 => ?_) (fun h_129 => ?_)
              · refine r_pushL a181_142 ?_
                refine r_ladd a181_143 (by omega) ?_
                refine r_storeL_12 a181_144 rfl ?_
                refine fin m_63 _ _ kc ha hb (by omega) (by omega) (by omega) (fun q => ⟨?_, by omega⟩) (fun q => ⟨?_, by omega⟩) _ _
                · rw [← hW, if_pos q]
                  first
                    | (rw [if_pos (by omega)]; omega)
                    | (rw [if_neg (by omega)]; omega)
                · rw [← hW, if_neg q]
                  first
                    | rw [if_pos (by omega)]
                    | rw [if_neg (by omega)]
              · refine r_loadL a181_132 rfl ?_
                refine r_loadA a181_134 rfl (by decide) ?_
                refine r_getL (ki := 31) a181_135 ty121 rfl ?_
                rw [u4]
                refine r_lmul a181_138 (by omega) ?_
                refine r_goto a181_139 ?_
                refine r_ladd a181_143 (by omega) ?_
                refine r_storeL_12 a181_144 rfl ?_
                refine fin m_63 _ _ kc ha hb (by omega) (by omega) (by omega) (fun q => ⟨?_, by omega⟩) (fun q => ⟨?_, by omega⟩) _ _
                · rw [← hW, if_pos q]
                  first
                    | (rw [if_pos (by omega)]; omega)
                    | (rw [if_neg (by omega)]; omega)
                · rw [← hW, if_neg q]
                  first
                    | rw [if_pos (by omega)]
                    | rw [if_neg (by omega)]
            · refine r_loadL a181_96 rfl ?_
              refine r_loadA a181_98 rfl (by decide) ?_
              refine r_getL (ki := 31) a181_99 ty121 rfl ?_
              rw [u4]
              refine r_lmul a181_102 (by omega) ?_
              refine r_goto a181_103 ?_
              refine r_ladd a181_107 (by omega) ?_
              refine r_storeL_10 a181_108 rfl ?_
              refine r_loadL a181_110 rfl ?_
              refine r_loadL a181_112 rfl ?_
              refine r_lsub a181_114 (by omega) ?_
              refine r_loadL a181_115 rfl ?_
              refine r_loadA a181_117 rfl (by decide) ?_
              refine r_getL (ki := 31) a181_118 ty121 rfl ?_
              rw [u4]
              refine r_lsub a181_121 (by omega) ?_
              refine r_lmul a181_122 (by omega) ?_
              refine r_loadI a181_123 rfl ?_
              refine r_loadA a181_125 rfl (by decide) ?_
              refine r_getI (ki := 28) a181_126 ty121 rfl ?_
              rw [u3]
              refine r_icne a181_129 (fun h_129 => ?_) (fun h_129 => ?_)
              · refine r_pushL a181_142 ?_
                refine r_ladd a181_143 (by omega) ?_
                refine r_storeL_12 a181_144 rfl ?_
                refine fin m_63 _ _ kc ha hb (by omega) (by omega) (by omega) (fun q => ⟨?_, by omega⟩) (fun q => ⟨?_, by omega⟩) _ _
                · rw [← hW, if_pos q]
                  first
                    | (rw [if_pos (by omega)]; omega)
                    | (rw [if_neg (by omega)]; omega)
                · rw [← hW, if_neg q]
                  first
                    | rw [if_pos (by omega)]
                    | rw [if_neg (by omega)]
              · refine r_loadL a181_132 rfl ?_
                refine r_loadA a181_134 rfl (by decide) ?_
                refine r_getL (ki := 31) a181_135 ty121 rfl ?_
                rw [u4]
                refine r_lmul a181_138 (by omega) ?_
                refine r_goto a181_139 ?_
                refine r_ladd a181_143 (by omega) ?_
                refine r_storeL_12 a181_144 rfl ?_
                refine fin m_63 _ _ kc ha hb (by omega) (by omega) (by omega) (fun q => ⟨?_, by omega⟩) (fun q => ⟨?_, by omega⟩) _ _
                · rw [← hW, if_pos q]
                  first
                    | (rw [if_pos (by omega)]; omega)
                    | (rw [if_neg (by omega)]; omega)
                · rw [← hW, if_neg q]
                  first
                    | rw [if_pos (by omega)]
                    | rw [if_neg (by omega)]
          · refine r_pushL a181_40 ?_
            refine r_retLq a181_43 ?_
            refine ⟨KM.refl m, ?_⟩
            rw [if_neg]
            rintro ⟨a1, a2, a3⟩
            first
              | exact (okD h_2).2 (by omega) a1
              | exact (okD h_10).2 (by omega) a2
              | omega
theorem c_Mo_keepsBest (d z : Nat) (m : XM) : CV d k_Mo_keepsBest z m [vR 121] (fun m' => (∀ x, x ≠ 137 → m' x = m x) ∧ ∀ j, 0 ≤ j → j < 7 → m' 137 j = m 136 j) := by
  have loop : ∀ (c : Nat) (i : Int) (m1 : XM), 7 < i + c → 0 ≤ i → i ≤ 7 → (∀ x, x ≠ 137 → m1 x = m x) → (∀ j, 0 ≤ j → j < i → m1 137 j = m 136 j) →
      RZ d k_Mo_keepsBest 2 [vR 121, vI i] [] (zH z m1) (qz z (qv fun m' => (∀ x, x ≠ 137 → m' x = m x) ∧ ∀ j, 0 ≤ j → j < 7 → m' 137 j = m 136 j)) := by
    intro c
    induction c with
    | zero => intro i m1 q1 q2 q3; exfalso; omega
    | succ c ih =>
      intro i m1 q1 q2 q3 f1 f4
      refine r_loadI a175_2 rfl ?_
      refine r_pushI a175_3 ?_
      refine r_icge a175_5 (fun h_5 => ?_) (fun h_5 => ?_)
      · refine r_retVq a175_26 ?_
        exact ⟨f1, fun j a b => f4 j a (by omega)⟩
      · refine r_loadA a175_8 rfl (by decide) ?_
        refine r_getR a175_9 ty121 rf121_39 (by decide) ?_
        refine r_loadI a175_12 rfl ?_
        refine r_loadA a175_13 rfl (by decide) ?_
        refine r_getR a175_14 ty121 rf121_33 (by decide) ?_
        refine r_loadI a175_17 rfl ?_
        refine r_iald a175_18 ty136 (by omega) ?_
        rw [f1 136 (by decide)]
        refine r_iast a175_19 ty137 (by omega) ?_
        refine r_iinc_1 a175_20 rfl (by omega) ?_
        refine r_goto a175_23 ?_
        refine ih (i + 1) _ (by omega) (by omega) (by omega) (fun x x2 => by rw [up2_c x2]; exact f1 x x2) (fun j a b => ?_)
        by_cases q : j = i
        · rw [q, up2_s]
        · rw [up2_k q]; exact f4 j a (by omega)
  refine r_entry mx175 rfl ?_
  refine r_pushI a175_0 ?_
  refine r_storeI_1 a175_1 rfl ?_
  exact loop 8 0 m (by omega) (by omega) (by omega) (fun _ _ => rfl) (fun j a b => by omega)
theorem c_Mo_isOther (d z : Nat) (m : XM) (s : Int → Int) (cl : CLs) (k n : Int) (hN : 0 ≤ s 0 ∧ s 0 ≤ 7) (hm : m 122 = s) (h1 : ∀ i, 0 ≤ i → i < s 0 → m 136 i = lQ s cl k n 1 i) (h2 : ∀ i, 0 ≤ i → i < s 0 → m 137 i = lQ s cl k 0 1 i) :
    CI d k_Mo_isOther z m [vR 121] (fun x m' => m' = m ∧ x = bI (othQ s cl k n (s 0).toNat)) := by
  have loop : ∀ (c j : Nat), (j : Int) + c = s 0 →
      RZ d k_Mo_isOther 4 [vR 121, vI (bI (othQ s cl k n j)), vI (j : Int)] [] (zH z m) (qz z (qi fun x m' => m' = m ∧ x = bI (othQ s cl k n (s 0).toNat))) := by
    intro c
    induction c with
    | zero =>
      intro j hj
      have ej : (s 0).toNat = j := by omega
      refine r_loadI a176_4 rfl ?_
      refine r_loadA a176_5 rfl (by decide) ?_
      refine r_getR a176_6 ty121 rf121_1 (by decide) ?_
      refine r_pushI a176_9 ?_
      refine r_iald a176_10 ty122 (by omega) ?_
      rw [hm]
      refine r_icge a176_11 (fun h_11 => ?_) (fun h_11 => ?_)
      · refine r_loadI a176_45 rfl ?_
        refine r_retZq a176_46 (by cases (othQ s cl k n j) <;> first | exact Or.inl rfl | exact Or.inr rfl) ?_
        exact ⟨rfl, by rw [ej]⟩
      · exfalso
        omega
    | succ c ih =>
      intro j hj
      have a1 := h1 j (by omega) (by omega)
      have a2 := h2 j (by omega) (by omega)
      have eS : othQ s cl k n (j + 1) = (othQ s cl k n j || decide (lQ s cl k n 1 j ≠ lQ s cl k 0 1 j)) := rfl
      have hz : ∀ q : Bool, (bI q = 0 → q = false) ∧ (bI q ≠ 0 → q = true) := by intro q; cases q <;> decide
      have fin : ∀ x, x = bI (othQ s cl k n (j + 1)) → RZ d k_Mo_isOther 38 [vR 121, vI (bI (othQ s cl k n j)), vI (j : Int)] [vI x] (zH z m) (qz z (qi fun x m' => m' = m ∧ x = bI (othQ s cl k n (s 0).toNat))) := by
        intro x hx
        refine r_storeI_1 a176_38 rfl ?_
        refine r_iinc_2 a176_39 rfl (by omega) ?_
        refine r_goto a176_42 ?_
        rw [hx]
        exact ih (j + 1) (by push_cast; omega)
      refine r_loadI a176_4 rfl ?_
      refine r_loadA a176_5 rfl (by decide) ?_
      refine r_getR a176_6 ty121 rf121_1 (by decide) ?_
      refine r_pushI a176_9 ?_
      refine r_iald a176_10 ty122 (by omega) ?_
      rw [hm]
      refine r_icge a176_11 (fun h_11 => ?_) (fun h_11 => ?_)
      · exfalso
        omega
      · refine r_loadI a176_14 rfl ?_
        refine r_ifne a176_15 (fun h_15 => ?_) (fun h_15 => ?_)
        · refine r_pushI a176_33 ?_
          refine r_goto a176_34 ?_
          refine fin _ ?_
          rw [eS]
          first
            | (rw [(hz _).2 h_15, Bool.true_or]; rfl)
            | (rw [(hz _).1 h_15, Bool.false_or, decide_eq_true h_30]; rfl)
            | (rw [(hz _).1 h_15, Bool.false_or, decide_eq_false (fun q => q h_30)]; rfl)
        · refine r_loadA a176_18 rfl (by decide) ?_
          refine r_getR a176_19 ty121 rf121_33 (by decide) ?_
          refine r_loadI a176_22 rfl ?_
          refine r_iald a176_23 ty136 (by omega) ?_
          refine r_loadA a176_24 rfl (by decide) ?_
          refine r_getR a176_25 ty121 rf121_39 (by decide) ?_
          refine r_loadI a176_28 rfl ?_
          refine r_iald a176_29 ty137 (by omega) ?_
          rw [a1, a2]
          refine r_iceq a176_30 (fun h_30 => ?_) (fun h_30 => ?_)
          · refine r_pushI a176_37 ?_
            refine fin _ ?_
            rw [eS]
            first
              | (rw [(hz _).2 h_15, Bool.true_or]; rfl)
              | (rw [(hz _).1 h_15, Bool.false_or, decide_eq_true h_30]; rfl)
              | (rw [(hz _).1 h_15, Bool.false_or, decide_eq_false (fun q => q h_30)]; rfl)
          · refine r_pushI a176_33 ?_
            refine r_goto a176_34 ?_
            refine fin _ ?_
            rw [eS]
            first
              | (rw [(hz _).2 h_15, Bool.true_or]; rfl)
              | (rw [(hz _).1 h_15, Bool.false_or, decide_eq_true h_30]; rfl)
              | (rw [(hz _).1 h_15, Bool.false_or, decide_eq_false (fun q => q h_30)]; rfl)
  refine r_entry mx176 rfl ?_
  refine r_pushI a176_0 ?_
  refine r_storeI_1 a176_1 rfl ?_
  refine r_pushI a176_2 ?_
  refine r_storeI_2 a176_3 rfl ?_
  exact loop (s 0).toNat 0 (by omega)
theorem c_Mo_rutted (d z : Nat) (m : XM) (s : Int → Int) (cl : CLs) (k : Int) (hd : 17 ≤ d) (hC : CpM m s cl) :
    CI d k_Mo_rutted z m [vR 121, vI k] (fun x m' => KM m m' ∧ x = aRutted s cl k) := by
  obtain ⟨e, rfl⟩ : ∃ e, d = e + 1 := ⟨d - 1, by omega⟩
  have hN := hC.2.1.1.1
  have done : ∀ (v n : Int) (m1 : XM), v ≠ -5 → KM m m1 → (1 ≤ n ∧ n ≤ 100) → v = aRutted s cl k → RZ (e + 1) k_Mo_rutted 30 [vR 121, vI k, vI v, vI n] [] (zH z m1) (qz z (qi fun x m' => KM m m' ∧ x = aRutted s cl k)) := by
    intro v n m1 hv kc hn hx
    refine r_loadI a177_30 rfl ?_
    refine r_pushI a177_31 ?_
    refine r_icge a177_33 (fun h_33 => ?_) (fun h_33 => ?_)
    · refine r_loadI a177_74 rfl ?_
      refine r_retIq a177_75 ?_
      exact ⟨kc, hx⟩
    · refine r_loadI a177_36 rfl ?_
      refine r_pushI a177_37 ?_
      refine r_icne a177_39 (fun h_39 => ?_) (fun h_39 => ?_)
      · refine r_loadI a177_74 rfl ?_
        refine r_retIq a177_75 ?_
        exact ⟨kc, hx⟩
      · exfalso
        omega
  have loop : ∀ (c : Nat) (n n0 : Int) (m1 : XM), sk s k → n + c = 100 → 1 ≤ n → KM m m1 → AskOk s cl k n0 1 → RefQ m1 s cl k n0 1 idn → (∀ i, 0 ≤ i → i < s 0 → m1 137 i = lQ s cl k 0 1 i) → firstI (fun n => othQ s cl k n (s 0).toNat) (-5) c n = aRutted s cl k →
      RZ (e + 1) k_Mo_rutted 30 [vR 121, vI k, vI (-5), vI n] [] (zH z m1) (qz z (qi fun x m' => KM m m' ∧ x = aRutted s cl k)) := by
    intro c
    induction c with
    | zero =>
      intro n n0 m1 hk hn h1 kc hA hQ hb hf
      refine r_loadI a177_30 rfl ?_
      refine r_pushI a177_31 ?_
      refine r_icge a177_33 (fun h_33 => ?_) (fun h_33 => ?_)
      · refine r_loadI a177_74 rfl ?_
        refine r_retIq a177_75 ?_
        exact ⟨kc, hf⟩
      · exfalso
        omega
    | succ c ih =>
      intro n n0 m1 hk hn h1 kc hA hQ hb hf
      have hf2 : (if othQ s cl k n (s 0).toNat = true then n else firstI (fun n => othQ s cl k n (s 0).toNat) (-5) c (n + 1)) = aRutted s cl k := hf
      have hz : ∀ q : Bool, (bI q = 0 → q = false) ∧ (bI q ≠ 0 → q = true) := by intro q; cases q <;> decide
      refine r_loadI a177_30 rfl ?_
      refine r_pushI a177_31 ?_
      refine r_icge a177_33 (fun h_33 => ?_) (fun h_33 => ?_)
      · exfalso
        omega
      · refine r_loadI a177_36 rfl ?_
        refine r_pushI a177_37 ?_
        refine r_icne a177_39 (fun h_39 => ?_) (fun h_39 => ?_)
        · exfalso
          omega
        · refine r_loadA a177_42 rfl (by decide) ?_
          refine r_loadI a177_43 rfl ?_
          refine r_callV_2 a177_44 (Nat.le_of_ble_eq_true rfl) (le_mx mx147 (Nat.le_of_ble_eq_true rfl)) (Or.inr (recv_ok ty121 ow147 (by decide))) (c_Mo_runsAre e z m1 n) (fun m_44 h_44 => ?_)
          obtain ⟨u1, u2, u3, u4⟩ := h_44
          have hA2 : AskOk s cl k n 1 := ⟨hA.1, hA.2.1, hA.2.2.1, by omega, by omega⟩
          have hQ2 : RefQ m_44 s cl k n 1 idn := ⟨⟨by rw [u1 122 (by decide) (by decide)]; exact hQ.1.1, by rw [u2 14 (by decide)]; exact hQ.1.2.1, u3, by rw [u2 16 (by decide)]; exact hQ.1.2.2.2.1, by rw [u1 126 (by decide) (by decide)]; exact hQ.1.2.2.2.2⟩, by unfold MemoI; rw [u1 127 (by decide) (by decide), u1 128 (by decide) (by decide)]; exact hQ.2.1, MemoP_new u4⟩
          have k44 : KM m1 m_44 := ⟨fun x a b => u1 x a (by omega), u2 3 (by decide), u2 4 (by decide), u2 16 (by decide), u2 43 (by decide)⟩
          refine r_loadA a177_47 rfl (by decide) ?_
          refine r_pushI a177_48 ?_
          refine r_pushI a177_49 ?_
          refine r_pushI a177_50 ?_
          refine r_callV_4 a177_51 (Nat.le_of_ble_eq_true rfl) (le_mx mx164 (Nat.le_of_ble_eq_true rfl)) (Or.inr (recv_ok ty121 ow164 (by decide))) (c_Mo_leastFrom e z m_44 s cl k n 1 0 3 (by omega) hA2 hQ2 (by omega) (by omega)) (fun m_51 h_51 => ?_)
          obtain ⟨v1, _, v3, _, v5⟩ := h_51
          have e0 : (s 0 - 0).toNat = (s 0).toNat := by rw [Int.sub_zero]
          rw [e0] at v5
          have v5' : ∀ i, 0 ≤ i → i < s 0 → m_51 136 i = lQ s cl k n 1 i := v5
          have e137 : m_51 137 = m1 137 := by rw [v1.1 137 (by decide) (by decide) (by decide) (by decide), u1 137 (by decide) (by decide)]
          have kc2 : KM m m_51 := KM.trans kc (KM.trans k44 (FrL_KM v1))
          refine r_loadA a177_54 rfl (by decide) ?_
          refine r_callI_1 a177_55 (Nat.le_of_ble_eq_true rfl) (le_mx mx176 (Nat.le_of_ble_eq_true rfl)) (Or.inr (recv_ok ty121 ow176 (by decide))) (c_Mo_isOther e z m_51 s cl k n hN v3.1.1 v5' (by rw [e137]; exact hb)) (fun x_55 m_55 h_55 => ?_)
          obtain ⟨hm_55, h_55⟩ := h_55
          rw [hm_55]
          rw [h_55]
          refine r_ifeq a177_58 (fun h_58 => ?_) (fun h_58 => ?_)
          · refine r_pushI a177_65 ?_
            refine r_storeI_2 a177_67 rfl ?_
            refine r_iinc_3 a177_68 rfl (by omega) ?_
            refine r_goto a177_71 ?_
            first
              | (have hq := (hz _).2 h_58
                 rw [if_pos hq] at hf2
                 exact done n (n + 1) m_51 (by omega) kc2 (by omega) hf2)
              | (have hq := (hz _).1 h_58
                 rw [if_neg (by rw [hq]; decide)] at hf2
                 exact ih (n + 1) n m_51 hk (by omega) (by omega) kc2 hA2 v3 (by rw [e137]; exact hb) hf2)
          · refine r_loadI a177_61 rfl ?_
            refine r_goto a177_62 ?_
            refine r_storeI_2 a177_67 rfl ?_
            refine r_iinc_3 a177_68 rfl (by omega) ?_
            refine r_goto a177_71 ?_
            first
              | (have hq := (hz _).2 h_58
                 rw [if_pos hq] at hf2
                 exact done n (n + 1) m_51 (by omega) kc2 (by omega) hf2)
              | (have hq := (hz _).1 h_58
                 rw [if_neg (by rw [hq]; decide)] at hf2
                 exact ih (n + 1) n m_51 hk (by omega) (by omega) kc2 hA2 v3 (by rw [e137]; exact hb) hf2)
  refine r_entry mx177 rfl ?_
  refine r_loadA a177_0 rfl (by decide) ?_
  refine r_loadI a177_1 rfl ?_
  refine r_callI_2 a177_2 (Nat.le_of_ble_eq_true rfl) (le_mx mx122 (Nat.le_of_ble_eq_true rfl)) (Or.inr (recv_ok ty121 ow122 (by decide))) (c_Mo_isSk e z m s cl hC k (by omega)) (fun x_2 m_2 h_2 => ?_)
  obtain ⟨hm_2, h_2⟩ := h_2
  rw [hm_2]
  refine r_ifne a177_5 (fun h_5 => ?_) (fun h_5 => ?_)
  · refine r_loadA a177_10 rfl (by decide) ?_
    have hk := (okD h_2).1 (by omega)
    have hA := CpM_A (n := 0) (w := 1) hC hk (by omega) (by omega)
    refine r_callV_1 a177_11 (Nat.le_of_ble_eq_true rfl) (le_mx mx149 (Nat.le_of_ble_eq_true rfl)) (Or.inr (recv_ok ty121 ow149 (by decide))) (c_Mo_asTheyStand e z m) (fun m_11 h_11 => ?_)
    have k11 : KM m m_11 := ⟨fun x a b => h_11.1 x (by omega), by rw [h_11.1 121 (by decide)], by rw [h_11.1 121 (by decide)], by rw [h_11.1 121 (by decide)], by rw [h_11.1 121 (by decide)]⟩
    have hC2 := CpM_K k11 hC
    refine r_loadA a177_14 rfl (by decide) ?_
    refine r_loadI a177_15 rfl ?_
    refine r_pushI a177_16 ?_
    refine r_callI_3 a177_17 (Nat.le_of_ble_eq_true rfl) (le_mx mx165 (Nat.le_of_ble_eq_true rfl)) (Or.inr (recv_ok ty121 ow165 (by decide))) (c_Mo_leastBy e z m_11 s cl k 0 1 idn (by omega) hA hC2.1 (CpM_16 hC2) (st_Stands h_11.2)) (fun x_17 m_17 h_17 => ?_)
    obtain ⟨g1, g2, _, _, g5⟩ := h_17
    have g5' : ∀ i, 0 ≤ i → i < s 0 → m_17 136 i = lQ s cl k 0 1 i := g5
    refine r_pop a177_20 rfl ?_
    refine r_loadA a177_21 rfl (by decide) ?_
    refine r_callV_1 a177_22 (Nat.le_of_ble_eq_true rfl) (le_mx mx175 (Nat.le_of_ble_eq_true rfl)) (Or.inr (recv_ok ty121 ow175 (by decide))) (c_Mo_keepsBest e z m_17) (fun m_22 h_22 => ?_)
    refine r_pushI a177_25 ?_
    refine r_storeI_2 a177_27 rfl ?_
    refine r_pushI a177_28 ?_
    refine r_storeI_3 a177_29 rfl ?_
    obtain ⟨u1, u2⟩ := h_22
    refine loop 99 1 0 m_22 hk (by omega) (by omega) (KM.trans k11 (KM.trans (FrL_KM g1) ⟨fun x a b => u1 x (by omega), by rw [u1 121 (by decide)], by rw [u1 121 (by decide)], by rw [u1 121 (by decide)], by rw [u1 121 (by decide)]⟩)) hA (RefQ_cong (u1 122 (by decide)) (u1 126 (by decide)) (u1 127 (by decide)) (u1 128 (by decide)) (u1 129 (by decide)) (u1 130 (by decide)) (u1 131 (by decide)) (by rw [u1 121 (by decide)]) (by rw [u1 121 (by decide)]) (by rw [u1 121 (by decide)]) g2) (fun i a b => by rw [u2 i a (by omega)]; exact g5' i a b) ?_
    unfold aRutted; rw [if_neg (fun q => q hk)]
  · refine r_pushI a177_8 ?_
    refine r_retIq a177_9 ?_
    exact ⟨KM.refl m, by unfold aRutted; rw [if_pos ((okD h_2).2 (by omega))]⟩
theorem c_Mo_leads (d z : Nat) (m : XM) (s : Int → Int) (cl : CLs) (a b : Int) (od : Int → Int) (hd : 16 ≤ d) (hC : CpM m s cl) (ha : sk s a) (hb : sk s b) (hst : Stands m od) (ho : ∀ i, 0 ≤ i → i < s 0 → 0 ≤ od i ∧ od i < s 0) :
    CI d k_Mo_leads z m [vR 121, vI a, vI b] (fun x m' => KM m m' ∧ m' 126 = m 126 ∧ x = setL s cl a b od) := by
  obtain ⟨e, rfl⟩ : ∃ e, d = e + 1 := ⟨d - 1, by omega⟩
  have e122 := hC.1
  have ta := tS_r (k := a) hC.2.1 (CpM_e hC).1 (CpM_e hC).2 ho
  have tb := tS_r (k := b) hC.2.1 (CpM_e hC).1 (CpM_e hC).2 ho
  refine r_entry mx183 rfl ?_
  refine r_loadA a183_0 rfl (by decide) ?_
  refine r_loadI a183_1 rfl ?_
  refine r_loadA a183_2 rfl (by decide) ?_
  refine r_getR a183_3 ty121 rf121_1 (by decide) ?_
  refine r_pushI a183_6 ?_
  refine r_iald a183_8 ty122 (by omega) ?_
  rw [e122]
  refine r_callI_3 a183_9 (Nat.le_of_ble_eq_true rfl) (le_mx mx165 (Nat.le_of_ble_eq_true rfl)) (Or.inr (recv_ok ty121 ow165 (by decide))) (c_Mo_leastBy e z m s cl a (s 7) 1 od (by omega) (CpM_A hC ha (CpM_7 hC) (by omega)) hC.1 (CpM_16 hC) hst) (fun x_9 m_9 h_9 => ?_)
  obtain ⟨g1, _, g3, g4, _⟩ := h_9
  have hC2 := CpM_K (FrL_KM g1) hC
  have g4' : x_9 = tS s cl a od := g4
  rw [g4']
  have f122 := hC2.1
  refine r_storeI_3 a183_12 rfl ?_
  refine r_loadI a183_13 rfl ?_
  refine r_loadA a183_14 rfl (by decide) ?_
  refine r_loadI a183_15 rfl ?_
  refine r_loadA a183_16 rfl (by decide) ?_
  refine r_getR a183_17 ty121 rf121_1 (by decide) ?_
  refine r_pushI a183_20 ?_
  refine r_iald a183_22 ty122 (by omega) ?_
  rw [f122]
  refine r_callI_3 a183_23 (Nat.le_of_ble_eq_true rfl) (le_mx mx165 (Nat.le_of_ble_eq_true rfl)) (Or.inr (recv_ok ty121 ow165 (by decide))) (c_Mo_leastBy e z m_9 s cl b (s 7) 1 od (by omega) (CpM_A hC2 hb (CpM_7 hC2) (by omega)) hC2.1 (CpM_16 hC2) (by unfold Stands; rw [g3]; exact hst)) (fun x_23 m_23 h_23 => ?_)
  obtain ⟨u1, _, u3, u4, _⟩ := h_23
  have u4' : x_23 = tS s cl b od := u4
  rw [u4']
  refine r_sub a183_26 (by omega) ?_
  refine r_retIq a183_27 ?_
  exact ⟨KM.trans (FrL_KM g1) (FrL_KM u1), u3.trans g3, rfl⟩
theorem c_Mo_set (d z : Nat) (m : XM) (s : Int → Int) (cl : CLs) (a b : Int) (hd : 17 ≤ d) (hC : CpM m s cl) :
    CI d k_Mo_set z m [vR 121, vI a, vI b] (fun x m' => KM m m' ∧ x = aSet s cl a b) := by
  obtain ⟨e, rfl⟩ : ∃ e, d = e + 1 := ⟨d - 1, by omega⟩
  have hN := hC.2.1.1.1
  have tsd : ∀ m1 : XM, CV e k_Mo_asTheyStand z m1 [vR 121] (fun m' => KM m1 m' ∧ Stands m' idn) := fun m1 =>
    (c_Mo_asTheyStand e z m1).imp fun m' ⟨g1, g2⟩ => ⟨⟨fun x a b => g1 x (by omega), by rw [g1 121 (by decide)], by rw [g1 121 (by decide)], by rw [g1 121 (by decide)], by rw [g1 121 (by decide)]⟩, st_Stands g2⟩
  have outer : ∀ (c n : Nat) (m1 : XM) (st : Int × Int) (y6 y7 : XV), (n : Int) + c = s 0 → sk s a → sk s b → a ≠ b → KM m m1 → Stands m1 idn → st = setO s cl a b n (setL s cl a b idn, -5) →
      RZ (e + 1) k_Mo_set 44 [vR 121, vI a, vI b, vI st.1, vI st.2, vI (n : Int), y6, y7] [] (zH z m1) (qz z (qi fun x m' => KM m m' ∧ x = aSet s cl a b)) := by
    intro c
    induction c with
    | zero =>
      intro n m1 st y6 y7 hn ha hb hab kc sd hst
      have e0 : m1 122 = s := (CpM_K kc hC).1
      have en : (s 0).toNat = n := by omega
      refine r_loadI a184_44 rfl ?_
      refine r_loadA a184_46 rfl (by decide) ?_
      refine r_getR a184_47 ty121 rf121_1 (by decide) ?_
      refine r_pushI a184_50 ?_
      refine r_iald a184_51 ty122 (by omega) ?_
      rw [e0]
      refine r_icge a184_52 (fun h_52 => ?_) (fun h_52 => ?_)
      · refine r_loadI a184_148 rfl ?_
        refine r_retIq a184_150 ?_
        exact ⟨kc, by unfold aSet; rw [if_neg (fun q => q ⟨ha, hb⟩), if_neg hab, en, ← hst]⟩
      · exfalso
        omega
    | succ c ih =>
      intro n m1 st y6 y7 hn ha hb hab kc sd hst
      have inner : ∀ (c2 n2 : Nat) (m2 : XM) (st2 : Int × Int) (y7 : XV), (n : Int) + 1 + n2 + c2 = s 0 → KM m m2 → Stands m2 idn → st2 = setI s cl a b n n2 st →
          RZ (e + 1) k_Mo_set 61 [vR 121, vI a, vI b, vI st2.1, vI st2.2, vI (n : Int), vI ((n : Int) + 1 + n2), y7] [] (zH z m2) (qz z (qi fun x m' => KM m m' ∧ x = aSet s cl a b)) := by
        intro c2
        induction c2 with
        | zero =>
          intro n2 m2 st2 y7 hn2 kc2 sd2 hst2
          have e0 : m2 122 = s := (CpM_K kc2 hC).1
          refine r_loadI a184_61 rfl ?_
          refine r_loadA a184_63 rfl (by decide) ?_
          refine r_getR a184_64 ty121 rf121_1 (by decide) ?_
          refine r_pushI a184_67 ?_
          refine r_iald a184_68 ty122 (by omega) ?_
          rw [e0]
          refine r_icge a184_69 (fun h_69 => ?_) (fun h_69 => ?_)
          · refine r_iinc_5 a184_142 rfl (by omega) ?_
            refine r_goto a184_145 ?_
            refine ih (n + 1) m2 st2 _ _ (by push_cast; omega) ha hb hab kc2 sd2 ?_
            have en2 : (s 0 - (n : Int) - 1).toNat = n2 := by omega
            have es : setO s cl a b (n + 1) (setL s cl a b idn, -5) = setI s cl a b (0 + (n : Int)) (s 0 - (0 + (n : Int)) - 1).toNat (setO s cl a b n (setL s cl a b idn, -5)) := rfl
            rw [es, Int.zero_add, en2, ← hst]; exact hst2
          · exfalso
            omega
        | succ c2 ih2 =>
          intro n2 m2 st2 y7 hn2 kc2 sd2 hst2
          have e0 : m2 122 = s := (CpM_K kc2 hC).1
          have es : setI s cl a b n (n2 + 1) st = setU s cl a b n ((n : Int) + 1 + n2) (setI s cl a b n n2 st) := rfl
          have eu : setU s cl a b n ((n : Int) + 1 + n2) st2 = if setL s cl a b (swp n ((n : Int) + 1 + n2)) < st2.1 then (setL s cl a b (swp n ((n : Int) + 1 + n2)), 10 * (n : Int) + ((n : Int) + 1 + n2)) else st2 := rfl
          have hij : (n : Int) < (n : Int) + 1 + n2 := by omega
          have sw7 : ∀ x, 0 ≤ x → x < 7 → 0 ≤ swp n ((n : Int) + 1 + n2) x ∧ swp n ((n : Int) + 1 + n2) x < 7 := by
            intro x a b
            rw [swp_at hij]
            (repeat' split) <;> omega
          have sw0 : ∀ x, 0 ≤ x → x < s 0 → 0 ≤ swp n ((n : Int) + 1 + n2) x ∧ swp n ((n : Int) + 1 + n2) x < s 0 := by
            intro x a b
            rw [swp_at hij]
            (repeat' split) <;> omega
          have sd3 : Stands (up2 (up2 m2 126 (n : Int) ((n : Int) + 1 + n2)) 126 ((n : Int) + 1 + n2) (n : Int)) (swp n ((n : Int) + 1 + n2)) := by
            intro x x1 x2
            refine ⟨?_, sw7 x x1 x2⟩
            rw [up2_C, upC_s, up2_C, upC_s, upi_at, upi_at, (sd2 x x1 x2).1, swp_at hij]
          have kc3 : KM m (up2 (up2 m2 126 (n : Int) ((n : Int) + 1 + n2)) 126 ((n : Int) + 1 + n2) (n : Int)) := KM_up (KM_up kc2 (by omega)) (by omega)
          refine r_loadI a184_61 rfl ?_
          refine r_loadA a184_63 rfl (by decide) ?_
          refine r_getR a184_64 ty121 rf121_1 (by decide) ?_
          refine r_pushI a184_67 ?_
          refine r_iald a184_68 ty122 (by omega) ?_
          rw [e0]
          refine r_icge a184_69 (fun h_69 => ?_) (fun h_69 => ?_)
          · exfalso
            omega
          · refine r_loadA a184_72 rfl (by decide) ?_
            refine r_getR a184_73 ty121 rf121_13 (by decide) ?_
            refine r_loadI a184_76 rfl ?_
            refine r_loadI a184_78 rfl ?_
            refine r_iast a184_80 ty126 (by omega) ?_
            refine r_loadA a184_81 rfl (by decide) ?_
            refine r_getR a184_82 ty121 rf121_13 (by decide) ?_
            refine r_loadI a184_85 rfl ?_
            refine r_loadI a184_87 rfl ?_
            refine r_iast a184_89 ty126 (by omega) ?_
            refine r_loadA a184_90 rfl (by decide) ?_
            refine r_loadI a184_91 rfl ?_
            refine r_loadI a184_92 rfl ?_
            refine r_callI_3 a184_93 (Nat.le_of_ble_eq_true rfl) (le_mx mx183 (Nat.le_of_ble_eq_true rfl)) (Or.inr (recv_ok ty121 ow183 (by decide))) (c_Mo_leads e z _ s cl a b (swp n ((n : Int) + 1 + n2)) (by omega) (CpM_K kc3 hC) ha hb sd3 sw0) (fun x_93 m_93 h_93 => ?_)
            obtain ⟨g1, _, g2⟩ := h_93
            rw [g2]
            refine r_storeI_7 a184_96 rfl ?_
            refine r_loadA a184_98 rfl (by decide) ?_
            refine r_callV_1 a184_99 (Nat.le_of_ble_eq_true rfl) (le_mx mx149 (Nat.le_of_ble_eq_true rfl)) (Or.inr (recv_ok ty121 ow149 (by decide))) (tsd m_93) (fun m_99 h_99 => ?_)
            refine r_loadI a184_102 rfl ?_
            refine r_loadI a184_104 rfl ?_
            refine r_icge a184_105 (fun h_105 => ?_) (fun h_105 => ?_)
            · refine r_loadI a184_119 rfl ?_
              refine r_storeI_4 a184_121 rfl ?_
              refine r_loadI a184_123 rfl ?_
              refine r_loadI a184_125 rfl ?_
              refine r_icge a184_126 (fun h_126 => ?_) (fun h_126 => ?_)
              · refine r_loadI a184_134 rfl ?_
                refine r_storeI_3 a184_135 rfl ?_
                refine r_iinc_6 a184_136 rfl (by omega) ?_
                refine r_goto a184_139 ?_
                have ei : (n : Int) + 1 + ((n2 + 1 : Nat) : Int) = (n : Int) + 1 + (n2 : Int) + 1 := by push_cast; omega
                have q := ih2 (n2 + 1) m_99 (setU s cl a b n ((n : Int) + 1 + n2) st2) (vI (setL s cl a b (swp n ((n : Int) + 1 + n2)))) (by push_cast; omega) (KM.trans kc3 (KM.trans g1 h_99.1)) h_99.2 (by rw [es, hst2])
                rw [ei] at q
                first
                  | (exfalso; omega)
                  | (rw [eu, if_pos (by omega)] at q; exact q)
                  | (rw [eu, if_neg (by omega)] at q; exact q)
              · refine r_loadI a184_129 rfl ?_
                refine r_goto a184_131 ?_
                refine r_storeI_3 a184_135 rfl ?_
                refine r_iinc_6 a184_136 rfl (by omega) ?_
                refine r_goto a184_139 ?_
                have ei : (n : Int) + 1 + ((n2 + 1 : Nat) : Int) = (n : Int) + 1 + (n2 : Int) + 1 := by push_cast; omega
                have q := ih2 (n2 + 1) m_99 (setU s cl a b n ((n : Int) + 1 + n2) st2) (vI (setL s cl a b (swp n ((n : Int) + 1 + n2)))) (by push_cast; omega) (KM.trans kc3 (KM.trans g1 h_99.1)) h_99.2 (by rw [es, hst2])
                rw [ei] at q
                first
                  | (exfalso; omega)
                  | (rw [eu, if_pos (by omega)] at q; exact q)
                  | (rw [eu, if_neg (by omega)] at q; exact q)
            · refine r_pushI a184_108 ?_
              refine r_loadI a184_110 rfl ?_
              refine r_mul a184_112 (by omega) ?_
              refine r_loadI a184_113 rfl ?_
              refine r_add a184_115 (by omega) ?_
              refine r_goto a184_116 ?_
              refine r_storeI_4 a184_121 rfl ?_
              refine r_loadI a184_123 rfl ?_
              refine r_loadI a184_125 rfl ?_
              refine r_icge a184_126 (fun h_126 => ?_) (fun h_126 => ?_)
              · refine r_loadI a184_134 rfl ?_
                refine r_storeI_3 a184_135 rfl ?_
                refine r_iinc_6 a184_136 rfl (by omega) ?_
                refine r_goto a184_139 ?_
                have ei : (n : Int) + 1 + ((n2 + 1 : Nat) : Int) = (n : Int) + 1 + (n2 : Int) + 1 := by push_cast; omega
                have q := ih2 (n2 + 1) m_99 (setU s cl a b n ((n : Int) + 1 + n2) st2) (vI (setL s cl a b (swp n ((n : Int) + 1 + n2)))) (by push_cast; omega) (KM.trans kc3 (KM.trans g1 h_99.1)) h_99.2 (by rw [es, hst2])
                rw [ei] at q
                first
                  | (exfalso; omega)
                  | (rw [eu, if_pos (by omega)] at q; exact q)
                  | (rw [eu, if_neg (by omega)] at q; exact q)
              · refine r_loadI a184_129 rfl ?_
                refine r_goto a184_131 ?_
                refine r_storeI_3 a184_135 rfl ?_
                refine r_iinc_6 a184_136 rfl (by omega) ?_
                refine r_goto a184_139 ?_
                have ei : (n : Int) + 1 + ((n2 + 1 : Nat) : Int) = (n : Int) + 1 + (n2 : Int) + 1 := by push_cast; omega
                have q := ih2 (n2 + 1) m_99 (setU s cl a b n ((n : Int) + 1 + n2) st2) (vI (setL s cl a b (swp n ((n : Int) + 1 + n2)))) (by push_cast; omega) (KM.trans kc3 (KM.trans g1 h_99.1)) h_99.2 (by rw [es, hst2])
                rw [ei] at q
                first
                  | (exfalso; omega)
                  | (rw [eu, if_pos (by omega)] at q; exact q)
                  | (rw [eu, if_neg (by omega)] at q; exact q)
      have e0 : m1 122 = s := (CpM_K kc hC).1
      refine r_loadI a184_44 rfl ?_
      refine r_loadA a184_46 rfl (by decide) ?_
      refine r_getR a184_47 ty121 rf121_1 (by decide) ?_
      refine r_pushI a184_50 ?_
      refine r_iald a184_51 ty122 (by omega) ?_
      rw [e0]
      refine r_icge a184_52 (fun h_52 => ?_) (fun h_52 => ?_)
      · exfalso
        omega
      · refine r_loadI a184_55 rfl ?_
        refine r_pushI a184_57 ?_
        refine r_add a184_58 (by omega) ?_
        refine r_storeI_6 a184_59 rfl ?_
        have q := inner c 0 m1 st y7 (by push_cast at hn ⊢; omega) kc sd rfl
        have ei : (n : Int) + 1 + ((0 : Nat) : Int) = (n : Int) + 1 := by omega
        rw [ei] at q
        exact q
  refine r_entry mx184 rfl ?_
  refine r_loadA a184_0 rfl (by decide) ?_
  refine r_loadI a184_1 rfl ?_
  refine r_callI_2 a184_2 (Nat.le_of_ble_eq_true rfl) (le_mx mx122 (Nat.le_of_ble_eq_true rfl)) (Or.inr (recv_ok ty121 ow122 (by decide))) (c_Mo_isSk e z m s cl hC a (by omega)) (fun x_2 m_2 h_2 => ?_)
  obtain ⟨hm_2, h_2⟩ := h_2
  rw [hm_2]
  refine r_ifeq a184_5 (fun h_5 => ?_) (fun h_5 => ?_)
  · refine r_pushI a184_16 ?_
    refine r_retIq a184_17 ?_
    refine ⟨KM.refl m, ?_⟩
    unfold aSet; rw [if_pos]
    rintro ⟨a1, a2⟩
    first
      | exact (okD h_2).2 (by omega) a1
      | exact (okD h_10).2 (by omega) a2
  · refine r_loadA a184_8 rfl (by decide) ?_
    refine r_loadI a184_9 rfl ?_
    refine r_callI_2 a184_10 (Nat.le_of_ble_eq_true rfl) (le_mx mx122 (Nat.le_of_ble_eq_true rfl)) (Or.inr (recv_ok ty121 ow122 (by decide))) (c_Mo_isSk e z m s cl hC b (by omega)) (fun x_10 m_10 h_10 => ?_)
    obtain ⟨hm_10, h_10⟩ := h_10
    rw [hm_10]
    refine r_ifne a184_13 (fun h_13 => ?_) (fun h_13 => ?_)
    · have ha := (okD h_2).1 (by omega)
      have hb := (okD h_10).1 (by omega)
      refine r_loadI a184_18 rfl ?_
      refine r_loadI a184_19 rfl ?_
      refine r_icne a184_20 (fun h_20 => ?_) (fun h_20 => ?_)
      · refine r_loadA a184_26 rfl (by decide) ?_
        refine r_callV_1 a184_27 (Nat.le_of_ble_eq_true rfl) (le_mx mx149 (Nat.le_of_ble_eq_true rfl)) (Or.inr (recv_ok ty121 ow149 (by decide))) (tsd m) (fun m_27 h_27 => ?_)
        refine r_loadA a184_30 rfl (by decide) ?_
        refine r_loadI a184_31 rfl ?_
        refine r_loadI a184_32 rfl ?_
        refine r_callI_3 a184_33 (Nat.le_of_ble_eq_true rfl) (le_mx mx183 (Nat.le_of_ble_eq_true rfl)) (Or.inr (recv_ok ty121 ow183 (by decide))) (c_Mo_leads e z m_27 s cl a b idn (by omega) (CpM_K h_27.1 hC) ha hb h_27.2 (fun i x y => ⟨x, y⟩)) (fun x_33 m_33 h_33 => ?_)
        obtain ⟨g1, g3, g2⟩ := h_33
        rw [g2]
        refine r_storeI_3 a184_36 rfl ?_
        refine r_pushI a184_37 ?_
        refine r_storeI_4 a184_39 rfl ?_
        refine r_pushI a184_41 ?_
        refine r_storeI_5 a184_42 rfl ?_
        exact outer (s 0).toNat 0 m_33 (setL s cl a b idn, -5) _ _ (by omega) ha hb (by omega) (KM.trans h_27.1 g1) (by unfold Stands; rw [g3]; exact h_27.2) rfl
      · refine r_pushI a184_23 ?_
        refine r_retIq a184_25 ?_
        exact ⟨KM.refl m, by unfold aSet; rw [if_neg (fun q => q ⟨ha, hb⟩), if_pos (by omega)]⟩
    · refine r_pushI a184_16 ?_
      refine r_retIq a184_17 ?_
      refine ⟨KM.refl m, ?_⟩
      unfold aSet; rw [if_pos]
      rintro ⟨a1, a2⟩
      first
        | exact (okD h_2).2 (by omega) a1
        | exact (okD h_10).2 (by omega) a2
