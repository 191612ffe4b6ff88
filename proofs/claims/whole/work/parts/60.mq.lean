-- ===== the reference: its answers =====
def CpM (m : XM) (s : Int → Int) (cl : CLs) : Prop := m 122 = s ∧ okS s ∧ ClS s cl ∧ m 121 16 = 0
theorem CpM_K {m m' : XM} {s : Int → Int} {cl : CLs} (h : KM m m') (hC : CpM m s cl) : CpM m' s cl :=
  ⟨by rw [h.1 122 (by decide) (by decide)]; exact hC.1, hC.2.1, hC.2.2.1, by rw [h.2.2.2.1]; exact hC.2.2.2⟩
theorem CpM_A {m : XM} {s : Int → Int} {cl : CLs} (hC : CpM m s cl) {k n w : Int} (hk : sk s k) (hn : 0 ≤ n ∧ n ≤ 9999) (hw : w = 0 ∨ w = 1) : AskOk s cl k n w :=
  ⟨hC.2.1, hC.2.2.1, ⟨hk.1, by have := hC.2.1.1.2.1; have := hk.2; omega⟩, hn, hw⟩
theorem CpM_7 {m : XM} {s : Int → Int} {cl : CLs} (hC : CpM m s cl) : 0 ≤ s 7 ∧ s 7 ≤ 9999 := hC.2.1.1.2.2.2.2.2.2.2
theorem CpM_16 {m : XM} {s : Int → Int} {cl : CLs} (hC : CpM m s cl) : m 121 16 = 1 - 1 := by rw [hC.2.2.2]; rfl
theorem c_Mo_isSk (d z : Nat) (m : XM) (s : Int → Int) (cl : CLs) (hC : CpM m s cl) (k : Int) (hd : 1 ≤ d) : CI d k_Mo_isSkier z m [vR 121, vI k] (fun x m' => m' = m ∧ ((x = 1 ∧ sk s k) ∨ (x = 0 ∧ ¬ sk s k))) :=
  (c_Mo_isSkier d z m k hd (by rw [hC.1]; exact hC.2.1)).imp fun x m' ⟨h1, h2⟩ => ⟨h1, by rw [hC.1] at h2; exact h2⟩
theorem c_Mo_isGt (d z : Nat) (m : XM) (s : Int → Int) (cl : CLs) (hC : CpM m s cl) (k : Int) (hd : 1 ≤ d) : CI d k_Mo_isGate z m [vR 121, vI k] (fun x m' => m' = m ∧ ((x = 1 ∧ gt s k) ∨ (x = 0 ∧ ¬ gt s k))) :=
  (c_Mo_isGate d z m k hd (by rw [hC.1]; exact hC.2.1)).imp fun x m' ⟨h1, h2⟩ => ⟨h1, by rw [hC.1] at h2; exact h2⟩
theorem okD {P : Prop} {x : Int} (h : (x = 1 ∧ P) ∨ (x = 0 ∧ ¬ P)) : (x ≠ 0 → P) ∧ (x = 0 → ¬ P) := by
  rcases h with ⟨a, b⟩ | ⟨a, b⟩
  · exact ⟨fun _ => b, fun q => by omega⟩
  · exact ⟨fun q => absurd a q, fun _ => b⟩
theorem RnS_q {m : XM} {s : Int → Int} {cl : CLs} {k : Int} {l : Int → Int} (h : RnS m (eO s cl k (s 7)) (eT s cl k (s 7) 1) (eB s cl k (s 7)) l (s 0)) :
    m 121 28 = qT s cl k l (s 0).toNat ∧ m 121 29 = qP s cl k l (s 0).toNat ∧ m 121 30 = qZ s cl k l (s 0).toNat ∧ m 121 31 = qU s cl k l (s 0).toNat ∧ ∀ i, 0 ≤ i → i < s 0 → m 132 i = qTk s cl k l i ∧ m 133 i = qOv s cl k l i := by
  obtain ⟨h1, h2, h3, h4, h5⟩ := h
  refine ⟨h1, h2, h3, h4, fun i a b => ?_⟩
  have := h5 i.toNat (by omega)
  have e : ((i.toNat : Nat) : Int) = i := by omega
  rw [e] at this
  exact this
theorem c_Mo_planQ (d z : Nat) (m : XM) (s : Int → Int) (cl : CLs) (k : Int) (hd : 5 ≤ d) (hC : CpM m s cl) (hk : sk s k) :
    CV d k_Mo_runsByPlan z m [vR 121, vI k] (fun m' => KM m m' ∧ m' 121 28 = qT s cl k (lnS s) (s 0).toNat ∧ m' 121 29 = qP s cl k (lnS s) (s 0).toNat ∧ m' 121 30 = qZ s cl k (lnS s) (s 0).toNat ∧ m' 121 31 = qU s cl k (lnS s) (s 0).toNat ∧ ∀ i, 0 ≤ i → i < s 0 → m' 132 i = qTk s cl k (lnS s) i ∧ m' 133 i = qOv s cl k (lnS s) i) :=
  (c_Mo_runsByPlan d z m s cl k 1 hd (CpM_A hC hk (CpM_7 hC) (by omega)) hC.1 (CpM_16 hC)).imp fun m' ⟨h1, _, h3⟩ => ⟨FrR_KM h1, RnS_q h3⟩
theorem c_Mo_run (d z : Nat) (m : XM) (s : Int → Int) (cl : CLs) (k : Int) (hd : 6 ≤ d) (hC : CpM m s cl) :
    CI d k_Mo_run z m [vR 121, vI k] (fun x m' => (¬ sk s k ∧ x = -1 ∧ m' = m) ∨ (sk s k ∧ s 7 = 9999 ∧ x = -3 ∧ m' = m) ∨ (sk s k ∧ s 7 < 9999 ∧ x = qT s cl k (lnS s) (s 0).toNat ∧ ∃ m1, KM m m1 ∧ m' = up2 m1 122 7 (s 7 + 1))) := by
  obtain ⟨e, rfl⟩ : ∃ e, d = e + 1 := ⟨d - 1, by omega⟩
  have e122 := hC.1
  have r7 := CpM_7 hC
  refine r_entry mx155 rfl ?_
  refine r_loadA a155_0 rfl (by decide) ?_
  refine r_loadI a155_1 rfl ?_
  refine r_callI_2 a155_2 (Nat.le_of_ble_eq_true rfl) (le_mx mx122 (Nat.le_of_ble_eq_true rfl)) (Or.inr (recv_ok ty121 ow122 (by decide))) (c_Mo_isSk e z m s cl hC k (by omega)) (fun x_2 m_2 h_2 => ?_)
  obtain ⟨hm_2, h_2⟩ := h_2
  rw [hm_2]
  refine r_ifne a155_5 (fun h_5 => ?_) (fun h_5 => ?_)
  · refine r_loadA a155_10 rfl (by decide) ?_
    refine r_getR a155_11 ty121 rf121_1 (by decide) ?_
    refine r_pushI a155_14 ?_
    refine r_iald a155_16 ty122 (by omega) ?_
    refine r_pushI a155_17 ?_
    rw [e122]
    have hk := (okD h_2).1 (by omega)
    refine r_icne a155_20 (fun h_20 => ?_) (fun h_20 => ?_)
    · refine r_loadA a155_26 rfl (by decide) ?_
      refine r_loadI a155_27 rfl ?_
      refine r_callV_2 a155_28 (Nat.le_of_ble_eq_true rfl) (le_mx mx154 (Nat.le_of_ble_eq_true rfl)) (Or.inr (recv_ok ty121 ow154 (by decide))) (c_Mo_planQ e z m s cl k (by omega) hC hk) (fun m_28 h_28 => ?_)
      obtain ⟨g1, g2, g3⟩ := h_28
      have f122 : m_28 122 = s := (CpM_K g1 hC).1
      refine r_loadA a155_31 rfl (by decide) ?_
      refine r_getR a155_32 ty121 rf121_1 (by decide) ?_
      refine r_pushI a155_35 ?_
      refine r_dup2 a155_37 rfl rfl ?_
      refine r_iald a155_38 ty122 (by omega) ?_
      rw [f122]
      refine r_pushI a155_39 ?_
      refine r_add a155_40 (by omega) ?_
      refine r_iast a155_41 ty122 (by omega) ?_
      refine r_loadA a155_42 rfl (by decide) ?_
      refine r_getI (ki := 28) a155_43 ty121 rfl ?_
      refine r_retIq a155_46 ?_
      refine Or.inr (Or.inr ⟨hk, by omega, ?_, m_28, g1, rfl⟩)
      rw [up2_c (by decide)]; exact g2
    · refine r_pushI a155_23 ?_
      refine r_retIq a155_25 ?_
      exact Or.inr (Or.inl ⟨hk, by omega, rfl, rfl⟩)
  · refine r_pushI a155_8 ?_
    refine r_retIq a155_9 ?_
    exact Or.inl ⟨(okD h_2).2 (by omega), rfl, rfl⟩
theorem w32_gt {s : Int → Int} {v c : Int} (h0 : s 0 ≤ 7) (hv : -2147483648 ≤ v ∧ v < 2147483648) (hc : 0 ≤ c ∧ c ≤ 20) : gt s (w32 (v - c)) ↔ gt s (v - c) := by
  show (0 ≤ w32 (v - c) ∧ w32 (v - c) < s 0) ↔ (0 ≤ v - c ∧ v - c < s 0)
  unfold w32; omega
theorem c_Mo_would (d z : Nat) (m : XM) (s : Int → Int) (cl : CLs) (k v : Int) (hd : 6 ≤ d) (hC : CpM m s cl) (hv : -2147483648 ≤ v ∧ v < 2147483648) :
    CI d k_Mo_would z m [vR 121, vI k, vI v] (fun x m' => KM m m' ∧ x = aWould s cl k v) := by
  obtain ⟨e, rfl⟩ : ∃ e, d = e + 1 := ⟨d - 1, by omega⟩
  have hN := hC.2.1.1.1
  have hz := rnZ_r (eO s cl k (s 7)) (eB s cl k (s 7)) (lnS s) (s 0).toNat
  have w10 := w32_gt (s := s) (v := v) (c := 10) hN.2 hv (by omega)
  have w20 := w32_gt (s := s) (v := v) (c := 20) hN.2 hv (by omega)
  refine r_entry mx156 rfl ?_
  refine r_loadA a156_0 rfl (by decide) ?_
  refine r_loadI a156_1 rfl ?_
  refine r_callI_2 a156_2 (Nat.le_of_ble_eq_true rfl) (le_mx mx122 (Nat.le_of_ble_eq_true rfl)) (Or.inr (recv_ok ty121 ow122 (by decide))) (c_Mo_isSk e z m s cl hC k (by omega)) (fun x_2 m_2 h_2 => ?_)
  obtain ⟨hm_2, h_2⟩ := h_2
  rw [hm_2]
  refine r_ifeq a156_5 (fun h_5 => ?_) (fun h_5 => ?_)
  · refine r_pushI a156_39 ?_
    refine r_retIq a156_40 ?_
    refine ⟨KM.refl m, ?_⟩
    unfold aWould
    first
      | rw [if_pos ((okD h_2).2 (by omega))]
      | rw [if_neg (fun q => q ((okD h_2).1 (by omega))), if_neg (by omega), if_neg (by omega), if_neg (by omega), if_neg ((okD h_22).2 (by omega)), if_neg ((okD h_33).2 (by omega))]
  · refine r_loadI a156_8 rfl ?_
    refine r_pushI a156_9 ?_
    refine r_pushI a156_10 ?_
    refine r_callI_3 a156_11 (Nat.le_of_ble_eq_true rfl) (le_mx mx119 (Nat.le_of_ble_eq_true rfl)) (Or.inl rfl) (c_Mo_in e z m v 0 2) (fun x_11 m_11 h_11 => ?_)
    obtain ⟨hm_11, h_11⟩ := h_11
    rw [hm_11]
    refine r_ifne a156_14 (fun h_14 => ?_) (fun h_14 => ?_)
    · refine r_loadA a156_41 rfl (by decide) ?_
      refine r_loadI a156_42 rfl ?_
      have hk := (okD h_2).1 (by omega)
      have hw : aWould s cl k v = if v = 0 then qT s cl k (lnS s) (s 0).toNat else if v = 1 then qP s cl k (lnS s) (s 0).toNat else if v = 2 then qZ s cl k (lnS s) (s 0).toNat else if gt s (v - 10) then qTk s cl k (lnS s) (v - 10) else if gt s (v - 20) then qOv s cl k (lnS s) (v - 20) else -1 := by
        unfold aWould; rw [if_neg (fun q => q hk)]
      have hcase : (0 ≤ v ∧ v ≤ 2) ∨ (¬ (0 ≤ v ∧ v ≤ 2) ∧ gt s (v - 10)) ∨ (¬ (0 ≤ v ∧ v ≤ 2) ∧ ¬ gt s (v - 10) ∧ gt s (v - 20)) := by
        first
          | (left; omega)
          | (right; left; exact ⟨by omega, (okD h_22).1 (by omega)⟩)
          | (right; right; exact ⟨by omega, (okD h_22).2 (by omega), (okD h_33).1 (by omega)⟩)
      refine r_callV_2 a156_43 (Nat.le_of_ble_eq_true rfl) (le_mx mx154 (Nat.le_of_ble_eq_true rfl)) (Or.inr (recv_ok ty121 ow154 (by decide))) (c_Mo_planQ e z m s cl k (by omega) hC hk) (fun m_43 h_43 => ?_)
      obtain ⟨g1, g2, g3, g4, g5, g6⟩ := h_43
      have g4' : m_43 121 30 = rnZ (eO s cl k (s 7)) (eB s cl k (s 7)) (lnS s) (s 0).toNat := g4
      refine r_loadI a156_46 rfl ?_
      refine r_ifne a156_47 (fun h_47 => ?_) (fun h_47 => ?_)
      · refine r_loadI a156_57 rfl ?_
        refine r_pushI a156_58 ?_
        refine r_icne a156_59 (fun h_59 => ?_) (fun h_59 => ?_)
        · refine r_loadI a156_69 rfl ?_
          refine r_pushI a156_70 ?_
          refine r_icne a156_71 (fun h_71 => ?_) (fun h_71 => ?_)
          · refine r_loadI a156_89 rfl ?_
            refine r_pushI a156_90 ?_
            refine r_icge a156_92 (fun h_92 => ?_) (fun h_92 => ?_)
            · have hg : 0 ≤ v - 20 ∧ v - 20 < s 0 := by omega
              refine r_loadA a156_107 rfl (by decide) ?_
              refine r_getR a156_108 ty121 rf121_26 (by decide) ?_
              refine r_loadI a156_111 rfl ?_
              refine r_pushI a156_112 ?_
              refine r_sub a156_114 (by omega) ?_
              refine r_iald a156_115 ty133 (by omega) ?_
              refine r_retIq a156_116 ?_
              refine ⟨g1, ?_⟩
              rw [hw]
              first
                | (rw [if_pos (by omega)]; exact g2)
                | (rw [if_neg (by omega), if_pos (by omega)]; exact g3)
                | (rw [if_neg (by omega), if_neg (by omega), if_pos (by omega)]
                   show _ = rnZ _ _ _ _
                   omega)
                | (rw [if_neg (by omega), if_neg (by omega), if_neg (by omega), if_pos (by omega)]; exact (g6 _ hg.1 hg.2).1)
                | (rw [if_neg (by omega), if_neg (by omega), if_neg (by omega), if_neg (by omega), if_pos (by omega)]; exact (g6 _ hg.1 hg.2).2)
            · have hg : 0 ≤ v - 10 ∧ v - 10 < s 0 := by omega
              refine r_loadA a156_95 rfl (by decide) ?_
              refine r_getR a156_96 ty121 rf121_25 (by decide) ?_
              refine r_loadI a156_99 rfl ?_
              refine r_pushI a156_100 ?_
              refine r_sub a156_102 (by omega) ?_
              refine r_iald a156_103 ty132 (by omega) ?_
              refine r_goto a156_104 ?_
              refine r_retIq a156_116 ?_
              refine ⟨g1, ?_⟩
              rw [hw]
              first
                | (rw [if_pos (by omega)]; exact g2)
                | (rw [if_neg (by omega), if_pos (by omega)]; exact g3)
                | (rw [if_neg (by omega), if_neg (by omega), if_pos (by omega)]
                   show _ = rnZ _ _ _ _
                   omega)
                | (rw [if_neg (by omega), if_neg (by omega), if_neg (by omega), if_pos (by omega)]; exact (g6 _ hg.1 hg.2).1)
                | (rw [if_neg (by omega), if_neg (by omega), if_neg (by omega), if_neg (by omega), if_pos (by omega)]; exact (g6 _ hg.1 hg.2).2)
          · refine r_loadA a156_74 rfl (by decide) ?_
            refine r_getI (ki := 30) a156_75 ty121 rfl ?_
            rw [g4']
            refine r_ifeq a156_78 (fun h_78 => ?_) (fun h_78 => ?_)
            · refine r_pushI a156_85 ?_
              refine r_goto a156_86 ?_
              refine r_retIq a156_116 ?_
              refine ⟨g1, ?_⟩
              rw [hw]
              first
                | (rw [if_pos (by omega)]; exact g2)
                | (rw [if_neg (by omega), if_pos (by omega)]; exact g3)
                | (rw [if_neg (by omega), if_neg (by omega), if_pos (by omega)]
                   show _ = rnZ _ _ _ _
                   omega)
                | (rw [if_neg (by omega), if_neg (by omega), if_neg (by omega), if_pos (by omega)]; exact (g6 _ hg.1 hg.2).1)
                | (rw [if_neg (by omega), if_neg (by omega), if_neg (by omega), if_neg (by omega), if_pos (by omega)]; exact (g6 _ hg.1 hg.2).2)
            · refine r_pushI a156_81 ?_
              refine r_goto a156_82 ?_
              refine r_retIq a156_116 ?_
              refine ⟨g1, ?_⟩
              rw [hw]
              first
                | (rw [if_pos (by omega)]; exact g2)
                | (rw [if_neg (by omega), if_pos (by omega)]; exact g3)
                | (rw [if_neg (by omega), if_neg (by omega), if_pos (by omega)]
                   show _ = rnZ _ _ _ _
                   omega)
                | (rw [if_neg (by omega), if_neg (by omega), if_neg (by omega), if_pos (by omega)]; exact (g6 _ hg.1 hg.2).1)
                | (rw [if_neg (by omega), if_neg (by omega), if_neg (by omega), if_neg (by omega), if_pos (by omega)]; exact (g6 _ hg.1 hg.2).2)
        · refine r_loadA a156_62 rfl (by decide) ?_
          refine r_getI (ki := 29) a156_63 ty121 rfl ?_
          refine r_goto a156_66 ?_
          refine r_retIq a156_116 ?_
          refine ⟨g1, ?_⟩
          rw [hw]
          first
            | (rw [if_pos (by omega)]; exact g2)
            | (rw [if_neg (by omega), if_pos (by omega)]; exact g3)
            | (rw [if_neg (by omega), if_neg (by omega), if_pos (by omega)]
               show _ = rnZ _ _ _ _
               omega)
            | (rw [if_neg (by omega), if_neg (by omega), if_neg (by omega), if_pos (by omega)]; exact (g6 _ hg.1 hg.2).1)
            | (rw [if_neg (by omega), if_neg (by omega), if_neg (by omega), if_neg (by omega), if_pos (by omega)]; exact (g6 _ hg.1 hg.2).2)
      · refine r_loadA a156_50 rfl (by decide) ?_
        refine r_getI (ki := 28) a156_51 ty121 rfl ?_
        refine r_goto a156_54 ?_
        refine r_retIq a156_116 ?_
        refine ⟨g1, ?_⟩
        rw [hw]
        first
          | (rw [if_pos (by omega)]; exact g2)
          | (rw [if_neg (by omega), if_pos (by omega)]; exact g3)
          | (rw [if_neg (by omega), if_neg (by omega), if_pos (by omega)]
             show _ = rnZ _ _ _ _
             omega)
          | (rw [if_neg (by omega), if_neg (by omega), if_neg (by omega), if_pos (by omega)]; exact (g6 _ hg.1 hg.2).1)
          | (rw [if_neg (by omega), if_neg (by omega), if_neg (by omega), if_neg (by omega), if_pos (by omega)]; exact (g6 _ hg.1 hg.2).2)
    · refine r_loadA a156_17 rfl (by decide) ?_
      refine r_loadI a156_18 rfl ?_
      refine r_pushI a156_19 ?_
      refine r_subW a156_21 ?_
      refine r_callI_2 a156_22 (Nat.le_of_ble_eq_true rfl) (le_mx mx121 (Nat.le_of_ble_eq_true rfl)) (Or.inr (recv_ok ty121 ow121 (by decide))) (c_Mo_isGt e z m s cl hC (w32 (v - 10)) (by omega)) (fun x_22 m_22 h_22 => ?_)
      obtain ⟨hm_22, h_22⟩ := h_22
      rw [hm_22]
      rw [w10] at h_22
      refine r_ifne a156_25 (fun h_25 => ?_) (fun h_25 => ?_)
      · refine r_loadA a156_41 rfl (by decide) ?_
        refine r_loadI a156_42 rfl ?_
        have hk := (okD h_2).1 (by omega)
        have hw : aWould s cl k v = if v = 0 then qT s cl k (lnS s) (s 0).toNat else if v = 1 then qP s cl k (lnS s) (s 0).toNat else if v = 2 then qZ s cl k (lnS s) (s 0).toNat else if gt s (v - 10) then qTk s cl k (lnS s) (v - 10) else if gt s (v - 20) then qOv s cl k (lnS s) (v - 20) else -1 := by
          unfold aWould; rw [if_neg (fun q => q hk)]
        have hcase : (0 ≤ v ∧ v ≤ 2) ∨ (¬ (0 ≤ v ∧ v ≤ 2) ∧ gt s (v - 10)) ∨ (¬ (0 ≤ v ∧ v ≤ 2) ∧ ¬ gt s (v - 10) ∧ gt s (v - 20)) := by
          first
            | (left; omega)
            | (right; left; exact ⟨by omega, (okD h_22).1 (by omega)⟩)
            | (right; right; exact ⟨by omega, (okD h_22).2 (by omega), (okD h_33).1 (by omega)⟩)
        refine r_callV_2 a156_43 (Nat.le_of_ble_eq_true rfl) (le_mx mx154 (Nat.le_of_ble_eq_true rfl)) (Or.inr (recv_ok ty121 ow154 (by decide))) (c_Mo_planQ e z m s cl k (by omega) hC hk) (fun m_43 h_43 => ?_)
        obtain ⟨g1, g2, g3, g4, g5, g6⟩ := h_43
        have g4' : m_43 121 30 = rnZ (eO s cl k (s 7)) (eB s cl k (s 7)) (lnS s) (s 0).toNat := g4
        refine r_loadI a156_46 rfl ?_
        refine r_ifne a156_47 (fun h_47 => ?_) (fun h_47 => ?_)
        · refine r_loadI a156_57 rfl ?_
          refine r_pushI a156_58 ?_
          refine r_icne a156_59 (fun h_59 => ?_) (fun h_59 => ?_)
          · refine r_loadI a156_69 rfl ?_
            refine r_pushI a156_70 ?_
            refine r_icne a156_71 (fun h_71 => ?_) (fun h_71 => ?_)
            · refine r_loadI a156_89 rfl ?_
              refine r_pushI a156_90 ?_
              refine r_icge a156_92 (fun h_92 => ?_) (fun h_92 => ?_)
              · have hg : 0 ≤ v - 20 ∧ v - 20 < s 0 := by omega
                refine r_loadA a156_107 rfl (by decide) ?_
                refine r_getR a156_108 ty121 rf121_26 (by decide) ?_
                refine r_loadI a156_111 rfl ?_
                refine r_pushI a156_112 ?_
                refine r_sub a156_114 (by omega) ?_
                refine r_iald a156_115 ty133 (by omega) ?_
                refine r_retIq a156_116 ?_
                refine ⟨g1, ?_⟩
                rw [hw]
                first
                  | (rw [if_pos (by omega)]; exact g2)
                  | (rw [if_neg (by omega), if_pos (by omega)]; exact g3)
                  | (rw [if_neg (by omega), if_neg (by omega), if_pos (by omega)]
                     show _ = rnZ _ _ _ _
                     omega)
                  | (rw [if_neg (by omega), if_neg (by omega), if_neg (by omega), if_pos (by omega)]; exact (g6 _ hg.1 hg.2).1)
                  | (rw [if_neg (by omega), if_neg (by omega), if_neg (by omega), if_neg (by omega), if_pos (by omega)]; exact (g6 _ hg.1 hg.2).2)
              · have hg : 0 ≤ v - 10 ∧ v - 10 < s 0 := by omega
                refine r_loadA a156_95 rfl (by decide) ?_
                refine r_getR a156_96 ty121 rf121_25 (by decide) ?_
                refine r_loadI a156_99 rfl ?_
                refine r_pushI a156_100 ?_
                refine r_sub a156_102 (by omega) ?_
                refine r_iald a156_103 ty132 (by omega) ?_
                refine r_goto a156_104 ?_
                refine r_retIq a156_116 ?_
                refine ⟨g1, ?_⟩
                rw [hw]
                first
                  | (rw [if_pos (by omega)]; exact g2)
                  | (rw [if_neg (by omega), if_pos (by omega)]; exact g3)
                  | (rw [if_neg (by omega), if_neg (by omega), if_pos (by omega)]
                     show _ = rnZ _ _ _ _
                     omega)
                  | (rw [if_neg (by omega), if_neg (by omega), if_neg (by omega), if_pos (by omega)]; exact (g6 _ hg.1 hg.2).1)
                  | (rw [if_neg (by omega), if_neg (by omega), if_neg (by omega), if_neg (by omega), if_pos (by omega)]; exact (g6 _ hg.1 hg.2).2)
            · refine r_loadA a156_74 rfl (by decide) ?_
              refine r_getI (ki := 30) a156_75 ty121 rfl ?_
              rw [g4']
              refine r_ifeq a156_78 (fun h_78 => ?_) (fun h_78 => ?_)
              · refine r_pushI a156_85 ?_
                refine r_goto a156_86 ?_
                refine r_retIq a156_116 ?_
                refine ⟨g1, ?_⟩
                rw [hw]
                first
                  | (rw [if_pos (by omega)]; exact g2)
                  | (rw [if_neg (by omega), if_pos (by omega)]; exact g3)
                  | (rw [if_neg (by omega), if_neg (by omega), if_pos (by omega)]
                     show _ = rnZ _ _ _ _
                     omega)
                  | (rw [if_neg (by omega), if_neg (by omega), if_neg (by omega), if_pos (by omega)]; exact (g6 _ hg.1 hg.2).1)
                  | (rw [if_neg (by omega), if_neg (by omega), if_neg (by omega), if_neg (by omega), if_pos (by omega)]; exact (g6 _ hg.1 hg.2).2)
              · refine r_pushI a156_81 ?_
                refine r_goto a156_82 ?_
                refine r_retIq a156_116 ?_
                refine ⟨g1, ?_⟩
                rw [hw]
                first
                  | (rw [if_pos (by omega)]; exact g2)
                  | (rw [if_neg (by omega), if_pos (by omega)]; exact g3)
                  | (rw [if_neg (by omega), if_neg (by omega), if_pos (by omega)]
                     show _ = rnZ _ _ _ _
                     omega)
                  | (rw [if_neg (by omega), if_neg (by omega), if_neg (by omega), if_pos (by omega)]; exact (g6 _ hg.1 hg.2).1)
                  | (rw [if_neg (by omega), if_neg (by omega), if_neg (by omega), if_neg (by omega), if_pos (by omega)]; exact (g6 _ hg.1 hg.2).2)
          · refine r_loadA a156_62 rfl (by decide) ?_
            refine r_getI (ki := 29) a156_63 ty121 rfl ?_
            refine r_goto a156_66 ?_
            refine r_retIq a156_116 ?_
            refine ⟨g1, ?_⟩
            rw [hw]
            first
              | (rw [if_pos (by omega)]; exact g2)
              | (rw [if_neg (by omega), if_pos (by omega)]; exact g3)
              | (rw [if_neg (by omega), if_neg (by omega), if_pos (by omega)]
                 show _ = rnZ _ _ _ _
                 omega)
              | (rw [if_neg (by omega), if_neg (by omega), if_neg (by omega), if_pos (by omega)]; exact (g6 _ hg.1 hg.2).1)
              | (rw [if_neg (by omega), if_neg (by omega), if_neg (by omega), if_neg (by omega), if_pos (by omega)]; exact (g6 _ hg.1 hg.2).2)
        · refine r_loadA a156_50 rfl (by decide) ?_
          refine r_getI (ki := 28) a156_51 ty121 rfl ?_
          refine r_goto a156_54 ?_
          refine r_retIq a156_116 ?_
          refine ⟨g1, ?_⟩
          rw [hw]
          first
            | (rw [if_pos (by omega)]; exact g2)
            | (rw [if_neg (by omega), if_pos (by omega)]; exact g3)
            | (rw [if_neg (by omega), if_neg (by omega), if_pos (by omega)]
               show _ = rnZ _ _ _ _
               omega)
            | (rw [if_neg (by omega), if_neg (by omega), if_neg (by omega), if_pos (by omega)]; exact (g6 _ hg.1 hg.2).1)
            | (rw [if_neg (by omega), if_neg (by omega), if_neg (by omega), if_neg (by omega), if_pos (by omega)]; exact (g6 _ hg.1 hg.2).2)
      · refine r_loadA a156_28 rfl (by decide) ?_
        refine r_loadI a156_29 rfl ?_
        refine r_pushI a156_30 ?_
        refine r_subW a156_32 ?_
        refine r_callI_2 a156_33 (Nat.le_of_ble_eq_true rfl) (le_mx mx121 (Nat.le_of_ble_eq_true rfl)) (Or.inr (recv_ok ty121 ow121 (by decide))) (c_Mo_isGt e z m s cl hC (w32 (v - 20)) (by omega)) (fun x_33 m_33 h_33 => ?_)
        obtain ⟨hm_33, h_33⟩ := h_33
        rw [hm_33]
        rw [w20] at h_33
        refine r_ifne a156_36 (fun h_36 => ?_) (fun h_36 => ?_)
        · refine r_loadA a156_41 rfl (by decide) ?_
          refine r_loadI a156_42 rfl ?_
          have hk := (okD h_2).1 (by omega)
          have hw : aWould s cl k v = if v = 0 then qT s cl k (lnS s) (s 0).toNat else if v = 1 then qP s cl k (lnS s) (s 0).toNat else if v = 2 then qZ s cl k (lnS s) (s 0).toNat else if gt s (v - 10) then qTk s cl k (lnS s) (v - 10) else if gt s (v - 20) then qOv s cl k (lnS s) (v - 20) else -1 := by
            unfold aWould; rw [if_neg (fun q => q hk)]
          have hcase : (0 ≤ v ∧ v ≤ 2) ∨ (¬ (0 ≤ v ∧ v ≤ 2) ∧ gt s (v - 10)) ∨ (¬ (0 ≤ v ∧ v ≤ 2) ∧ ¬ gt s (v - 10) ∧ gt s (v - 20)) := by
            first
              | (left; omega)
              | (right; left; exact ⟨by omega, (okD h_22).1 (by omega)⟩)
              | (right; right; exact ⟨by omega, (okD h_22).2 (by omega), (okD h_33).1 (by omega)⟩)
          refine r_callV_2 a156_43 (Nat.le_of_ble_eq_true rfl) (le_mx mx154 (Nat.le_of_ble_eq_true rfl)) (Or.inr (recv_ok ty121 ow154 (by decide))) (c_Mo_planQ e z m s cl k (by omega) hC hk) (fun m_43 h_43 => ?_)
          obtain ⟨g1, g2, g3, g4, g5, g6⟩ := h_43
          have g4' : m_43 121 30 = rnZ (eO s cl k (s 7)) (eB s cl k (s 7)) (lnS s) (s 0).toNat := g4
          refine r_loadI a156_46 rfl ?_
          refine r_ifne a156_47 (fun h_47 => ?_) (fun h_47 => ?_)
          · refine r_loadI a156_57 rfl ?_
            refine r_pushI a156_58 ?_
            refine r_icne a156_59 (fun h_59 => ?_) (fun h_59 => ?_)
            · refine r_loadI a156_69 rfl ?_
              refine r_pushI a156_70 ?_
              refine r_icne a156_71 (fun h_71 => ?_) (fun h_71 => ?_)
              · refine r_loadI a156_89 rfl ?_
                refine r_pushI a156_90 ?_
                refine r_icge a156_92 (fun h_92 => ?_) (fun h_92 => ?_)
                · have hg : 0 ≤ v - 20 ∧ v - 20 < s 0 := by omega
                  refine r_loadA a156_107 rfl (by decide) ?_
                  refine r_getR a156_108 ty121 rf121_26 (by decide) ?_
                  refine r_loadI a156_111 rfl ?_
                  refine r_pushI a156_112 ?_
                  refine r_sub a156_114 (by omega) ?_
                  refine r_iald a156_115 ty133 (by omega) ?_
                  refine r_retIq a156_116 ?_
                  refine ⟨g1, ?_⟩
                  rw [hw]
                  first
                    | (rw [if_pos (by omega)]; exact g2)
                    | (rw [if_neg (by omega), if_pos (by omega)]; exact g3)
                    | (rw [if_neg (by omega), if_neg (by omega), if_pos (by omega)]
                       show _ = rnZ _ _ _ _
                       omega)
                    | (rw [if_neg (by omega), if_neg (by omega), if_neg (by omega), if_pos (by omega)]; exact (g6 _ hg.1 hg.2).1)
                    | (rw [if_neg (by omega), if_neg (by omega), if_neg (by omega), if_neg (by omega), if_pos (by omega)]; exact (g6 _ hg.1 hg.2).2)
                · have hg : 0 ≤ v - 10 ∧ v - 10 < s 0 := by omega
                  refine r_loadA a156_95 rfl (by decide) ?_
                  refine r_getR a156_96 ty121 rf121_25 (by decide) ?_
                  refine r_loadI a156_99 rfl ?_
                  refine r_pushI a156_100 ?_
                  refine r_sub a156_102 (by omega) ?_
                  refine r_iald a156_103 ty132 (by omega) ?_
                  refine r_goto a156_104 ?_
                  refine r_retIq a156_116 ?_
                  refine ⟨g1, ?_⟩
                  rw [hw]
                  first
                    | (rw [if_pos (by omega)]; exact g2)
                    | (rw [if_neg (by omega), if_pos (by omega)]; exact g3)
                    | (rw [if_neg (by omega), if_neg (by omega), if_pos (by omega)]
                       show _ = rnZ _ _ _ _
                       omega)
                    | (rw [if_neg (by omega), if_neg (by omega), if_neg (by omega), if_pos (by omega)]; exact (g6 _ hg.1 hg.2).1)
                    | (rw [if_neg (by omega), if_neg (by omega), if_neg (by omega), if_neg (by omega), if_pos (by omega)]; exact (g6 _ hg.1 hg.2).2)
              · refine r_loadA a156_74 rfl (by decide) ?_
                refine r_getI (ki := 30) a156_75 ty121 rfl ?_
                rw [g4']
                refine r_ifeq a156_78 (fun h_78 => ?_) (fun h_78 => ?_)
                · refine r_pushI a156_85 ?_
                  refine r_goto a156_86 ?_
                  refine r_retIq a156_116 ?_
                  refine ⟨g1, ?_⟩
                  rw [hw]
                  first
                    | (rw [if_pos (by omega)]; exact g2)
                    | (rw [if_neg (by omega), if_pos (by omega)]; exact g3)
                    | (rw [if_neg (by omega), if_neg (by omega), if_pos (by omega)]
                       show _ = rnZ _ _ _ _
                       omega)
                    | (rw [if_neg (by omega), if_neg (by omega), if_neg (by omega), if_pos (by omega)]; exact (g6 _ hg.1 hg.2).1)
                    | (rw [if_neg (by omega), if_neg (by omega), if_neg (by omega), if_neg (by omega), if_pos (by omega)]; exact (g6 _ hg.1 hg.2).2)
                · refine r_pushI a156_81 ?_
                  refine r_goto a156_82 ?_
                  refine r_retIq a156_116 ?_
                  refine ⟨g1, ?_⟩
                  rw [hw]
                  first
                    | (rw [if_pos (by omega)]; exact g2)
                    | (rw [if_neg (by omega), if_pos (by omega)]; exact g3)
                    | (rw [if_neg (by omega), if_neg (by omega), if_pos (by omega)]
                       show _ = rnZ _ _ _ _
                       omega)
                    | (rw [if_neg (by omega), if_neg (by omega), if_neg (by omega), if_pos (by omega)]; exact (g6 _ hg.1 hg.2).1)
                    | (rw [if_neg (by omega), if_neg (by omega), if_neg (by omega), if_neg (by omega), if_pos (by omega)]; exact (g6 _ hg.1 hg.2).2)
            · refine r_loadA a156_62 rfl (by decide) ?_
              refine r_getI (ki := 29) a156_63 ty121 rfl ?_
              refine r_goto a156_66 ?_
              refine r_retIq a156_116 ?_
              refine ⟨g1, ?_⟩
              rw [hw]
              first
                | (rw [if_pos (by omega)]; exact g2)
                | (rw [if_neg (by omega), if_pos (by omega)]; exact g3)
                | (rw [if_neg (by omega), if_neg (by omega), if_pos (by omega)]
                   show _ = rnZ _ _ _ _
                   omega)
                | (rw [if_neg (by omega), if_neg (by omega), if_neg (by omega), if_pos (by omega)]; exact (g6 _ hg.1 hg.2).1)
                | (rw [if_neg (by omega), if_neg (by omega), if_neg (by omega), if_neg (by omega), if_pos (by omega)]; exact (g6 _ hg.1 hg.2).2)
          · refine r_loadA a156_50 rfl (by decide) ?_
            refine r_getI (ki := 28) a156_51 ty121 rfl ?_
            refine r_goto a156_54 ?_
            refine r_retIq a156_116 ?_
            refine ⟨g1, ?_⟩
            rw [hw]
            first
              | (rw [if_pos (by omega)]; exact g2)
              | (rw [if_neg (by omega), if_pos (by omega)]; exact g3)
              | (rw [if_neg (by omega), if_neg (by omega), if_pos (by omega)]
                 show _ = rnZ _ _ _ _
                 omega)
              | (rw [if_neg (by omega), if_neg (by omega), if_neg (by omega), if_pos (by omega)]; exact (g6 _ hg.1 hg.2).1)
              | (rw [if_neg (by omega), if_neg (by omega), if_neg (by omega), if_neg (by omega), if_pos (by omega)]; exact (g6 _ hg.1 hg.2).2)
        · refine r_pushI a156_39 ?_
          refine r_retIq a156_40 ?_
          refine ⟨KM.refl m, ?_⟩
          unfold aWould
          first
            | rw [if_pos ((okD h_2).2 (by omega))]
            | rw [if_neg (fun q => q ((okD h_2).1 (by omega))), if_neg (by omega), if_neg (by omega), if_neg (by omega), if_neg ((okD h_22).2 (by omega)), if_neg ((okD h_33).2 (by omega))]
theorem c_Mo_low (d z : Nat) (m : XM) (a b p : Int) (ha : 0 ≤ a ∧ a < 9223372036854775808) (hb : 0 < b ∧ b < 9223372036854775808) :
    CL d k_Mo_lowest z m [vL a, vL b, vI p] (fun x m' => m' = m ∧ x = lowQ a b p) := by
  have h := c_Mo_lowest d z m a.toNat b.toNat p (by omega) (by omega)
  rw [Int.toNat_of_nonneg ha.1, Int.toNat_of_nonneg (show 0 ≤ b by omega)] at h
  exact h
theorem CpM_e {m : XM} {s : Int → Int} {cl : CLs} (hC : CpM m s cl) : (∀ c ∈ cl, okC c) ∧ cl.length ≤ 10 := hC.2.2.1.2
theorem c_Mo_up (d z : Nat) (m : XM) (s : Int → Int) (cl : CLs) (k p : Int) (hd : 6 ≤ d) (hC : CpM m s cl) :
    CL d k_Mo_up z m [vR 121, vI k, vI p] (fun x m' => KM m m' ∧ x = aUp s cl k p) := by
  obtain ⟨e, rfl⟩ : ∃ e, d = e + 1 := ⟨d - 1, by omega⟩
  have hN := hC.2.1.1.1
  have hU := qU_r (k := k) hC.2.1 (CpM_e hC).1 (CpM_e hC).2 (lnS_r hC.2.1)
  have hp20 := p20_pos (s 0).toNat
  have hp20b := p20_le (s 0).toNat (by omega)
  refine r_entry mx159 rfl ?_
  refine r_loadA a159_0 rfl (by decide) ?_
  refine r_loadI a159_1 rfl ?_
  refine r_callI_2 a159_2 (Nat.le_of_ble_eq_true rfl) (le_mx mx122 (Nat.le_of_ble_eq_true rfl)) (Or.inr (recv_ok ty121 ow122 (by decide))) (c_Mo_isSk e z m s cl hC k (by omega)) (fun x_2 m_2 h_2 => ?_)
  obtain ⟨hm_2, h_2⟩ := h_2
  rw [hm_2]
  refine r_ifeq a159_5 (fun h_5 => ?_) (fun h_5 => ?_)
  · refine r_pushL a159_17 ?_
    refine r_retLq a159_20 ?_
    refine ⟨KM.refl m, ?_⟩
    unfold aUp; rw [if_neg]
    rintro ⟨a, b⟩
    first
      | exact (okD h_2).2 (by omega) a
      | omega
  · refine r_loadI a159_8 rfl ?_
    refine r_pushI a159_9 ?_
    refine r_pushI a159_10 ?_
    refine r_callI_3 a159_11 (Nat.le_of_ble_eq_true rfl) (le_mx mx119 (Nat.le_of_ble_eq_true rfl)) (Or.inl rfl) (c_Mo_in e z m p 0 1) (fun x_11 m_11 h_11 => ?_)
    obtain ⟨hm_11, h_11⟩ := h_11
    rw [hm_11]
    refine r_ifne a159_14 (fun h_14 => ?_) (fun h_14 => ?_)
    · refine r_loadA a159_21 rfl (by decide) ?_
      refine r_loadI a159_22 rfl ?_
      have hk := (okD h_2).1 (by omega)
      refine r_callV_2 a159_23 (Nat.le_of_ble_eq_true rfl) (le_mx mx154 (Nat.le_of_ble_eq_true rfl)) (Or.inr (recv_ok ty121 ow154 (by decide))) (c_Mo_planQ e z m s cl k (by omega) hC hk) (fun m_23 h_23 => ?_)
      obtain ⟨g1, _, _, _, g5, _⟩ := h_23
      have f122 : m_23 122 = s := (CpM_K g1 hC).1
      refine r_loadA a159_26 rfl (by decide) ?_
      refine r_getL (ki := 31) a159_27 ty121 rfl ?_
      rw [g5]
      refine r_loadA a159_30 rfl (by decide) ?_
      refine r_getR a159_31 ty121 rf121_1 (by decide) ?_
      refine r_pushI a159_34 ?_
      refine r_iald a159_35 ty122 (by omega) ?_
      rw [f122]
      refine r_callL_1 a159_36 (Nat.le_of_ble_eq_true rfl) (le_mx mx157 (Nat.le_of_ble_eq_true rfl)) (Or.inl rfl) (c_Mo_power e z m_23 (s 0) hN) (fun x_36 m_36 h_36 => ?_)
      obtain ⟨hm_36, h_36⟩ := h_36
      rw [hm_36]
      rw [h_36]
      refine r_loadI a159_39 rfl ?_
      refine r_callL_3 a159_40 (Nat.le_of_ble_eq_true rfl) (le_mx mx158 (Nat.le_of_ble_eq_true rfl)) (Or.inl rfl) (c_Mo_low e z m_23 (qU s cl k (lnS s) (s 0).toNat) (p20 (s 0).toNat) p (by omega) (by omega)) (fun x_40 m_40 h_40 => ?_)
      obtain ⟨hm_40, h_40⟩ := h_40
      rw [hm_40]
      refine r_retLq a159_43 ?_
      refine ⟨g1, ?_⟩
      unfold aUp; rw [if_pos ⟨hk, by omega⟩]; exact h_40
    · refine r_pushL a159_17 ?_
      refine r_retLq a159_20 ?_
      refine ⟨KM.refl m, ?_⟩
      unfold aUp; rw [if_neg]
      rintro ⟨a, b⟩
      first
        | exact (okD h_2).2 (by omega) a
        | omega
theorem c_Mo_nowQ (d z : Nat) (m : XM) (s : Int → Int) (cl : CLs) (k : Int) (hd : 16 ≤ d) (hC : CpM m s cl) (hk : sk s k) :
    CI d k_Mo_leastNow z m [vR 121, vI k] (fun x m' => FrL m m' ∧ x = tQ s cl k (s 7) 1 ∧ ∀ i, 0 ≤ i → i < s 0 → m' 136 i = lQ s cl k (s 7) 1 i) :=
  (c_Mo_leastNow d z m s cl k 1 hd (CpM_A hC hk (CpM_7 hC) (by omega)) hC.1 (CpM_16 hC)).imp fun x m' ⟨h1, _, h3, h4⟩ => ⟨h1, h3, h4⟩
theorem c_Mo_quickest (d z : Nat) (m : XM) (s : Int → Int) (cl : CLs) (k i : Int) (hd : 17 ≤ d) (hC : CpM m s cl) :
    CI d k_Mo_quickest z m [vR 121, vI k, vI i] (fun x m' => KM m m' ∧ x = aBest s cl k i 0) := by
  obtain ⟨e, rfl⟩ : ∃ e, d = e + 1 := ⟨d - 1, by omega⟩
  have hN := hC.2.1.1.1
  have tr := tQ_r (k := k) (w := 1) hC.2.1 (CpM_e hC).1 (CpM_e hC).2 (CpM_7 hC)
  have eb : bQ s cl k 0 = tQ s cl k (s 7) 1 := rfl
  have el : blQ s cl k 0 = lQ s cl k (s 7) 1 := rfl
  refine r_entry mx167 rfl ?_
  refine r_loadA a167_0 rfl (by decide) ?_
  refine r_loadI a167_1 rfl ?_
  refine r_callI_2 a167_2 (Nat.le_of_ble_eq_true rfl) (le_mx mx122 (Nat.le_of_ble_eq_true rfl)) (Or.inr (recv_ok ty121 ow122 (by decide))) (c_Mo_isSk e z m s cl hC k (by omega)) (fun x_2 m_2 h_2 => ?_)
  obtain ⟨hm_2, h_2⟩ := h_2
  rw [hm_2]
  refine r_ifeq a167_5 (fun h_5 => ?_) (fun h_5 => ?_)
  · refine r_pushI a167_18 ?_
    refine r_retIq a167_19 ?_
    refine ⟨KM.refl m, ?_⟩
    unfold aBest; rw [if_pos]
    rintro ⟨a, b⟩
    first
      | exact (okD h_2).2 (by omega) a
      | omega
  · refine r_loadI a167_8 rfl ?_
    refine r_pushI a167_9 ?_
    refine r_pushI a167_10 ?_
    refine r_callI_3 a167_12 (Nat.le_of_ble_eq_true rfl) (le_mx mx119 (Nat.le_of_ble_eq_true rfl)) (Or.inl rfl) (c_Mo_in e z m i (-1) 6) (fun x_12 m_12 h_12 => ?_)
    obtain ⟨hm_12, h_12⟩ := h_12
    rw [hm_12]
    refine r_ifne a167_15 (fun h_15 => ?_) (fun h_15 => ?_)
    · refine r_loadA a167_20 rfl (by decide) ?_
      refine r_loadI a167_21 rfl ?_
      have hk := (okD h_2).1 (by omega)
      have hw : aBest s cl k i 0 = if i = -1 then tQ s cl k (s 7) 1 else if i < s 0 then lQ s cl k (s 7) 1 i else -5 := by
        unfold aBest; rw [if_neg (fun q => q ⟨hk, by omega⟩), eb, el, if_neg (by omega)]
      refine r_callI_2 a167_22 (Nat.le_of_ble_eq_true rfl) (le_mx mx166 (Nat.le_of_ble_eq_true rfl)) (Or.inr (recv_ok ty121 ow166 (by decide))) (c_Mo_nowQ e z m s cl k (by omega) hC hk) (fun x_22 m_22 h_22 => ?_)
      obtain ⟨g1, g2, g3⟩ := h_22
      rw [g2]
      have f122 : m_22 122 = s := (CpM_K (FrL_KM g1) hC).1
      refine r_storeI_3 a167_25 rfl ?_
      refine r_loadI a167_26 rfl ?_
      refine r_pushI a167_27 ?_
      refine r_icne a167_28 (fun h_28 => ?_) (fun h_28 => ?_)
      · refine r_loadI a167_35 rfl ?_
        refine r_loadA a167_36 rfl (by decide) ?_
        refine r_getR a167_37 ty121 rf121_1 (by decide) ?_
        refine r_pushI a167_40 ?_
        refine r_iald a167_41 ty122 (by omega) ?_
        rw [f122]
        refine r_icge a167_42 (fun h_42 => ?_) (fun h_42 => ?_)
        · refine r_pushI a167_54 ?_
          refine r_retIq a167_56 ?_
          refine ⟨FrL_KM g1, ?_⟩
          rw [hw]
          first
            | rw [if_pos (by omega)]
            | (rw [if_neg (by omega), if_pos (by omega)]; exact g3 i (by omega) (by omega))
            | rw [if_neg (by omega), if_neg (by omega)]
        · refine r_loadA a167_45 rfl (by decide) ?_
          refine r_getR a167_46 ty121 rf121_33 (by decide) ?_
          refine r_loadI a167_49 rfl ?_
          refine r_iald a167_50 ty136 (by omega) ?_
          refine r_goto a167_51 ?_
          refine r_retIq a167_56 ?_
          refine ⟨FrL_KM g1, ?_⟩
          rw [hw]
          first
            | rw [if_pos (by omega)]
            | (rw [if_neg (by omega), if_pos (by omega)]; exact g3 i (by omega) (by omega))
            | rw [if_neg (by omega), if_neg (by omega)]
      · refine r_loadI a167_31 rfl ?_
        refine r_goto a167_32 ?_
        refine r_retIq a167_56 ?_
        refine ⟨FrL_KM g1, ?_⟩
        rw [hw]
        first
          | rw [if_pos (by omega)]
          | (rw [if_neg (by omega), if_pos (by omega)]; exact g3 i (by omega) (by omega))
          | rw [if_neg (by omega), if_neg (by omega)]
    · refine r_pushI a167_18 ?_
      refine r_retIq a167_19 ?_
      refine ⟨KM.refl m, ?_⟩
      unfold aBest; rw [if_pos]
      rintro ⟨a, b⟩
      first
        | exact (okD h_2).2 (by omega) a
        | omega
theorem look_FrL {m m' : XM} (h1 : ∀ x, x ≠ 121 → ¬ (124 ≤ x ∧ x ≤ 125) → ¬ (127 ≤ x ∧ x ≤ 131) → x ≠ 135 → x ≠ 136 → m' x = m x) (h2 : ∀ y, y ≠ 11 → y ≠ 12 → y ≠ 22 → y ≠ 23 → y ≠ 24 → y ≠ 34 → y ≠ 36 → y ≠ 37 → y ≠ 38 → m' 121 y = m 121 y) : FrL m m' :=
  ⟨fun x a b c e => h1 x a (by omega) (by omega) c e, fun y a b => h2 y (by omega) (by omega) (by omega) (by omega) (by omega) (by omega) (by omega) (by omega) (by omega)⟩
theorem c_Mo_clean (d z : Nat) (m : XM) (s : Int → Int) (cl : CLs) (k i : Int) (hd : 14 ≤ d) (hC : CpM m s cl) :
    CI d k_Mo_clean z m [vR 121, vI k, vI i] (fun x m' => KM m m' ∧ x = aBest s cl k i 1) := by
  obtain ⟨e, rfl⟩ : ∃ e, d = e + 1 := ⟨d - 1, by omega⟩
  have hN := hC.2.1.1.1
  refine r_entry mx168 rfl ?_
  refine r_loadA a168_0 rfl (by decide) ?_
  refine r_loadI a168_1 rfl ?_
  refine r_callI_2 a168_2 (Nat.le_of_ble_eq_true rfl) (le_mx mx122 (Nat.le_of_ble_eq_true rfl)) (Or.inr (recv_ok ty121 ow122 (by decide))) (c_Mo_isSk e z m s cl hC k (by omega)) (fun x_2 m_2 h_2 => ?_)
  obtain ⟨hm_2, h_2⟩ := h_2
  rw [hm_2]
  refine r_ifeq a168_5 (fun h_5 => ?_) (fun h_5 => ?_)
  · refine r_pushI a168_18 ?_
    refine r_retIq a168_19 ?_
    refine ⟨KM.refl m, ?_⟩
    unfold aBest; rw [if_pos]
    rintro ⟨a, b⟩
    first
      | exact (okD h_2).2 (by omega) a
      | omega
  · refine r_loadI a168_8 rfl ?_
    refine r_pushI a168_9 ?_
    refine r_pushI a168_10 ?_
    refine r_callI_3 a168_12 (Nat.le_of_ble_eq_true rfl) (le_mx mx119 (Nat.le_of_ble_eq_true rfl)) (Or.inl rfl) (c_Mo_in e z m i (-1) 6) (fun x_12 m_12 h_12 => ?_)
    obtain ⟨hm_12, h_12⟩ := h_12
    rw [hm_12]
    refine r_ifne a168_15 (fun h_15 => ?_) (fun h_15 => ?_)
    · refine r_loadA a168_20 rfl (by decide) ?_
      refine r_loadI a168_21 rfl ?_
      have hk := (okD h_2).1 (by omega)
      have hA := CpM_A (w := 1) hC hk (CpM_7 hC) (by omega)
      have hw : aBest s cl k i 1 = if 100000000 ≤ bQ s cl k 1 then -5 else if i = -1 then bQ s cl k 1 else if i < s 0 then blQ s cl k 1 i else -5 := by
        unfold aBest; rw [if_neg (fun q => q ⟨hk, by omega⟩)]
      refine r_callV_2 a168_22 (Nat.le_of_ble_eq_true rfl) (le_mx mx150 (Nat.le_of_ble_eq_true rfl)) (Or.inr (recv_ok ty121 ow150 (by decide))) (c_Mo_beginsNow e z m s cl k 1 (by omega) hC.2.1 hC.1 (CpM_16 hC)) (fun m_22 h_22 => ?_)
      obtain ⟨f1, q1⟩ := h_22
      refine r_loadA a168_25 rfl (by decide) ?_
      refine r_pushI a168_26 ?_
      refine r_pushI a168_27 ?_
      refine r_pushI a168_28 ?_
      refine r_callV_4 a168_29 (Nat.le_of_ble_eq_true rfl) (le_mx mx164 (Nat.le_of_ble_eq_true rfl)) (Or.inr (recv_ok ty121 ow164 (by decide))) (c_Mo_looksForLines e z m_22 s cl k (s 7) 1 idn 1 0 3 (by omega) hA (by omega) q1 (by omega) (by omega)) (fun m_29 h_29 => ?_)
      obtain ⟨g1, g2, g3, g4⟩ := h_29
      have kc : KM m m_29 := KM.trans (FrL_KM f1) (FrL_KM (look_FrL g1 g2))
      have f122 : m_29 122 = s := (CpM_K kc hC).1
      have e0 : (s 0 - 0).toNat = (s 0).toNat := by rw [Int.sub_zero]
      rw [e0] at g4
      have hl := sGo_least (rO s cl k (s 7) idn) (rT s cl k (s 7) 1 idn) (rB s cl k (s 7) idn) (s 0) 1 (m_22 121 35) (seenP s) (Or.inr rfl) (fun i p c => (eO_r s cl k (s 7) i p c).1) (s 0).toNat 0 3 0 1 (m_22 135, m_22 136, 1000000, -1, 0) (by omega) (by omega) (by show (1000000 : Int) ≤ _; omega) (by omega) (fun j q c => by have := rT_pos s cl k (s 7) 1 idn j q c; omega)
      have hb := (LC_up ((1 : Int) = 1) (rRg hA (fun i a b => (⟨a, b⟩ : 0 ≤ idn i ∧ idn i < 7))) (by omega) (s 0).toNat 0 3 (by omega) (by omega) (by omega) (by omega)).1
      have hb' : bQ s cl k 1 ≤ 21000 * (s 0).toNat ∨ bQ s cl k 1 = 100000000 := hb
      obtain ⟨_, hl⟩ := hl
      generalize sGo (rO s cl k (s 7) idn) (rT s cl k (s 7) 1 idn) (rB s cl k (s 7) idn) (s 0) 1 (m_22 121 35) (seenP s) (s 0).toNat 0 3 0 1 (m_22 135, m_22 136, 1000000, -1, 0) = y at hl g4
      have hl' : (0 + bQ s cl k 1 < 1000000 ∧ sLt y = 0 + bQ s cl k 1 ∧ 0 < sMa y ∧ (∀ k, 0 ≤ k → k < 0 → sBe y k = m_22 135 k) ∧ (∀ j, 0 ≤ j → j < s 0 → sBe y j = blQ s cl k 1 j)) ∨ (¬ 0 + bQ s cl k 1 < 1000000 ∧ sLt y = 1000000 ∧ sMa y = 0 ∧ sBe y = m_22 136) := hl
      have e38 : m_29 121 38 = sMa y := g4.2.2.2.2
      have e36 : m_29 121 36 = sLt y := g4.2.2.1
      have e136 : m_29 136 = sBe y := g4.2.1
      refine r_loadA a168_32 rfl (by decide) ?_
      refine r_getI (ki := 38) a168_33 ty121 rfl ?_
      rw [e38]
      refine r_ifne a168_36 (fun h_36 => ?_) (fun h_36 => ?_)
      · refine r_loadI a168_42 rfl ?_
        refine r_pushI a168_43 ?_
        refine r_icne a168_44 (fun h_44 => ?_) (fun h_44 => ?_)
        · refine r_loadI a168_54 rfl ?_
          refine r_loadA a168_55 rfl (by decide) ?_
          refine r_getR a168_56 ty121 rf121_1 (by decide) ?_
          refine r_pushI a168_59 ?_
          refine r_iald a168_60 ty122 (by omega) ?_
          rw [f122]
          refine r_icge a168_61 (fun h_61 => ?_) (fun h_61 => ?_)
          · refine r_pushI a168_73 ?_
            refine r_retIq a168_75 ?_
            refine ⟨kc, ?_⟩
            rw [hw]
            rcases hl' with ⟨l1, l2, l3, l4, l5⟩ | ⟨l1, l2, l3, l4⟩
            · rw [if_neg (by omega)]
              first
                | (rw [if_pos (by omega), e36, l2]; omega)
                | (rw [if_neg (by omega), if_pos (by omega), e136]; exact l5 i (by omega) (by omega))
                | rw [if_neg (by omega), if_neg (by omega)]
            · exfalso; omega
          · refine r_loadA a168_64 rfl (by decide) ?_
            refine r_getR a168_65 ty121 rf121_33 (by decide) ?_
            refine r_loadI a168_68 rfl ?_
            refine r_iald a168_69 ty136 (by omega) ?_
            refine r_goto a168_70 ?_
            refine r_retIq a168_75 ?_
            refine ⟨kc, ?_⟩
            rw [hw]
            rcases hl' with ⟨l1, l2, l3, l4, l5⟩ | ⟨l1, l2, l3, l4⟩
            · rw [if_neg (by omega)]
              first
                | (rw [if_pos (by omega), e36, l2]; omega)
                | (rw [if_neg (by omega), if_pos (by omega), e136]; exact l5 i (by omega) (by omega))
                | rw [if_neg (by omega), if_neg (by omega)]
            · exfalso; omega
        · refine r_loadA a168_47 rfl (by decide) ?_
          refine r_getI (ki := 36) a168_48 ty121 rfl ?_
          refine r_goto a168_51 ?_
          refine r_retIq a168_75 ?_
          refine ⟨kc, ?_⟩
          rw [hw]
          rcases hl' with ⟨l1, l2, l3, l4, l5⟩ | ⟨l1, l2, l3, l4⟩
          · rw [if_neg (by omega)]
            first
              | (rw [if_pos (by omega), e36, l2]; omega)
              | (rw [if_neg (by omega), if_pos (by omega), e136]; exact l5 i (by omega) (by omega))
              | rw [if_neg (by omega), if_neg (by omega)]
          · exfalso; omega
      · refine r_pushI a168_39 ?_
        refine r_retIq a168_41 ?_
        refine ⟨kc, ?_⟩
        rw [hw]
        rcases hl' with ⟨l1, l2, l3, l4, l5⟩ | ⟨l1, l2, l3, l4⟩
        · exfalso; omega
        · rw [if_pos (by omega)]
    · refine r_pushI a168_18 ?_
      refine r_retIq a168_19 ?_
      refine ⟨KM.refl m, ?_⟩
      unfold aBest; rw [if_pos]
      rintro ⟨a, b⟩
      first
        | exact (okD h_2).2 (by omega) a
        | omega
theorem sGo_i2 (O T B : TF) (N lim : Int) (seen : Int → Int → Prop) [∀ i t, Decidable (seen i t)] (hO : ∀ i p c, 0 ≤ O i p c ∧ O i p c ≤ 20) :
    ∀ (n : Nat) (i p time ups : Int) (x : SS), 0 ≤ ups → (-1 ≤ sMu x ∧ 0 ≤ sMa x ∧ (0 < sMa x ↔ 0 ≤ sMu x)) →
      (-1 ≤ sMu (sGo O T B N 2 lim seen n i p time ups x) ∧ 0 ≤ sMa (sGo O T B N 2 lim seen n i p time ups x) ∧ (0 < sMa (sGo O T B N 2 lim seen n i p time ups x) ↔ 0 ≤ sMu (sGo O T B N 2 lim seen n i p time ups x))) := by
  intro n
  induction n with
  | zero =>
    intro i p time ups x h0 hx
    have e : sGo O T B N 2 lim seen 0 i p time ups x = if time ≤ lim ∧ ups > sMu x then (sTr x, keepR N (sTr x) (sBe x), sLt x, ups, sMa x + 1) else x := by
      show sEnd N 2 lim time ups x = _
      unfold sEnd; rw [if_pos rfl]
    rw [e]
    split
    · rename_i h
      show -1 ≤ ups ∧ 0 ≤ sMa x + 1 ∧ (0 < sMa x + 1 ↔ 0 ≤ ups)
      omega
    · exact hx
  | succ n ih =>
    intro i p time ups x h0 hx
    have br : ∀ (c : Int) (x : SS), (-1 ≤ sMu x ∧ 0 ≤ sMa x ∧ (0 < sMa x ↔ 0 ≤ sMu x)) → (-1 ≤ sMu (sBr O T B N 2 lim seen n i p time ups c x) ∧ 0 ≤ sMa (sBr O T B N 2 lim seen n i p time ups c x) ∧ (0 < sMa (sBr O T B N 2 lim seen n i p time ups c x) ↔ 0 ≤ sMu (sBr O T B N 2 lim seen n i p time ups c x))) := by
      intro c x hx
      have := hO i p c
      unfold sBr; rw [if_neg (by omega)]
      exact ih (i + 1) (B i p c) (time + T i p c) (ups * (20 - O i p c)) (sTry i c x) (Int.mul_nonneg h0 (by omega)) hx
    rw [sGo_succ]
    exact br 2 _ (br 1 _ (br 0 _ hx))
theorem sQ_i (s : Int → Int) (cl : CLs) (k lim : Int) : -1 ≤ sMu (sQ s cl k lim) ∧ 0 ≤ sMa (sQ s cl k lim) ∧ (0 < sMa (sQ s cl k lim) ↔ 0 ≤ sMu (sQ s cl k lim)) :=
  sGo_i2 _ _ _ _ _ _ (fun i p c => eO_r s cl k (s 7) i p c) _ _ _ _ _ _ (by decide) (by decide)
theorem x_sim (N : Int) (f g : Int → Int) : simS 0 N (f, g, 1000000, -1, 0) x00 := ⟨fun k a b => by omega, rfl, rfl, rfl, fun q => absurd (show (0 : Int) < 0 from q) (by decide)⟩
theorem c_Mo_looksForSurest (d z : Nat) (m : XM) (s : Int → Int) (cl : CLs) (k lim : Int) (hd : 14 ≤ d) (hC : CpM m s cl) (hk : sk s k) :
    CV d k_Mo_looksForSurest z m [vR 121, vI k, vI lim] (fun m' => KM m m' ∧ m' 121 37 = sMu (sQ s cl k lim) ∧ m' 121 38 = sMa (sQ s cl k lim) ∧ (0 < sMa (sQ s cl k lim) → ∀ i, 0 ≤ i → i < s 0 → m' 136 i = sBe (sQ s cl k lim) i)) := by
  obtain ⟨e, rfl⟩ : ∃ e, d = e + 1 := ⟨d - 1, by omega⟩
  have hN := hC.2.1.1.1
  have hA := CpM_A (w := 1) hC hk (CpM_7 hC) (by omega)
  refine r_entry mx169 rfl ?_
  refine r_loadA a169_0 rfl (by decide) ?_
  refine r_loadI a169_1 rfl ?_
  refine r_callV_2 a169_2 (Nat.le_of_ble_eq_true rfl) (le_mx mx150 (Nat.le_of_ble_eq_true rfl)) (Or.inr (recv_ok ty121 ow150 (by decide))) (c_Mo_beginsNow e z m s cl k 1 (by omega) hC.2.1 hC.1 (CpM_16 hC)) (fun m_2 h_2 => ?_)
  obtain ⟨f1, q1⟩ := h_2
  refine r_loadA a169_5 rfl (by decide) ?_
  refine r_loadI a169_6 rfl ?_
  refine r_putI (ki := 35) a169_7 ty121 rfl ?_
  refine r_loadA a169_10 rfl (by decide) ?_
  refine r_pushI a169_11 ?_
  refine r_pushI a169_12 ?_
  refine r_pushI a169_13 ?_
  refine r_callV_4 a169_14 (Nat.le_of_ble_eq_true rfl) (le_mx mx164 (Nat.le_of_ble_eq_true rfl)) (Or.inr (recv_ok ty121 ow164 (by decide))) (c_Mo_looksForLines e z (up2 m_2 121 35 lim) s cl k (s 7) 1 idn 2 0 3 (by omega) hA (by omega) (RefQ_cong (up2_c (by decide)) (up2_c (by decide)) (up2_c (by decide)) (up2_c (by decide)) (up2_c (by decide)) (up2_c (by decide)) (up2_c (by decide)) (up2_k (by decide)) (up2_k (by decide)) (up2_k (by decide)) q1) (by omega) (by omega)) (fun m_14 h_14 => ?_)
  refine r_retVq a169_17 ?_
  obtain ⟨g1, g2, g3, g4⟩ := h_14
  have e0 : (s 0 - 0).toNat = (s 0).toNat := by rw [Int.sub_zero]
  rw [e0, up2_s] at g4
  have hs := sGo_sim (eO s cl k (s 7)) (eT s cl k (s 7) 1) (eB s cl k (s 7)) (s 0) 2 lim lim (seenP s) (fun _ => rfl) (s 0).toNat 0 3 0 1 (up2 m_2 121 35 lim 135, up2 m_2 121 35 lim 136, 1000000, -1, 0) x00 (by omega) (by omega) (show (0 : Int) ≤ 0 from Int.le_refl 0) (x_sim (s 0) (up2 m_2 121 35 lim 135) (up2 m_2 121 35 lim 136))
  obtain ⟨_, _, s3, s4, s5⟩ := hs
  obtain ⟨_, t2, _, t4, t5⟩ := g4
  refine ⟨KM.trans (FrL_KM f1) (KM.trans (KM_up (KM.refl m_2) (by omega)) (FrL_KM (look_FrL g1 g2))), t4.trans s3, t5.trans s4, fun q i a b => ?_⟩
  rw [t2]
  exact s5 (s4.symm ▸ q) i a b
theorem c_Mo_surestPart (d z : Nat) (m : XM) (s : Int → Int) (cl : CLs) (k lim p : Int) (hd : 1 ≤ d) (hC : CpM m s cl) (h37 : m 121 37 = sMu (sQ s cl k lim)) (h38 : m 121 38 = sMa (sQ s cl k lim)) :
    CL d k_Mo_surestPart z m [vR 121, vI p] (fun x m' => m' = m ∧ x = qSur s cl k lim p) := by
  obtain ⟨e, rfl⟩ : ∃ e, d = e + 1 := ⟨d - 1, by omega⟩
  have hN := hC.2.1.1.1
  have hi := sQ_i s cl k lim
  have hmu := sQ_mu (cl := cl) (k := k) (lim := lim) hC.2.1
  have hp20 := p20_pos (s 0).toNat
  have hp20b := p20_le (s 0).toNat (by omega)
  have e122 := hC.1
  refine r_entry mx170 rfl ?_
  refine r_loadA a170_0 rfl (by decide) ?_
  refine r_getI (ki := 38) a170_1 ty121 rfl ?_
  rw [h38]
  refine r_ifne a170_4 (fun h_4 => ?_) (fun h_4 => ?_)
  · refine r_loadA a170_12 rfl (by decide) ?_
    refine r_getL (ki := 37) a170_13 ty121 rfl ?_
    rw [h37]
    refine r_loadA a170_16 rfl (by decide) ?_
    refine r_getR a170_17 ty121 rf121_1 (by decide) ?_
    refine r_pushI a170_20 ?_
    refine r_iald a170_21 ty122 (by omega) ?_
    rw [e122]
    refine r_callL_1 a170_22 (Nat.le_of_ble_eq_true rfl) (le_mx mx157 (Nat.le_of_ble_eq_true rfl)) (Or.inl rfl) (c_Mo_power e z m (s 0) hN) (fun x_22 m_22 h_22 => ?_)
    obtain ⟨hm_22, h_22⟩ := h_22
    rw [hm_22]
    rw [h_22]
    refine r_loadI a170_25 rfl ?_
    refine r_callL_3 a170_26 (Nat.le_of_ble_eq_true rfl) (le_mx mx158 (Nat.le_of_ble_eq_true rfl)) (Or.inl rfl) (c_Mo_low e z m (sMu (sQ s cl k lim)) (p20 (s 0).toNat) p (by omega) (by omega)) (fun x_26 m_26 h_26 => ?_)
    obtain ⟨hm_26, h_26⟩ := h_26
    rw [hm_26]
    refine r_retLq a170_29 ?_
    refine ⟨rfl, ?_⟩
    unfold qSur
    first
      | rw [if_pos (by omega)]
      | (rw [if_neg (by omega)]; exact h_26)
  · refine r_loadI a170_7 rfl ?_
    refine r_i2l a170_8 ?_
    refine r_goto a170_9 ?_
    refine r_retLq a170_29 ?_
    refine ⟨rfl, ?_⟩
    unfold qSur
    first
      | rw [if_pos (by omega)]
      | (rw [if_neg (by omega)]; exact h_26)
theorem c_Mo_surest (d z : Nat) (m : XM) (s : Int → Int) (cl : CLs) (k lim p : Int) (hd : 15 ≤ d) (hC : CpM m s cl) :
    CL d k_Mo_surest z m [vR 121, vI k, vI lim, vI p] (fun x m' => KM m m' ∧ x = aSurest s cl k lim p) := by
  obtain ⟨e, rfl⟩ : ∃ e, d = e + 1 := ⟨d - 1, by omega⟩
  refine r_entry mx171 rfl ?_
  refine r_loadA a171_0 rfl (by decide) ?_
  refine r_loadI a171_1 rfl ?_
  refine r_callI_2 a171_2 (Nat.le_of_ble_eq_true rfl) (le_mx mx122 (Nat.le_of_ble_eq_true rfl)) (Or.inr (recv_ok ty121 ow122 (by decide))) (c_Mo_isSk e z m s cl hC k (by omega)) (fun x_2 m_2 h_2 => ?_)
  obtain ⟨hm_2, h_2⟩ := h_2
  rw [hm_2]
  refine r_ifeq a171_5 (fun h_5 => ?_) (fun h_5 => ?_)
  · refine r_pushL a171_28 ?_
    refine r_retLq a171_31 ?_
    refine ⟨KM.refl m, ?_⟩
    unfold aSurest; rw [if_neg]
    rintro ⟨a, b⟩
    first
      | exact (okD h_2).2 (by omega) a
      | omega
  · refine r_loadI a171_8 rfl ?_
    refine r_pushI a171_9 ?_
    refine r_pushI a171_10 ?_
    refine r_callI_3 a171_13 (Nat.le_of_ble_eq_true rfl) (le_mx mx119 (Nat.le_of_ble_eq_true rfl)) (Or.inl rfl) (c_Mo_in e z m lim 0 999) (fun x_13 m_13 h_13 => ?_)
    obtain ⟨hm_13, h_13⟩ := h_13
    rw [hm_13]
    refine r_ifeq a171_16 (fun h_16 => ?_) (fun h_16 => ?_)
    · refine r_pushL a171_28 ?_
      refine r_retLq a171_31 ?_
      refine ⟨KM.refl m, ?_⟩
      unfold aSurest; rw [if_neg]
      rintro ⟨a, b⟩
      first
        | exact (okD h_2).2 (by omega) a
        | omega
    · refine r_loadI a171_19 rfl ?_
      refine r_pushI a171_20 ?_
      refine r_pushI a171_21 ?_
      refine r_callI_3 a171_22 (Nat.le_of_ble_eq_true rfl) (le_mx mx119 (Nat.le_of_ble_eq_true rfl)) (Or.inl rfl) (c_Mo_in e z m p 0 1) (fun x_22 m_22 h_22 => ?_)
      obtain ⟨hm_22, h_22⟩ := h_22
      rw [hm_22]
      refine r_ifne a171_25 (fun h_25 => ?_) (fun h_25 => ?_)
      · refine r_loadA a171_32 rfl (by decide) ?_
        refine r_loadI a171_33 rfl ?_
        refine r_loadI a171_34 rfl ?_
        have hk := (okD h_2).1 (by omega)
        refine r_callV_3 a171_35 (Nat.le_of_ble_eq_true rfl) (le_mx mx169 (Nat.le_of_ble_eq_true rfl)) (Or.inr (recv_ok ty121 ow169 (by decide))) (c_Mo_looksForSurest e z m s cl k lim (by omega) hC hk) (fun m_35 h_35 => ?_)
        obtain ⟨g1, g2, g3, _⟩ := h_35
        refine r_loadA a171_38 rfl (by decide) ?_
        refine r_loadI a171_39 rfl ?_
        refine r_callL_2 a171_40 (Nat.le_of_ble_eq_true rfl) (le_mx mx170 (Nat.le_of_ble_eq_true rfl)) (Or.inr (recv_ok ty121 ow170 (by decide))) (c_Mo_surestPart e z m_35 s cl k lim p (by omega) (CpM_K g1 hC) g2 g3) (fun x_40 m_40 h_40 => ?_)
        obtain ⟨hm_40, h_40⟩ := h_40
        rw [hm_40]
        refine r_retLq a171_43 ?_
        refine ⟨g1, ?_⟩
        unfold aSurest; rw [if_pos ⟨hk, by omega, by omega⟩]; exact h_40
      · refine r_pushL a171_28 ?_
        refine r_retLq a171_31 ?_
        refine ⟨KM.refl m, ?_⟩
        unfold aSurest; rw [if_neg]
        rintro ⟨a, b⟩
        first
          | exact (okD h_2).2 (by omega) a
          | omega
theorem c_Mo_sure (d z : Nat) (m : XM) (s : Int → Int) (cl : CLs) (k lim i : Int) (hd : 15 ≤ d) (hC : CpM m s cl) :
    CI d k_Mo_sure z m [vR 121, vI k, vI lim, vI i] (fun x m' => KM m m' ∧ x = aSure s cl k lim i) := by
  obtain ⟨e, rfl⟩ : ∃ e, d = e + 1 := ⟨d - 1, by omega⟩
  have hN := hC.2.1.1.1
  refine r_entry mx172 rfl ?_
  refine r_loadA a172_0 rfl (by decide) ?_
  refine r_loadI a172_1 rfl ?_
  refine r_callI_2 a172_2 (Nat.le_of_ble_eq_true rfl) (le_mx mx122 (Nat.le_of_ble_eq_true rfl)) (Or.inr (recv_ok ty121 ow122 (by decide))) (c_Mo_isSk e z m s cl hC k (by omega)) (fun x_2 m_2 h_2 => ?_)
  obtain ⟨hm_2, h_2⟩ := h_2
  rw [hm_2]
  refine r_ifeq a172_5 (fun h_5 => ?_) (fun h_5 => ?_)
  · refine r_pushI a172_18 ?_
    refine r_retIq a172_19 ?_
    refine ⟨KM.refl m, ?_⟩
    unfold aSure; rw [if_pos]
    rintro ⟨a, b⟩
    first
      | exact (okD h_2).2 (by omega) a
      | omega
  · refine r_loadI a172_8 rfl ?_
    refine r_pushI a172_9 ?_
    refine r_pushI a172_10 ?_
    refine r_callI_3 a172_12 (Nat.le_of_ble_eq_true rfl) (le_mx mx119 (Nat.le_of_ble_eq_true rfl)) (Or.inl rfl) (c_Mo_in e z m i 0 6) (fun x_12 m_12 h_12 => ?_)
    obtain ⟨hm_12, h_12⟩ := h_12
    rw [hm_12]
    refine r_ifne a172_15 (fun h_15 => ?_) (fun h_15 => ?_)
    · have hk := (okD h_2).1 (by omega)
      refine r_loadI a172_20 rfl ?_
      refine r_pushI a172_21 ?_
      refine r_pushI a172_22 ?_
      refine r_callI_3 a172_25 (Nat.le_of_ble_eq_true rfl) (le_mx mx119 (Nat.le_of_ble_eq_true rfl)) (Or.inl rfl) (c_Mo_in e z m lim 0 999) (fun x_25 m_25 h_25 => ?_)
      obtain ⟨hm_25, h_25⟩ := h_25
      rw [hm_25]
      refine r_ifne a172_28 (fun h_28 => ?_) (fun h_28 => ?_)
      · refine r_loadA a172_34 rfl (by decide) ?_
        refine r_loadI a172_35 rfl ?_
        refine r_loadI a172_36 rfl ?_
        refine r_callV_3 a172_37 (Nat.le_of_ble_eq_true rfl) (le_mx mx169 (Nat.le_of_ble_eq_true rfl)) (Or.inr (recv_ok ty121 ow169 (by decide))) (c_Mo_looksForSurest e z m s cl k lim (by omega) hC hk) (fun m_37 h_37 => ?_)
        obtain ⟨g1, g2, g3, g4⟩ := h_37
        have f122 : m_37 122 = s := (CpM_K g1 hC).1
        have hw : aSure s cl k lim i = if 0 < sMa (sQ s cl k lim) ∧ i < s 0 then sBe (sQ s cl k lim) i else -5 := by
          unfold aSure; rw [if_neg (fun q => q ⟨hk, by omega⟩), if_neg (by omega)]
        refine r_loadA a172_40 rfl (by decide) ?_
        refine r_getI (ki := 38) a172_41 ty121 rfl ?_
        rw [g3]
        refine r_ifle a172_44 (fun h_44 => ?_) (fun h_44 => ?_)
        · refine r_pushI a172_66 ?_
          refine r_retIq a172_68 ?_
          refine ⟨g1, ?_⟩
          rw [hw]
          first
            | rw [if_neg (by omega)]
            | (rw [if_pos ⟨by omega, by omega⟩]; exact g4 (by omega) i (by omega) (by omega))
        · refine r_loadI a172_47 rfl ?_
          refine r_loadA a172_48 rfl (by decide) ?_
          refine r_getR a172_49 ty121 rf121_1 (by decide) ?_
          refine r_pushI a172_52 ?_
          refine r_iald a172_53 ty122 (by omega) ?_
          rw [f122]
          refine r_icge a172_54 (fun h_54 => ?_) (fun h_54 => ?_)
          · refine r_pushI a172_66 ?_
            refine r_retIq a172_68 ?_
            refine ⟨g1, ?_⟩
            rw [hw]
            first
              | rw [if_neg (by omega)]
              | (rw [if_pos ⟨by omega, by omega⟩]; exact g4 (by omega) i (by omega) (by omega))
          · refine r_loadA a172_57 rfl (by decide) ?_
            refine r_getR a172_58 ty121 rf121_33 (by decide) ?_
            refine r_loadI a172_61 rfl ?_
            refine r_iald a172_62 ty136 (by omega) ?_
            refine r_goto a172_63 ?_
            refine r_retIq a172_68 ?_
            refine ⟨g1, ?_⟩
            rw [hw]
            first
              | rw [if_neg (by omega)]
              | (rw [if_pos ⟨by omega, by omega⟩]; exact g4 (by omega) i (by omega) (by omega))
      · refine r_pushI a172_31 ?_
        refine r_retIq a172_33 ?_
        exact ⟨KM.refl m, by unfold aSure; rw [if_neg (fun q => q ⟨hk, by omega⟩), if_pos (by omega)]⟩
    · refine r_pushI a172_18 ?_
      refine r_retIq a172_19 ?_
      refine ⟨KM.refl m, ?_⟩
      unfold aSure; rw [if_pos]
      rintro ⟨a, b⟩
      first
        | exact (okD h_2).2 (by omega) a
        | omega
theorem c_Mo_leastFrom (d z : Nat) (m : XM) (s : Int → Int) (cl : CLs) (k n w : Int) (i p : Int) (hd : 13 ≤ d) (hA : AskOk s cl k n w) (hQ : RefQ m s cl k n w idn) (hi : 0 ≤ i ∧ i ≤ s 0) (hp : 0 ≤ p ∧ p < 10) :
    CV d k_Mo_looksForLines z m [vR 121, vI 0, vI i, vI p] (fun m' => FrL m m' ∧ m' 126 = m 126 ∧ RefQ m' s cl k n w idn ∧ m' 121 36 = (LC (eO s cl k n) (eT s cl k n w) (eB s cl k n) ((0 : Int) = 1) (s 0 - i).toNat i p).1 ∧
      ∀ j, i ≤ j → j < s 0 → m' 136 j = pathL (eO s cl k n) (eT s cl k n w) (eB s cl k n) ((0 : Int) = 1) (s 0 - i).toNat i p j) := by
  have hN := hA.1.1.1
  refine (c_Mo_looksForLines d z m s cl k n w idn 0 i p hd hA (by omega) hQ hi hp).imp fun m' ⟨g1, g2, g3, g4⟩ => ?_
  have hl := sGo_least (rO s cl k n idn) (rT s cl k n w idn) (rB s cl k n idn) (s 0) 0 (m 121 35) (seenP s) (Or.inl rfl) (fun i p c => (eO_r s cl k n i p c).1) (s 0 - i).toNat i p 0 1 (m 135, m 136, 1000000, -1, 0) (by omega) hi.1 (by show (1000000 : Int) ≤ _; omega) (by omega) (fun j q c => by have := rT_pos s cl k n w idn j q c; omega)
  have hb := (LC_up ((0 : Int) = 1) (rRg hA (fun i a b => (⟨a, b⟩ : 0 ≤ idn i ∧ idn i < 7))) (by omega) (s 0 - i).toNat i p hi.1 (by omega) hp.1 hp.2).2 (by decide)
  obtain ⟨_, hl⟩ := hl
  generalize sGo (rO s cl k n idn) (rT s cl k n w idn) (rB s cl k n idn) (s 0) 0 (m 121 35) (seenP s) (s 0 - i).toNat i p 0 1 (m 135, m 136, 1000000, -1, 0) = y at hl g4
  rcases hl with ⟨l1, l2, l3, l4, l5⟩ | ⟨l1, _⟩
  · refine ⟨look_FrL g1 g2, g1 126 (by decide) (by decide) (by decide) (by decide) (by decide), g3, ?_, fun j a b => ?_⟩
    · rw [g4.2.2.1, l2, Int.zero_add]; rfl
    · rw [g4.2.1]; exact l5 j a b
  · exfalso
    apply l1
    show _ < (1000000 : Int)
    omega
theorem c_Mo_carry (d z : Nat) (m : XM) (s : Int → Int) (cl : CLs) (k g : Int) (hd : 14 ≤ d) (hC : CpM m s cl) :
    CI d k_Mo_carry z m [vR 121, vI k, vI g] (fun x m' => KM m m' ∧ x = aCarry s cl k g) := by
  obtain ⟨e, rfl⟩ : ∃ e, d = e + 1 := ⟨d - 1, by omega⟩
  have hN := hC.2.1.1.1
  have r7 := CpM_7 hC
  have lr := fun p => LC_r ((0 : Int) = 1) (eRg (k := k) (w := 1) hC.2.1 (CpM_e hC).1 (CpM_e hC).2 r7) (s 0 - g).toNat g p
  refine r_entry mx173 rfl ?_
  refine r_loadA a173_0 rfl (by decide) ?_
  refine r_loadI a173_1 rfl ?_
  refine r_callI_2 a173_2 (Nat.le_of_ble_eq_true rfl) (le_mx mx122 (Nat.le_of_ble_eq_true rfl)) (Or.inr (recv_ok ty121 ow122 (by decide))) (c_Mo_isSk e z m s cl hC k (by omega)) (fun x_2 m_2 h_2 => ?_)
  obtain ⟨hm_2, h_2⟩ := h_2
  rw [hm_2]
  refine r_ifeq a173_5 (fun h_5 => ?_) (fun h_5 => ?_)
  · refine r_pushI a173_16 ?_
    refine r_retIq a173_19 ?_
    refine ⟨KM.refl m, ?_⟩
    unfold aCarry; rw [if_neg]
    rintro ⟨a, b⟩
    first
      | exact (okD h_2).2 (by omega) a
      | exact (okD h_10).2 (by omega) b
  · refine r_loadA a173_8 rfl (by decide) ?_
    refine r_loadI a173_9 rfl ?_
    refine r_callI_2 a173_10 (Nat.le_of_ble_eq_true rfl) (le_mx mx121 (Nat.le_of_ble_eq_true rfl)) (Or.inr (recv_ok ty121 ow121 (by decide))) (c_Mo_isGt e z m s cl hC g (by omega)) (fun x_10 m_10 h_10 => ?_)
    obtain ⟨hm_10, h_10⟩ := h_10
    rw [hm_10]
    refine r_ifne a173_13 (fun h_13 => ?_) (fun h_13 => ?_)
    · refine r_loadA a173_20 rfl (by decide) ?_
      refine r_loadI a173_21 rfl ?_
      have hk := (okD h_2).1 (by omega)
      have hg := (okD h_10).1 (by omega)
      have hg2 : 0 ≤ g ∧ g < s 0 := hg
      have hA := CpM_A (w := 1) hC hk (CpM_7 hC) (by omega)
      have l3 := lr 3 hg2.1 (by omega) (by omega) (by omega)
      have l6 := lr 6 hg2.1 (by omega) (by omega) (by omega)
      refine r_callV_2 a173_22 (Nat.le_of_ble_eq_true rfl) (le_mx mx150 (Nat.le_of_ble_eq_true rfl)) (Or.inr (recv_ok ty121 ow150 (by decide))) (c_Mo_beginsNow e z m s cl k 1 (by omega) hC.2.1 hC.1 (CpM_16 hC)) (fun m_22 h_22 => ?_)
      refine r_loadA a173_25 rfl (by decide) ?_
      refine r_pushI a173_26 ?_
      refine r_loadI a173_27 rfl ?_
      refine r_pushI a173_28 ?_
      refine r_callV_4 a173_29 (Nat.le_of_ble_eq_true rfl) (le_mx mx164 (Nat.le_of_ble_eq_true rfl)) (Or.inr (recv_ok ty121 ow164 (by decide))) (c_Mo_leastFrom e z m_22 s cl k (s 7) 1 g 3 (by omega) hA h_22.2 (by omega) (by omega)) (fun m_29 h_29 => ?_)
      refine r_loadA a173_32 rfl (by decide) ?_
      refine r_getI (ki := 36) a173_33 ty121 rfl ?_
      rw [h_29.2.2.2.1]
      refine r_storeI_3 a173_36 rfl ?_
      refine r_loadA a173_37 rfl (by decide) ?_
      refine r_pushI a173_38 ?_
      refine r_loadI a173_39 rfl ?_
      refine r_pushI a173_40 ?_
      refine r_callV_4 a173_42 (Nat.le_of_ble_eq_true rfl) (le_mx mx164 (Nat.le_of_ble_eq_true rfl)) (Or.inr (recv_ok ty121 ow164 (by decide))) (c_Mo_leastFrom e z m_29 s cl k (s 7) 1 g 6 (by omega) hA h_29.2.2.1 (by omega) (by omega)) (fun m_42 h_42 => ?_)
      refine r_loadI a173_45 rfl ?_
      refine r_loadA a173_46 rfl (by decide) ?_
      refine r_getI (ki := 36) a173_47 ty121 rfl ?_
      rw [h_42.2.2.2.1]
      refine r_sub a173_50 (by omega) ?_
      refine r_retIq a173_51 ?_
      exact ⟨KM.trans (FrL_KM h_22.1) (KM.trans (FrL_KM h_29.1) (FrL_KM h_42.1)), by unfold aCarry; rw [if_pos ⟨hk, hg⟩]⟩
    · refine r_pushI a173_16 ?_
      refine r_retIq a173_19 ?_
      refine ⟨KM.refl m, ?_⟩
      unfold aCarry; rw [if_neg]
      rintro ⟨a, b⟩
      first
        | exact (okD h_2).2 (by omega) a
        | exact (okD h_10).2 (by omega) b
theorem c_Mo_start (d z : Nat) (m : XM) (s : Int → Int) (cl : CLs) (k n : Int) (hd : 16 ≤ d) (hC : CpM m s cl) :
    CI d k_Mo_start z m [vR 121, vI k, vI n] (fun x m' => KM m m' ∧ x = aStart s cl k n) := by
  obtain ⟨e, rfl⟩ : ∃ e, d = e + 1 := ⟨d - 1, by omega⟩
  refine r_entry mx174 rfl ?_
  refine r_loadA a174_0 rfl (by decide) ?_
  refine r_loadI a174_1 rfl ?_
  refine r_callI_2 a174_2 (Nat.le_of_ble_eq_true rfl) (le_mx mx122 (Nat.le_of_ble_eq_true rfl)) (Or.inr (recv_ok ty121 ow122 (by decide))) (c_Mo_isSk e z m s cl hC k (by omega)) (fun x_2 m_2 h_2 => ?_)
  obtain ⟨hm_2, h_2⟩ := h_2
  rw [hm_2]
  refine r_ifne a174_5 (fun h_5 => ?_) (fun h_5 => ?_)
  · refine r_loadI a174_10 rfl ?_
    refine r_pushI a174_11 ?_
    refine r_pushI a174_12 ?_
    refine r_callI_3 a174_14 (Nat.le_of_ble_eq_true rfl) (le_mx mx119 (Nat.le_of_ble_eq_true rfl)) (Or.inl rfl) (c_Mo_in e z m n 0 99) (fun x_14 m_14 h_14 => ?_)
    obtain ⟨hm_14, h_14⟩ := h_14
    rw [hm_14]
    refine r_ifne a174_17 (fun h_17 => ?_) (fun h_17 => ?_)
    · refine r_loadA a174_23 rfl (by decide) ?_
      have hk := (okD h_2).1 (by omega)
      refine r_callV_1 a174_24 (Nat.le_of_ble_eq_true rfl) (le_mx mx149 (Nat.le_of_ble_eq_true rfl)) (Or.inr (recv_ok ty121 ow149 (by decide))) (c_Mo_asTheyStand e z m) (fun m_24 h_24 => ?_)
      have k24 : KM m m_24 := ⟨fun x a b => h_24.1 x (by omega), by rw [h_24.1 121 (by decide)], by rw [h_24.1 121 (by decide)], by rw [h_24.1 121 (by decide)], by rw [h_24.1 121 (by decide)]⟩
      have hC2 := CpM_K k24 hC
      refine r_loadA a174_27 rfl (by decide) ?_
      refine r_loadI a174_28 rfl ?_
      refine r_loadI a174_29 rfl ?_
      refine r_callI_3 a174_30 (Nat.le_of_ble_eq_true rfl) (le_mx mx165 (Nat.le_of_ble_eq_true rfl)) (Or.inr (recv_ok ty121 ow165 (by decide))) (c_Mo_leastBy e z m_24 s cl k n 1 idn (by omega) (CpM_A hC hk (by omega) (by omega)) hC2.1 (CpM_16 hC2) (st_Stands h_24.2)) (fun x_30 m_30 h_30 => ?_)
      refine r_retIq a174_33 ?_
      refine ⟨KM.trans k24 (FrL_KM h_30.1), ?_⟩
      unfold aStart; rw [if_neg (fun q => q hk), if_pos (by omega)]; exact h_30.2.2.2.1
    · have hk := (okD h_2).1 (by omega)
      refine r_pushI a174_20 ?_
      refine r_retIq a174_22 ?_
      exact ⟨KM.refl m, by unfold aStart; rw [if_neg (fun q => q hk), if_neg (by omega)]⟩
  · refine r_pushI a174_8 ?_
    refine r_retIq a174_9 ?_
    exact ⟨KM.refl m, by unfold aStart; rw [if_pos ((okD h_2).2 (by omega))]⟩
theorem c_Mo_wax (d z : Nat) (m : XM) (s : Int → Int) (cl : CLs) (k : Int) (hd : 17 ≤ d) (hC : CpM m s cl) :
    CI d k_Mo_wax z m [vR 121, vI k] (fun x m' => KM m m' ∧ x = aWax s cl k) := by
  obtain ⟨e, rfl⟩ : ∃ e, d = e + 1 := ⟨d - 1, by omega⟩
  have r7 := CpM_7 hC
  have t0 := tQ_r (k := k) (w := 0) hC.2.1 (CpM_e hC).1 (CpM_e hC).2 r7
  have t1 := tQ_r (k := k) (w := 1) hC.2.1 (CpM_e hC).1 (CpM_e hC).2 r7
  refine r_entry mx178 rfl ?_
  refine r_loadA a178_0 rfl (by decide) ?_
  refine r_loadI a178_1 rfl ?_
  refine r_callI_2 a178_2 (Nat.le_of_ble_eq_true rfl) (le_mx mx122 (Nat.le_of_ble_eq_true rfl)) (Or.inr (recv_ok ty121 ow122 (by decide))) (c_Mo_isSk e z m s cl hC k (by omega)) (fun x_2 m_2 h_2 => ?_)
  obtain ⟨hm_2, h_2⟩ := h_2
  rw [hm_2]
  refine r_ifne a178_5 (fun h_5 => ?_) (fun h_5 => ?_)
  · refine r_loadA a178_10 rfl (by decide) ?_
    refine r_loadI a178_11 rfl ?_
    have hk := (okD h_2).1 (by omega)
    refine r_callI_2 a178_12 (Nat.le_of_ble_eq_true rfl) (le_mx mx166 (Nat.le_of_ble_eq_true rfl)) (Or.inr (recv_ok ty121 ow166 (by decide))) (c_Mo_nowQ e z m s cl k (by omega) hC hk) (fun x_12 m_12 h_12 => ?_)
    obtain ⟨g1, g2, _⟩ := h_12
    rw [g2]
    have hC2 := CpM_K (FrL_KM g1) hC
    refine r_storeI_2 a178_15 rfl ?_
    refine r_loadA a178_16 rfl (by decide) ?_
    refine r_pushI a178_17 ?_
    refine r_putZ (ki := 16) a178_18 ty121 rfl (by omega) ?_
    refine r_loadA a178_21 rfl (by decide) ?_
    refine r_loadI a178_22 rfl ?_
    refine r_callI_2 a178_23 (Nat.le_of_ble_eq_true rfl) (le_mx mx166 (Nat.le_of_ble_eq_true rfl)) (Or.inr (recv_ok ty121 ow166 (by decide))) (c_Mo_leastNow e z (up2 m_12 121 16 1) s cl k 0 (by omega) (CpM_A hC hk r7 (by omega)) (by rw [up2_c (by decide)]; exact hC2.1) (by rw [up2_s]; rfl)) (fun x_23 m_23 h_23 => ?_)
    obtain ⟨g3, _, g4, _⟩ := h_23
    rw [g4]
    refine r_storeI_3 a178_26 rfl ?_
    refine r_loadA a178_27 rfl (by decide) ?_
    refine r_pushI a178_28 ?_
    refine r_putZ (ki := 16) a178_29 ty121 rfl (by omega) ?_
    refine r_loadI a178_32 rfl ?_
    refine r_loadI a178_33 rfl ?_
    refine r_sub a178_34 (by omega) ?_
    refine r_retIq a178_35 ?_
    refine ⟨KM.trans (FrL_KM g1) ⟨fun x a b => ?_, ?_, ?_, ?_, ?_⟩, by unfold aWax; rw [if_neg (fun q => q hk)]⟩
    · rw [up2_c a, (FrL_KM g3).1 x a b, up2_c a]
    · rw [up2_k (by decide), (FrL_KM g3).2.1, up2_k (by decide)]
    · rw [up2_k (by decide), (FrL_KM g3).2.2.1, up2_k (by decide)]
    · rw [up2_s, hC2.2.2.2]
    · rw [up2_k (by decide), (FrL_KM g3).2.2.2.2, up2_k (by decide)]
  · refine r_pushI a178_8 ?_
    refine r_retIq a178_9 ?_
    exact ⟨KM.refl m, by unfold aWax; rw [if_pos ((okD h_2).2 (by omega))]⟩
theorem c_Mo_risk (d z : Nat) (m : XM) (s : Int → Int) (cl : CLs) (a b v p : Int) (hd : 17 ≤ d) (hC : CpM m s cl) :
    CL d k_Mo_risk z m [vR 121, vI a, vI b, vI v, vI p] (fun x m' => KM m m' ∧ x = aRisk s cl a b v p) := by
  obtain ⟨e, rfl⟩ : ∃ e, d = e + 1 := ⟨d - 1, by omega⟩
  have t1 := tQ_r (k := b) (w := 1) hC.2.1 (CpM_e hC).1 (CpM_e hC).2 (CpM_7 hC)
  refine r_entry mx182 rfl ?_
  refine r_loadA a182_0 rfl (by decide) ?_
  refine r_loadI a182_1 rfl ?_
  refine r_callI_2 a182_2 (Nat.le_of_ble_eq_true rfl) (le_mx mx122 (Nat.le_of_ble_eq_true rfl)) (Or.inr (recv_ok ty121 ow122 (by decide))) (c_Mo_isSk e z m s cl hC a (by omega)) (fun x_2 m_2 h_2 => ?_)
  obtain ⟨hm_2, h_2⟩ := h_2
  rw [hm_2]
  refine r_ifeq a182_5 (fun h_5 => ?_) (fun h_5 => ?_)
  · refine r_pushL a182_42 ?_
    refine r_retLq a182_45 ?_
    refine ⟨KM.refl m, ?_⟩
    unfold aRisk; rw [if_neg]
    rintro ⟨a1, a2, a3⟩
    first
      | exact (okD h_2).2 (by omega) a1
      | exact (okD h_10).2 (by omega) a2
      | omega
  · refine r_loadA a182_8 rfl (by decide) ?_
    refine r_loadI a182_9 rfl ?_
    refine r_callI_2 a182_10 (Nat.le_of_ble_eq_true rfl) (le_mx mx122 (Nat.le_of_ble_eq_true rfl)) (Or.inr (recv_ok ty121 ow122 (by decide))) (c_Mo_isSk e z m s cl hC b (by omega)) (fun x_10 m_10 h_10 => ?_)
    obtain ⟨hm_10, h_10⟩ := h_10
    rw [hm_10]
    refine r_ifeq a182_13 (fun h_13 => ?_) (fun h_13 => ?_)
    · refine r_pushL a182_42 ?_
      refine r_retLq a182_45 ?_
      refine ⟨KM.refl m, ?_⟩
      unfold aRisk; rw [if_neg]
      rintro ⟨a1, a2, a3⟩
      first
        | exact (okD h_2).2 (by omega) a1
        | exact (okD h_10).2 (by omega) a2
        | omega
    · refine r_loadI a182_16 rfl ?_
      refine r_loadI a182_17 rfl ?_
      refine r_iceq a182_18 (fun h_18 => ?_) (fun h_18 => ?_)
      · refine r_pushL a182_42 ?_
        refine r_retLq a182_45 ?_
        refine ⟨KM.refl m, ?_⟩
        unfold aRisk; rw [if_neg]
        rintro ⟨a1, a2, a3⟩
        first
          | exact (okD h_2).2 (by omega) a1
          | exact (okD h_10).2 (by omega) a2
          | omega
      · refine r_loadI a182_21 rfl ?_
        refine r_pushI a182_22 ?_
        refine r_pushI a182_24 ?_
        refine r_callI_3 a182_26 (Nat.le_of_ble_eq_true rfl) (le_mx mx119 (Nat.le_of_ble_eq_true rfl)) (Or.inl rfl) (c_Mo_in e z m v (-99) 99) (fun x_26 m_26 h_26 => ?_)
        obtain ⟨hm_26, h_26⟩ := h_26
        rw [hm_26]
        refine r_ifeq a182_29 (fun h_29 => ?_) (fun h_29 => ?_)
        · refine r_pushL a182_42 ?_
          refine r_retLq a182_45 ?_
          refine ⟨KM.refl m, ?_⟩
          unfold aRisk; rw [if_neg]
          rintro ⟨a1, a2, a3⟩
          first
            | exact (okD h_2).2 (by omega) a1
            | exact (okD h_10).2 (by omega) a2
            | omega
        · refine r_loadI a182_32 rfl ?_
          refine r_pushI a182_34 ?_
          refine r_pushI a182_35 ?_
          refine r_callI_3 a182_36 (Nat.le_of_ble_eq_true rfl) (le_mx mx119 (Nat.le_of_ble_eq_true rfl)) (Or.inl rfl) (c_Mo_in e z m p 0 1) (fun x_36 m_36 h_36 => ?_)
          obtain ⟨hm_36, h_36⟩ := h_36
          rw [hm_36]
          refine r_ifne a182_39 (fun h_39 => ?_) (fun h_39 => ?_)
          · refine r_loadA a182_46 rfl (by decide) ?_
            refine r_loadI a182_47 rfl ?_
            have ha := (okD h_2).1 (by omega)
            have hb := (okD h_10).1 (by omega)
            refine r_callI_2 a182_48 (Nat.le_of_ble_eq_true rfl) (le_mx mx166 (Nat.le_of_ble_eq_true rfl)) (Or.inr (recv_ok ty121 ow166 (by decide))) (c_Mo_nowQ e z m s cl b (by omega) hC hb) (fun x_48 m_48 h_48 => ?_)
            obtain ⟨g1, g2, _⟩ := h_48
            rw [g2]
            have hC2 := CpM_K (FrL_KM g1) hC
            refine r_loadI a182_51 rfl ?_
            refine r_sub a182_52 (by omega) ?_
            refine r_storeI_5 a182_53 rfl ?_
            refine r_loadA a182_55 rfl (by decide) ?_
            refine r_loadI a182_56 rfl ?_
            refine r_loadI a182_57 rfl ?_
            refine r_callV_3 a182_59 (Nat.le_of_ble_eq_true rfl) (le_mx mx169 (Nat.le_of_ble_eq_true rfl)) (Or.inr (recv_ok ty121 ow169 (by decide))) (c_Mo_looksForSurest e z m_48 s cl a (tQ s cl b (s 7) 1 - v) (by omega) hC2 ha) (fun m_59 h_59 => ?_)
            obtain ⟨g3, g4, g5, _⟩ := h_59
            refine r_loadA a182_62 rfl (by decide) ?_
            refine r_loadI a182_63 rfl ?_
            refine r_callL_2 a182_65 (Nat.le_of_ble_eq_true rfl) (le_mx mx170 (Nat.le_of_ble_eq_true rfl)) (Or.inr (recv_ok ty121 ow170 (by decide))) (c_Mo_surestPart e z m_59 s cl a (tQ s cl b (s 7) 1 - v) p (by omega) (CpM_K g3 hC2) g4 g5) (fun x_65 m_65 h_65 => ?_)
            obtain ⟨hm_65, h_65⟩ := h_65
            rw [hm_65]
            refine r_retLq a182_68 ?_
            refine ⟨KM.trans (FrL_KM g1) g3, ?_⟩
            unfold aRisk; rw [if_pos ⟨ha, hb, by omega, by omega, by omega⟩]; exact h_65
          · refine r_pushL a182_42 ?_
            refine r_retLq a182_45 ?_
            refine ⟨KM.refl m, ?_⟩
            unfold aRisk; rw [if_neg]
            rintro ⟨a1, a2, a3⟩
            first
              | exact (okD h_2).2 (by omega) a1
              | exact (okD h_10).2 (by omega) a2
              | omega
theorem c_Mo_fitting (d z : Nat) (m : XM) (s : Int → Int) (cl : CLs) (k : Int) (hd : 14 ≤ d) (hC : CpM m s cl) (hk : sk s k) :
    CI d k_Mo_fitting z m [vR 121, vI k] (fun x m' => KM m m' ∧ x = sMa (fQ s cl k) ∧ (0 < sMa (fQ s cl k) → ∀ i, 0 ≤ i → i < s 0 → m' 136 i = sBe (fQ s cl k) i)) := by
  obtain ⟨e, rfl⟩ : ∃ e, d = e + 1 := ⟨d - 1, by omega⟩
  have hN := hC.2.1.1.1
  have hA := CpM_A (w := 1) hC hk (CpM_7 hC) (by omega)
  refine r_entry mx190 rfl ?_
  refine r_loadA a190_0 rfl (by decide) ?_
  refine r_loadI a190_1 rfl ?_
  refine r_callV_2 a190_2 (Nat.le_of_ble_eq_true rfl) (le_mx mx150 (Nat.le_of_ble_eq_true rfl)) (Or.inr (recv_ok ty121 ow150 (by decide))) (c_Mo_beginsNow e z m s cl k 1 (by omega) hC.2.1 hC.1 (CpM_16 hC)) (fun m_2 h_2 => ?_)
  obtain ⟨f1, q1⟩ := h_2
  refine r_loadA a190_5 rfl (by decide) ?_
  refine r_pushI a190_6 ?_
  refine r_pushI a190_7 ?_
  refine r_pushI a190_8 ?_
  refine r_callV_4 a190_9 (Nat.le_of_ble_eq_true rfl) (le_mx mx164 (Nat.le_of_ble_eq_true rfl)) (Or.inr (recv_ok ty121 ow164 (by decide))) (c_Mo_looksForLines e z m_2 s cl k (s 7) 1 idn 3 0 3 (by omega) hA (by omega) q1 (by omega) (by omega)) (fun m_9 h_9 => ?_)
  refine r_loadA a190_12 rfl (by decide) ?_
  refine r_getI (ki := 38) a190_13 ty121 rfl ?_
  refine r_retIq a190_16 ?_
  obtain ⟨g1, g2, g3, g4⟩ := h_9
  have e0 : (s 0 - 0).toNat = (s 0).toNat := by rw [Int.sub_zero]
  rw [e0] at g4
  have hs := sGo_sim (eO s cl k (s 7)) (eT s cl k (s 7) 1) (eB s cl k (s 7)) (s 0) 3 (m_2 121 35) 0 (seenP s) (fun q => absurd q (by decide)) (s 0).toNat 0 3 0 1 (m_2 135, m_2 136, 1000000, -1, 0) x00 (by omega) (by omega) (show (0 : Int) ≤ 0 from Int.le_refl 0) (x_sim (s 0) (m_2 135) (m_2 136))
  obtain ⟨_, _, s3, s4, s5⟩ := hs
  obtain ⟨_, t2, _, t4, t5⟩ := g4
  refine ⟨KM.trans (FrL_KM f1) (FrL_KM (look_FrL g1 g2)), t5.trans s4, fun q i a b => ?_⟩
  rw [t2]
  exact s5 (s4.symm ▸ q) i a b
theorem c_Mo_fits (d z : Nat) (m : XM) (s : Int → Int) (cl : CLs) (k i : Int) (hd : 15 ≤ d) (hC : CpM m s cl) :
    CI d k_Mo_fits z m [vR 121, vI k, vI i] (fun x m' => KM m m' ∧ x = aFits s cl k i) := by
  obtain ⟨e, rfl⟩ : ∃ e, d = e + 1 := ⟨d - 1, by omega⟩
  have hN := hC.2.1.1.1
  refine r_entry mx191 rfl ?_
  refine r_loadA a191_0 rfl (by decide) ?_
  refine r_loadI a191_1 rfl ?_
  refine r_callI_2 a191_2 (Nat.le_of_ble_eq_true rfl) (le_mx mx122 (Nat.le_of_ble_eq_true rfl)) (Or.inr (recv_ok ty121 ow122 (by decide))) (c_Mo_isSk e z m s cl hC k (by omega)) (fun x_2 m_2 h_2 => ?_)
  obtain ⟨hm_2, h_2⟩ := h_2
  rw [hm_2]
  refine r_ifeq a191_5 (fun h_5 => ?_) (fun h_5 => ?_)
  · refine r_pushI a191_18 ?_
    refine r_retIq a191_19 ?_
    refine ⟨KM.refl m, ?_⟩
    unfold aFits; rw [if_pos]
    rintro ⟨a, b⟩
    first
      | exact (okD h_2).2 (by omega) a
      | omega
  · refine r_loadI a191_8 rfl ?_
    refine r_pushI a191_9 ?_
    refine r_pushI a191_10 ?_
    refine r_callI_3 a191_12 (Nat.le_of_ble_eq_true rfl) (le_mx mx119 (Nat.le_of_ble_eq_true rfl)) (Or.inl rfl) (c_Mo_in e z m i (-1) 6) (fun x_12 m_12 h_12 => ?_)
    obtain ⟨hm_12, h_12⟩ := h_12
    rw [hm_12]
    refine r_ifne a191_15 (fun h_15 => ?_) (fun h_15 => ?_)
    · refine r_loadA a191_20 rfl (by decide) ?_
      refine r_loadI a191_21 rfl ?_
      have hk := (okD h_2).1 (by omega)
      have hw : aFits s cl k i = if i = -1 then sMa (fQ s cl k) else if 0 < sMa (fQ s cl k) ∧ i < s 0 then sBe (fQ s cl k) i else -5 := by
        unfold aFits; rw [if_neg (fun q => q ⟨hk, by omega⟩)]
      refine r_callI_2 a191_22 (Nat.le_of_ble_eq_true rfl) (le_mx mx190 (Nat.le_of_ble_eq_true rfl)) (Or.inr (recv_ok ty121 ow190 (by decide))) (c_Mo_fitting e z m s cl k (by omega) hC hk) (fun x_22 m_22 h_22 => ?_)
      obtain ⟨g1, g3, g5⟩ := h_22
      rw [g3]
      have f122 : m_22 122 = s := (CpM_K g1 hC).1
      refine r_storeI_3 a191_25 rfl ?_
      refine r_loadI a191_26 rfl ?_
      refine r_pushI a191_27 ?_
      refine r_icne a191_28 (fun h_28 => ?_) (fun h_28 => ?_)
      · refine r_loadI a191_35 rfl ?_
        refine r_ifle a191_36 (fun h_36 => ?_) (fun h_36 => ?_)
        · refine r_pushI a191_58 ?_
          refine r_retIq a191_60 ?_
          refine ⟨g1, ?_⟩
          rw [hw]
          first
            | rw [if_pos (by omega)]
            | (rw [if_neg (by omega), if_pos ⟨by omega, by omega⟩]; exact g5 (by omega) i (by omega) (by omega))
            | rw [if_neg (by omega), if_neg (by omega)]
        · refine r_loadI a191_39 rfl ?_
          refine r_loadA a191_40 rfl (by decide) ?_
          refine r_getR a191_41 ty121 rf121_1 (by decide) ?_
          refine r_pushI a191_44 ?_
          refine r_iald a191_45 ty122 (by omega) ?_
          rw [f122]
          refine r_icge a191_46 (fun h_46 => ?_) (fun h_46 => ?_)
          · refine r_pushI a191_58 ?_
            refine r_retIq a191_60 ?_
            refine ⟨g1, ?_⟩
            rw [hw]
            first
              | rw [if_pos (by omega)]
              | (rw [if_neg (by omega), if_pos ⟨by omega, by omega⟩]; exact g5 (by omega) i (by omega) (by omega))
              | rw [if_neg (by omega), if_neg (by omega)]
          · refine r_loadA a191_49 rfl (by decide) ?_
            refine r_getR a191_50 ty121 rf121_33 (by decide) ?_
            refine r_loadI a191_53 rfl ?_
            refine r_iald a191_54 ty136 (by omega) ?_
            refine r_goto a191_55 ?_
            refine r_retIq a191_60 ?_
            refine ⟨g1, ?_⟩
            rw [hw]
            first
              | rw [if_pos (by omega)]
              | (rw [if_neg (by omega), if_pos ⟨by omega, by omega⟩]; exact g5 (by omega) i (by omega) (by omega))
              | rw [if_neg (by omega), if_neg (by omega)]
      · refine r_loadI a191_31 rfl ?_
        refine r_goto a191_32 ?_
        refine r_retIq a191_60 ?_
        refine ⟨g1, ?_⟩
        rw [hw]
        first
          | rw [if_pos (by omega)]
          | (rw [if_neg (by omega), if_pos ⟨by omega, by omega⟩]; exact g5 (by omega) i (by omega) (by omega))
          | rw [if_neg (by omega), if_neg (by omega)]
    · refine r_pushI a191_18 ?_
      refine r_retIq a191_19 ?_
      refine ⟨KM.refl m, ?_⟩
      unfold aFits; rw [if_pos]
      rintro ⟨a, b⟩
      first
        | exact (okD h_2).2 (by omega) a
        | omega
