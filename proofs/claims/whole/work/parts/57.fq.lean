-- ===== the class: its answers =====
def aWould (s : Int → Int) (cl : CLs) (k v : Int) : Int :=
  if ¬ sk s k then -1 else if v = 0 then qT s cl k (lnS s) (s 0).toNat else if v = 1 then qP s cl k (lnS s) (s 0).toNat else if v = 2 then qZ s cl k (lnS s) (s 0).toNat
  else if gt s (v - 10) then qTk s cl k (lnS s) (v - 10) else if gt s (v - 20) then qOv s cl k (lnS s) (v - 20) else -1
theorem tk_at {m : XM} {P : Nat} {s : Int → Int} {cl : CLs} {k : Int} {l : Int → Int} (hG : GoP m P (eO s cl k (s 7)) (eT s cl k (s 7) 1) (eB s cl k (s 7)) l (s 0)) {i : Int} (h0 : 0 ≤ i) (h1 : i < s 0) : m (P + 11) i = qTk s cl k l i ∧ m (P + 12) i = qOv s cl k l i := by
  obtain ⟨a, b⟩ := hG.2.2.2.2 i.toNat (by omega)
  have e : ((i.toNat : Nat) : Int) = i := by omega
  rw [e] at a b
  exact ⟨a, b⟩
theorem c_Fg_run (d z : Nat) (m : XM) (s : Int → Int) (cl : CLs) (k : Int) (hd : 7 ≤ d) (hC : CpC m s cl) :
    CI d k_Fg_run z m [vR 32, vI k] (fun x m' => (¬ sk s k ∧ x = -1 ∧ m' = m) ∨ (sk s k ∧ s 7 = 9999 ∧ x = -3 ∧ m' = m) ∨ (sk s k ∧ s 7 < 9999 ∧ x = qT s cl k (lnS s) (s 0).toNat ∧ ∃ m1, KC m m1 ∧ m' = up2 m1 33 3 (s 7 + 1))) := by
  obtain ⟨e, rfl⟩ : ∃ e, d = e + 1 := ⟨d - 1, by omega⟩
  have h7 : m 33 3 = s 7 := hC.2.1.2.2.1.2.1
  have r7 := hC.1.1.2.2.2.2.2.2.2
  refine r_entry mx74 rfl ?_
  refine r_loadA a74_0 rfl (by decide) ?_
  refine r_loadI a74_1 rfl ?_
  refine r_callI_2 a74_2 (Nat.le_of_ble_eq_true rfl) (le_mx mx104 (Nat.le_of_ble_eq_true rfl)) (Or.inr (recv_ok ty32 ow104 (by decide))) (c_Fg_noSkier e z m s cl hC k) (fun x_2 m_2 h_2 => ?_)
  obtain ⟨hm_2, h_2⟩ := h_2
  rw [hm_2]
  refine r_ifeq a74_5 (fun h_5 => ?_) (fun h_5 => ?_)
  · refine r_loadA a74_10 rfl (by decide) ?_
    refine r_getR a74_11 ty32 rf32_0 (by decide) ?_
    refine r_getI (ki := 3) a74_14 ty33 rfl ?_
    refine r_pushI a74_17 ?_
    rw [h7]
    refine r_iclt a74_20 (fun h_20 => ?_) (fun h_20 => ?_)
    · refine r_loadA a74_26 rfl (by decide) ?_
      refine r_loadI a74_27 rfl ?_
      have hk : sk s k := by
        rcases h_2 with ⟨q, _⟩ | ⟨_, q⟩
        · exfalso; omega
        · exact q
      refine r_callV_2 a74_28 (Nat.le_of_ble_eq_true rfl) (le_mx mx109 (Nat.le_of_ble_eq_true rfl)) (Or.inr (recv_ok ty32 ow109 (by decide))) (c_Fg_goByTheLine e z m s cl k (by omega) hC hk) (fun m_28 h_28 => ?_)
      obtain ⟨g1, g2, g3⟩ := h_28
      have e7 : m_28 33 3 = s 7 := by rw [g1.1 33 (by decide) (by decide) (by decide)]; exact h7
      refine r_loadA a74_31 rfl (by decide) ?_
      refine r_getR a74_32 ty32 rf32_0 (by decide) ?_
      refine r_dup a74_35 rfl ?_
      refine r_getI (ki := 3) a74_36 ty33 rfl ?_
      refine r_pushI a74_39 ?_
      rw [e7]
      refine r_add a74_40 (by omega) ?_
      refine r_putI (ki := 3) a74_41 ty33 rfl ?_
      refine r_loadA a74_44 rfl (by decide) ?_
      refine r_getR a74_45 ty32 rf32_4 (by decide) ?_
      refine r_getI (ki := 13) a74_48 ty85 rfl ?_
      refine r_retIq a74_51 ?_
      refine Or.inr (Or.inr ⟨hk, by omega, ?_, m_28, g1, rfl⟩)
      rw [up2_c (by decide)]; exact g3.1
    · refine r_pushI a74_23 ?_
      refine r_retIq a74_25 ?_
      rcases h_2 with ⟨q, _⟩ | ⟨_, q⟩
      · exfalso; omega
      · exact Or.inr (Or.inl ⟨q, by omega, rfl, rfl⟩)
  · refine r_pushI a74_8 ?_
    refine r_retIq a74_9 ?_
    rcases h_2 with ⟨_, q⟩ | ⟨q, _⟩
    · exact Or.inl ⟨q, rfl, rfl⟩
    · exfalso; omega
theorem c_Fg_would (d z : Nat) (m : XM) (s : Int → Int) (cl : CLs) (k v : Int) (hd : 7 ≤ d) (hC : CpC m s cl) (hv : -2147483648 ≤ v ∧ v < 2147483648) :
    CI d k_Fg_would z m [vR 32, vI k, vI v] (fun x m' => KC m m' ∧ x = aWould s cl k v) := by
  obtain ⟨e, rfl⟩ : ∃ e, d = e + 1 := ⟨d - 1, by omega⟩
  have hN := hC.1.1.1
  refine r_entry mx75 rfl ?_
  refine r_loadA a75_0 rfl (by decide) ?_
  refine r_loadI a75_1 rfl ?_
  refine r_callI_2 a75_2 (Nat.le_of_ble_eq_true rfl) (le_mx mx104 (Nat.le_of_ble_eq_true rfl)) (Or.inr (recv_ok ty32 ow104 (by decide))) (c_Fg_noSkier e z m s cl hC k) (fun x_2 m_2 h_2 => ?_)
  obtain ⟨hm_2, h_2⟩ := h_2
  rw [hm_2]
  refine r_ifeq a75_5 (fun h_5 => ?_) (fun h_5 => ?_)
  · refine r_loadA a75_10 rfl (by decide) ?_
    refine r_loadI a75_11 rfl ?_
    have hk : sk s k := by
      rcases h_2 with ⟨q, _⟩ | ⟨_, q⟩
      · exfalso; omega
      · exact q
    have hw : aWould s cl k v = if v = 0 then qT s cl k (lnS s) (s 0).toNat else if v = 1 then qP s cl k (lnS s) (s 0).toNat else if v = 2 then qZ s cl k (lnS s) (s 0).toNat else if gt s (v - 10) then qTk s cl k (lnS s) (v - 10) else if gt s (v - 20) then qOv s cl k (lnS s) (v - 20) else -1 := by
      unfold aWould; rw [if_neg (fun q => q hk)]
    refine r_callV_2 a75_12 (Nat.le_of_ble_eq_true rfl) (le_mx mx109 (Nat.le_of_ble_eq_true rfl)) (Or.inr (recv_ok ty32 ow109 (by decide))) (c_Fg_goByTheLine e z m s cl k (by omega) hC hk) (fun m_12 h_12 => ?_)
    obtain ⟨g1, g2, g3⟩ := h_12
    have hC2 := CpC_K g1 hC
    have hz := rnZ_r (eO s cl k (s 7)) (eB s cl k (s 7)) (lnS s) (s 0).toNat
    have ez : m_12 85 15 = rnZ (eO s cl k (s 7)) (eB s cl k (s 7)) (lnS s) (s 0).toNat := g3.2.2.1
    refine r_loadI a75_15 rfl ?_
    refine r_switch a75_16 ?_
    refine r_sw_cons (fun h_16 => ?_) (fun n_16_0 => ?_)
    · refine r_loadA a75_44 rfl (by decide) ?_
      refine r_getR a75_45 ty32 rf32_4 (by decide) ?_
      refine r_getI (ki := 13) a75_48 ty85 rfl ?_
      refine r_retIq a75_51 ?_
      refine ⟨g1, ?_⟩
      rw [hw]
      have n10 : gt s (v - 10) → 0 ≤ v - 10 ∧ v - 10 < s 0 := fun q => q
      have n20 : gt s (v - 20) → 0 ≤ v - 20 ∧ v - 20 < s 0 := fun q => q
      first
        | (rw [if_pos (by omega)]; exact g3.1)
        | (rw [if_neg (by omega), if_pos (by omega)]; exact g3.2.1)
        | (rw [if_neg (by omega), if_neg (by omega), if_pos (by omega)]
           show _ = rnZ _ _ _ _
           omega)
        | (rw [if_neg (by omega), if_neg (by omega), if_neg (by omega), if_pos hg]; exact (tk_at g3 hg2.1 hg2.2).1)
        | (rw [if_neg (by omega), if_neg (by omega), if_neg (by omega), if_neg (fun q => by have := n10 q; omega), if_pos hg]; exact (tk_at g3 hg2.1 hg2.2).2)
        | (rw [if_neg (by omega), if_neg (by omega), if_neg (by omega), if_neg (fun q => by have := n10 q; omega), if_neg (fun q => by have := n20 q; omega)])
        | (rw [if_neg (by omega), if_neg (by omega), if_neg (by omega), if_neg (fun q => by rcases h_95 with ⟨_, q2⟩ | ⟨q2, _⟩ <;> first | exact q2 q | omega), if_neg (fun q => by have := n20 q; omega)])
        | (rw [if_neg (by omega), if_neg (by omega), if_neg (by omega), if_neg (fun q => by have := n10 q; omega), if_neg (fun q => by rcases h_123 with ⟨_, q2⟩ | ⟨q2, _⟩ <;> first | exact q2 q | omega)])
    refine r_sw_cons (fun h_16 => ?_) (fun n_16_1 => ?_)
    · refine r_loadA a75_52 rfl (by decide) ?_
      refine r_getR a75_53 ty32 rf32_4 (by decide) ?_
      refine r_getI (ki := 14) a75_56 ty85 rfl ?_
      refine r_retIq a75_59 ?_
      refine ⟨g1, ?_⟩
      rw [hw]
      have n10 : gt s (v - 10) → 0 ≤ v - 10 ∧ v - 10 < s 0 := fun q => q
      have n20 : gt s (v - 20) → 0 ≤ v - 20 ∧ v - 20 < s 0 := fun q => q
      first
        | (rw [if_pos (by omega)]; exact g3.1)
        | (rw [if_neg (by omega), if_pos (by omega)]; exact g3.2.1)
        | (rw [if_neg (by omega), if_neg (by omega), if_pos (by omega)]
           show _ = rnZ _ _ _ _
           omega)
        | (rw [if_neg (by omega), if_neg (by omega), if_neg (by omega), if_pos hg]; exact (tk_at g3 hg2.1 hg2.2).1)
        | (rw [if_neg (by omega), if_neg (by omega), if_neg (by omega), if_neg (fun q => by have := n10 q; omega), if_pos hg]; exact (tk_at g3 hg2.1 hg2.2).2)
        | (rw [if_neg (by omega), if_neg (by omega), if_neg (by omega), if_neg (fun q => by have := n10 q; omega), if_neg (fun q => by have := n20 q; omega)])
        | (rw [if_neg (by omega), if_neg (by omega), if_neg (by omega), if_neg (fun q => by rcases h_95 with ⟨_, q2⟩ | ⟨q2, _⟩ <;> first | exact q2 q | omega), if_neg (fun q => by have := n20 q; omega)])
        | (rw [if_neg (by omega), if_neg (by omega), if_neg (by omega), if_neg (fun q => by have := n10 q; omega), if_neg (fun q => by rcases h_123 with ⟨_, q2⟩ | ⟨q2, _⟩ <;> first | exact q2 q | omega)])
    refine r_sw_cons (fun h_16 => ?_) (fun n_16_2 => ?_)
    · refine r_loadA a75_60 rfl (by decide) ?_
      refine r_getR a75_61 ty32 rf32_4 (by decide) ?_
      refine r_getI (ki := 15) a75_64 ty85 rfl ?_
      rw [ez]
      refine r_ifeq a75_67 (fun h_67 => ?_) (fun h_67 => ?_)
      · refine r_pushI a75_74 ?_
        refine r_retIq a75_75 ?_
        refine ⟨g1, ?_⟩
        rw [hw]
        have n10 : gt s (v - 10) → 0 ≤ v - 10 ∧ v - 10 < s 0 := fun q => q
        have n20 : gt s (v - 20) → 0 ≤ v - 20 ∧ v - 20 < s 0 := fun q => q
        first
          | (rw [if_pos (by omega)]; exact g3.1)
          | (rw [if_neg (by omega), if_pos (by omega)]; exact g3.2.1)
          | (rw [if_neg (by omega), if_neg (by omega), if_pos (by omega)]
             show _ = rnZ _ _ _ _
             omega)
          | (rw [if_neg (by omega), if_neg (by omega), if_neg (by omega), if_pos hg]; exact (tk_at g3 hg2.1 hg2.2).1)
          | (rw [if_neg (by omega), if_neg (by omega), if_neg (by omega), if_neg (fun q => by have := n10 q; omega), if_pos hg]; exact (tk_at g3 hg2.1 hg2.2).2)
          | (rw [if_neg (by omega), if_neg (by omega), if_neg (by omega), if_neg (fun q => by have := n10 q; omega), if_neg (fun q => by have := n20 q; omega)])
          | (rw [if_neg (by omega), if_neg (by omega), if_neg (by omega), if_neg (fun q => by rcases h_95 with ⟨_, q2⟩ | ⟨q2, _⟩ <;> first | exact q2 q | omega), if_neg (fun q => by have := n20 q; omega)])
          | (rw [if_neg (by omega), if_neg (by omega), if_neg (by omega), if_neg (fun q => by have := n10 q; omega), if_neg (fun q => by rcases h_123 with ⟨_, q2⟩ | ⟨q2, _⟩ <;> first | exact q2 q | omega)])
      · refine r_pushI a75_70 ?_
        refine r_goto a75_71 ?_
        refine r_retIq a75_75 ?_
        refine ⟨g1, ?_⟩
        rw [hw]
        have n10 : gt s (v - 10) → 0 ≤ v - 10 ∧ v - 10 < s 0 := fun q => q
        have n20 : gt s (v - 20) → 0 ≤ v - 20 ∧ v - 20 < s 0 := fun q => q
        first
          | (rw [if_pos (by omega)]; exact g3.1)
          | (rw [if_neg (by omega), if_pos (by omega)]; exact g3.2.1)
          | (rw [if_neg (by omega), if_neg (by omega), if_pos (by omega)]
             show _ = rnZ _ _ _ _
             omega)
          | (rw [if_neg (by omega), if_neg (by omega), if_neg (by omega), if_pos hg]; exact (tk_at g3 hg2.1 hg2.2).1)
          | (rw [if_neg (by omega), if_neg (by omega), if_neg (by omega), if_neg (fun q => by have := n10 q; omega), if_pos hg]; exact (tk_at g3 hg2.1 hg2.2).2)
          | (rw [if_neg (by omega), if_neg (by omega), if_neg (by omega), if_neg (fun q => by have := n10 q; omega), if_neg (fun q => by have := n20 q; omega)])
          | (rw [if_neg (by omega), if_neg (by omega), if_neg (by omega), if_neg (fun q => by rcases h_95 with ⟨_, q2⟩ | ⟨q2, _⟩ <;> first | exact q2 q | omega), if_neg (fun q => by have := n20 q; omega)])
          | (rw [if_neg (by omega), if_neg (by omega), if_neg (by omega), if_neg (fun q => by have := n10 q; omega), if_neg (fun q => by rcases h_123 with ⟨_, q2⟩ | ⟨q2, _⟩ <;> first | exact q2 q | omega)])
    refine r_sw_nil ?_
    refine r_loadI a75_76 rfl ?_
    refine r_pushI a75_77 ?_
    refine r_icge a75_79 (fun h_79 => ?_) (fun h_79 => ?_)
    · refine r_loadI a75_84 rfl ?_
      refine r_pushI a75_85 ?_
      refine r_icge a75_87 (fun h_87 => ?_) (fun h_87 => ?_)
      · refine r_loadA a75_118 rfl (by decide) ?_
        refine r_loadI a75_119 rfl ?_
        refine r_pushI a75_120 ?_
        refine r_sub a75_122 (by omega) ?_
        refine r_callI_2 a75_123 (Nat.le_of_ble_eq_true rfl) (le_mx mx103 (Nat.le_of_ble_eq_true rfl)) (Or.inr (recv_ok ty32 ow103 (by decide))) (c_Fg_noGate e z m_12 s cl hC2 (v - 20)) (fun x_123 m_123 h_123 => ?_)
        obtain ⟨hm_123, h_123⟩ := h_123
        rw [hm_123]
        refine r_ifeq a75_126 (fun h_126 => ?_) (fun h_126 => ?_)
        · have hg : gt s (v - 20) := by
            rcases h_123 with ⟨q, _⟩ | ⟨_, q⟩
            · exfalso; omega
            · exact q
          have hg2 : 0 ≤ v - 20 ∧ v - 20 < s 0 := hg
          refine r_loadA a75_133 rfl (by decide) ?_
          refine r_getR a75_134 ty32 rf32_4 (by decide) ?_
          refine r_getR a75_137 ty85 rf85_12 (by decide) ?_
          refine r_loadI a75_140 rfl ?_
          refine r_pushI a75_141 ?_
          refine r_sub a75_143 (by omega) ?_
          refine r_iald a75_144 ty97 (by omega) ?_
          refine r_retIq a75_145 ?_
          refine ⟨g1, ?_⟩
          rw [hw]
          have n10 : gt s (v - 10) → 0 ≤ v - 10 ∧ v - 10 < s 0 := fun q => q
          have n20 : gt s (v - 20) → 0 ≤ v - 20 ∧ v - 20 < s 0 := fun q => q
          first
            | (rw [if_pos (by omega)]; exact g3.1)
            | (rw [if_neg (by omega), if_pos (by omega)]; exact g3.2.1)
            | (rw [if_neg (by omega), if_neg (by omega), if_pos (by omega)]
               show _ = rnZ _ _ _ _
               omega)
            | (rw [if_neg (by omega), if_neg (by omega), if_neg (by omega), if_pos hg]; exact (tk_at g3 hg2.1 hg2.2).1)
            | (rw [if_neg (by omega), if_neg (by omega), if_neg (by omega), if_neg (fun q => by have := n10 q; omega), if_pos hg]; exact (tk_at g3 hg2.1 hg2.2).2)
            | (rw [if_neg (by omega), if_neg (by omega), if_neg (by omega), if_neg (fun q => by have := n10 q; omega), if_neg (fun q => by have := n20 q; omega)])
            | (rw [if_neg (by omega), if_neg (by omega), if_neg (by omega), if_neg (fun q => by rcases h_95 with ⟨_, q2⟩ | ⟨q2, _⟩ <;> first | exact q2 q | omega), if_neg (fun q => by have := n20 q; omega)])
            | (rw [if_neg (by omega), if_neg (by omega), if_neg (by omega), if_neg (fun q => by have := n10 q; omega), if_neg (fun q => by rcases h_123 with ⟨_, q2⟩ | ⟨q2, _⟩ <;> first | exact q2 q | omega)])
        · refine r_pushI a75_129 ?_
          refine r_goto a75_130 ?_
          refine r_retIq a75_145 ?_
          refine ⟨g1, ?_⟩
          rw [hw]
          have n10 : gt s (v - 10) → 0 ≤ v - 10 ∧ v - 10 < s 0 := fun q => q
          have n20 : gt s (v - 20) → 0 ≤ v - 20 ∧ v - 20 < s 0 := fun q => q
          first
            | (rw [if_pos (by omega)]; exact g3.1)
            | (rw [if_neg (by omega), if_pos (by omega)]; exact g3.2.1)
            | (rw [if_neg (by omega), if_neg (by omega), if_pos (by omega)]
               show _ = rnZ _ _ _ _
               omega)
            | (rw [if_neg (by omega), if_neg (by omega), if_neg (by omega), if_pos hg]; exact (tk_at g3 hg2.1 hg2.2).1)
            | (rw [if_neg (by omega), if_neg (by omega), if_neg (by omega), if_neg (fun q => by have := n10 q; omega), if_pos hg]; exact (tk_at g3 hg2.1 hg2.2).2)
            | (rw [if_neg (by omega), if_neg (by omega), if_neg (by omega), if_neg (fun q => by have := n10 q; omega), if_neg (fun q => by have := n20 q; omega)])
            | (rw [if_neg (by omega), if_neg (by omega), if_neg (by omega), if_neg (fun q => by rcases h_95 with ⟨_, q2⟩ | ⟨q2, _⟩ <;> first | exact q2 q | omega), if_neg (fun q => by have := n20 q; omega)])
            | (rw [if_neg (by omega), if_neg (by omega), if_neg (by omega), if_neg (fun q => by have := n10 q; omega), if_neg (fun q => by rcases h_123 with ⟨_, q2⟩ | ⟨q2, _⟩ <;> first | exact q2 q | omega)])
      · refine r_loadA a75_90 rfl (by decide) ?_
        refine r_loadI a75_91 rfl ?_
        refine r_pushI a75_92 ?_
        refine r_sub a75_94 (by omega) ?_
        refine r_callI_2 a75_95 (Nat.le_of_ble_eq_true rfl) (le_mx mx103 (Nat.le_of_ble_eq_true rfl)) (Or.inr (recv_ok ty32 ow103 (by decide))) (c_Fg_noGate e z m_12 s cl hC2 (v - 10)) (fun x_95 m_95 h_95 => ?_)
        obtain ⟨hm_95, h_95⟩ := h_95
        rw [hm_95]
        refine r_ifeq a75_98 (fun h_98 => ?_) (fun h_98 => ?_)
        · have hg : gt s (v - 10) := by
            rcases h_95 with ⟨q, _⟩ | ⟨_, q⟩
            · exfalso; omega
            · exact q
          have hg2 : 0 ≤ v - 10 ∧ v - 10 < s 0 := hg
          refine r_loadA a75_105 rfl (by decide) ?_
          refine r_getR a75_106 ty32 rf32_4 (by decide) ?_
          refine r_getR a75_109 ty85 rf85_11 (by decide) ?_
          refine r_loadI a75_112 rfl ?_
          refine r_pushI a75_113 ?_
          refine r_sub a75_115 (by omega) ?_
          refine r_iald a75_116 ty96 (by omega) ?_
          refine r_retIq a75_117 ?_
          refine ⟨g1, ?_⟩
          rw [hw]
          have n10 : gt s (v - 10) → 0 ≤ v - 10 ∧ v - 10 < s 0 := fun q => q
          have n20 : gt s (v - 20) → 0 ≤ v - 20 ∧ v - 20 < s 0 := fun q => q
          first
            | (rw [if_pos (by omega)]; exact g3.1)
            | (rw [if_neg (by omega), if_pos (by omega)]; exact g3.2.1)
            | (rw [if_neg (by omega), if_neg (by omega), if_pos (by omega)]
               show _ = rnZ _ _ _ _
               omega)
            | (rw [if_neg (by omega), if_neg (by omega), if_neg (by omega), if_pos hg]; exact (tk_at g3 hg2.1 hg2.2).1)
            | (rw [if_neg (by omega), if_neg (by omega), if_neg (by omega), if_neg (fun q => by have := n10 q; omega), if_pos hg]; exact (tk_at g3 hg2.1 hg2.2).2)
            | (rw [if_neg (by omega), if_neg (by omega), if_neg (by omega), if_neg (fun q => by have := n10 q; omega), if_neg (fun q => by have := n20 q; omega)])
            | (rw [if_neg (by omega), if_neg (by omega), if_neg (by omega), if_neg (fun q => by rcases h_95 with ⟨_, q2⟩ | ⟨q2, _⟩ <;> first | exact q2 q | omega), if_neg (fun q => by have := n20 q; omega)])
            | (rw [if_neg (by omega), if_neg (by omega), if_neg (by omega), if_neg (fun q => by have := n10 q; omega), if_neg (fun q => by rcases h_123 with ⟨_, q2⟩ | ⟨q2, _⟩ <;> first | exact q2 q | omega)])
        · refine r_pushI a75_101 ?_
          refine r_goto a75_102 ?_
          refine r_retIq a75_117 ?_
          refine ⟨g1, ?_⟩
          rw [hw]
          have n10 : gt s (v - 10) → 0 ≤ v - 10 ∧ v - 10 < s 0 := fun q => q
          have n20 : gt s (v - 20) → 0 ≤ v - 20 ∧ v - 20 < s 0 := fun q => q
          first
            | (rw [if_pos (by omega)]; exact g3.1)
            | (rw [if_neg (by omega), if_pos (by omega)]; exact g3.2.1)
            | (rw [if_neg (by omega), if_neg (by omega), if_pos (by omega)]
               show _ = rnZ _ _ _ _
               omega)
            | (rw [if_neg (by omega), if_neg (by omega), if_neg (by omega), if_pos hg]; exact (tk_at g3 hg2.1 hg2.2).1)
            | (rw [if_neg (by omega), if_neg (by omega), if_neg (by omega), if_neg (fun q => by have := n10 q; omega), if_pos hg]; exact (tk_at g3 hg2.1 hg2.2).2)
            | (rw [if_neg (by omega), if_neg (by omega), if_neg (by omega), if_neg (fun q => by have := n10 q; omega), if_neg (fun q => by have := n20 q; omega)])
            | (rw [if_neg (by omega), if_neg (by omega), if_neg (by omega), if_neg (fun q => by rcases h_95 with ⟨_, q2⟩ | ⟨q2, _⟩ <;> first | exact q2 q | omega), if_neg (fun q => by have := n20 q; omega)])
            | (rw [if_neg (by omega), if_neg (by omega), if_neg (by omega), if_neg (fun q => by have := n10 q; omega), if_neg (fun q => by rcases h_123 with ⟨_, q2⟩ | ⟨q2, _⟩ <;> first | exact q2 q | omega)])
    · refine r_pushI a75_82 ?_
      refine r_retIq a75_83 ?_
      refine ⟨g1, ?_⟩
      rw [hw]
      have n10 : gt s (v - 10) → 0 ≤ v - 10 ∧ v - 10 < s 0 := fun q => q
      have n20 : gt s (v - 20) → 0 ≤ v - 20 ∧ v - 20 < s 0 := fun q => q
      first
        | (rw [if_pos (by omega)]; exact g3.1)
        | (rw [if_neg (by omega), if_pos (by omega)]; exact g3.2.1)
        | (rw [if_neg (by omega), if_neg (by omega), if_pos (by omega)]
           show _ = rnZ _ _ _ _
           omega)
        | (rw [if_neg (by omega), if_neg (by omega), if_neg (by omega), if_pos hg]; exact (tk_at g3 hg2.1 hg2.2).1)
        | (rw [if_neg (by omega), if_neg (by omega), if_neg (by omega), if_neg (fun q => by have := n10 q; omega), if_pos hg]; exact (tk_at g3 hg2.1 hg2.2).2)
        | (rw [if_neg (by omega), if_neg (by omega), if_neg (by omega), if_neg (fun q => by have := n10 q; omega), if_neg (fun q => by have := n20 q; omega)])
        | (rw [if_neg (by omega), if_neg (by omega), if_neg (by omega), if_neg (fun q => by rcases h_95 with ⟨_, q2⟩ | ⟨q2, _⟩ <;> first | exact q2 q | omega), if_neg (fun q => by have := n20 q; omega)])
        | (rw [if_neg (by omega), if_neg (by omega), if_neg (by omega), if_neg (fun q => by have := n10 q; omega), if_neg (fun q => by rcases h_123 with ⟨_, q2⟩ | ⟨q2, _⟩ <;> first | exact q2 q | omega)])
  · refine r_pushI a75_8 ?_
    refine r_retIq a75_9 ?_
    rcases h_2 with ⟨_, q⟩ | ⟨q, _⟩
    · exact ⟨KC.refl m, by unfold aWould; rw [if_pos q]⟩
    · exfalso; omega
theorem skD {s : Int → Int} {k x : Int} (h : (x = 1 ∧ ¬ sk s k) ∨ (x = 0 ∧ sk s k)) : (x = 0 → sk s k) ∧ (x ≠ 0 → ¬ sk s k) := by
  rcases h with ⟨a, b⟩ | ⟨a, b⟩
  · exact ⟨fun q => by omega, fun _ => b⟩
  · exact ⟨fun _ => b, fun q => absurd a q⟩
theorem gtD {s : Int → Int} {k x : Int} (h : (x = 1 ∧ ¬ gt s k) ∨ (x = 0 ∧ gt s k)) : (x = 0 → gt s k) ∧ (x ≠ 0 → ¬ gt s k) := by
  rcases h with ⟨a, b⟩ | ⟨a, b⟩
  · exact ⟨fun q => by omega, fun _ => b⟩
  · exact ⟨fun _ => b, fun q => absurd a q⟩
def aUp (s : Int → Int) (cl : CLs) (k p : Int) : Int := if sk s k ∧ 0 ≤ p ∧ p ≤ 1 then lowQ (qU s cl k (lnS s) (s 0).toNat) (p20 (s 0).toNat) p else MINL
theorem qU_r {s : Int → Int} {cl : CLs} {k : Int} {l : Int → Int} (hS : okS s) (hc : ∀ c ∈ cl, okC c) (hl : cl.length ≤ 10) (hl2 : ∀ i, 0 ≤ i → i < s 0 → 0 ≤ l i ∧ l i < 3) : 0 ≤ qU s cl k l (s 0).toNat ∧ qU s cl k l (s 0).toNat ≤ 1280000000 ∧ qU s cl k l (s 0).toNat ≤ p20 (s 0).toNat := by
  have hN := hS.1.1
  have h := rnU_r (eRg (k := k) (w := 1) hS hc hl hS.1.2.2.2.2.2.2.2) hl2 (s 0).toNat (by omega)
  have := p20_le (s 0).toNat (by omega)
  exact ⟨h.1, Int.le_trans h.2 this, h.2⟩
theorem c_Fg_up (d z : Nat) (m : XM) (s : Int → Int) (cl : CLs) (k p : Int) (hd : 7 ≤ d) (hC : CpC m s cl) :
    CL d k_Fg_up z m [vR 32, vI k, vI p] (fun x m' => KC m m' ∧ x = aUp s cl k p) := by
  obtain ⟨e, rfl⟩ : ∃ e, d = e + 1 := ⟨d - 1, by omega⟩
  have hN := hC.1.1.1
  have hU := qU_r (k := k) hC.1 hC.2.2.1.2.1 hC.2.2.1.2.2 (lnS_r hC.1)
  have hp20 := p20_pos (s 0).toNat
  have hp20b := p20_le (s 0).toNat (by omega)
  refine r_entry mx78 rfl ?_
  refine r_loadA a78_0 rfl (by decide) ?_
  refine r_loadI a78_1 rfl ?_
  refine r_callI_2 a78_2 (Nat.le_of_ble_eq_true rfl) (le_mx mx104 (Nat.le_of_ble_eq_true rfl)) (Or.inr (recv_ok ty32 ow104 (by decide))) (c_Fg_noSkier e z m s cl hC k) (fun x_2 m_2 h_2 => ?_)
  obtain ⟨hm_2, h_2⟩ := h_2
  rw [hm_2]
  refine r_ifne a78_5 (fun h_5 => ?_) (fun h_5 => ?_)
  · refine r_pushL a78_15 ?_
    refine r_retLq a78_18 ?_
    refine ⟨KC.refl m, ?_⟩
    unfold aUp; rw [if_neg]
    rintro ⟨a, b⟩
    first
      | exact (skD h_2).2 h_5 a
      | omega
  · refine r_loadI a78_8 rfl ?_
    refine r_callI_1 a78_9 (Nat.le_of_ble_eq_true rfl) (le_mx mx105 (Nat.le_of_ble_eq_true rfl)) (Or.inl rfl) (c_Fg_noPart e z m p (by omega)) (fun x_9 m_9 h_9 => ?_)
    obtain ⟨hm_9, h_9⟩ := h_9
    rw [hm_9]
    refine r_ifeq a78_12 (fun h_12 => ?_) (fun h_12 => ?_)
    · refine r_loadA a78_19 rfl (by decide) ?_
      refine r_loadI a78_20 rfl ?_
      have hk := (skD h_2).1 (by omega)
      refine r_callV_2 a78_21 (Nat.le_of_ble_eq_true rfl) (le_mx mx109 (Nat.le_of_ble_eq_true rfl)) (Or.inr (recv_ok ty32 ow109 (by decide))) (c_Fg_goByTheLine e z m s cl k (by omega) hC hk) (fun m_21 h_21 => ?_)
      obtain ⟨g1, g2, g3⟩ := h_21
      have e16 : m_21 85 16 = qU s cl k (lnS s) (s 0).toNat := g3.2.2.2.1
      obtain ⟨a, ha⟩ : ∃ a : Nat, qU s cl k (lnS s) (s 0).toNat = a := ⟨(qU s cl k (lnS s) (s 0).toNat).toNat, by omega⟩
      obtain ⟨b, hb⟩ : ∃ b : Nat, p20 (s 0).toNat = b := ⟨(p20 (s 0).toNat).toNat, by omega⟩
      refine r_loadA a78_24 rfl (by decide) ?_
      refine r_getR a78_25 ty32 rf32_4 (by decide) ?_
      refine r_getL (ki := 16) a78_28 ty85 rfl ?_
      refine r_statR a78_31 ?_
      refine r_loadA a78_34 rfl (by decide) ?_
      refine r_getR a78_35 ty32 rf32_4 (by decide) ?_
      refine r_getI (ki := 0) a78_38 ty85 rfl ?_
      rw [g2, e16]
      refine r_lald a78_41 (by omega) ?_
      rw [zTab3i hN, ha, hb]
      refine r_loadI a78_42 rfl ?_
      refine r_callL_3 a78_43 (Nat.le_of_ble_eq_true rfl) (le_mx mx117 (Nat.le_of_ble_eq_true rfl)) (Or.inl rfl) (c_Fg_lowest e z m_21 a b p (by omega) (by omega)) (fun x_43 m_43 h_43 => ?_)
      obtain ⟨hm_43, h_43⟩ := h_43
      rw [hm_43]
      refine r_retLq a78_46 ?_
      refine ⟨g1, ?_⟩
      unfold aUp; rw [if_pos ⟨hk, by omega⟩, h_43, ha, hb]
    · refine r_pushL a78_15 ?_
      refine r_retLq a78_18 ?_
      refine ⟨KC.refl m, ?_⟩
      unfold aUp; rw [if_neg]
      rintro ⟨a, b⟩
      first
        | exact (skD h_2).2 h_5 a
        | omega
def aSurest (s : Int → Int) (cl : CLs) (k lim p : Int) : Int := if sk s k ∧ (0 ≤ lim ∧ lim ≤ 999) ∧ 0 ≤ p ∧ p ≤ 1 then qSur s cl k lim p else MINL
theorem c_Fg_surest (d z : Nat) (m : XM) (s : Int → Int) (cl : CLs) (k lim p : Int) (hd : 21 ≤ d) (hC : CpC m s cl) :
    CL d k_Fg_surest z m [vR 32, vI k, vI lim, vI p] (fun x m' => KC m m' ∧ x = aSurest s cl k lim p) := by
  obtain ⟨e, rfl⟩ : ∃ e, d = e + 1 := ⟨d - 1, by omega⟩
  refine r_entry mx79 rfl ?_
  refine r_loadA a79_0 rfl (by decide) ?_
  refine r_loadI a79_1 rfl ?_
  refine r_callI_2 a79_2 (Nat.le_of_ble_eq_true rfl) (le_mx mx104 (Nat.le_of_ble_eq_true rfl)) (Or.inr (recv_ok ty32 ow104 (by decide))) (c_Fg_noSkier e z m s cl hC k) (fun x_2 m_2 h_2 => ?_)
  obtain ⟨hm_2, h_2⟩ := h_2
  rw [hm_2]
  refine r_ifne a79_5 (fun h_5 => ?_) (fun h_5 => ?_)
  · refine r_pushL a79_26 ?_
    refine r_retLq a79_29 ?_
    refine ⟨KC.refl m, ?_⟩
    unfold aSurest; rw [if_neg]
    rintro ⟨a, b⟩
    first
      | exact (skD h_2).2 h_5 a
      | omega
  · refine r_loadI a79_8 rfl ?_
    refine r_pushI a79_9 ?_
    refine r_pushI a79_10 ?_
    refine r_callI_3 a79_13 (Nat.le_of_ble_eq_true rfl) (le_mx mx106 (Nat.le_of_ble_eq_true rfl)) (Or.inl rfl) (c_Fg_outside e z m lim 0 999) (fun x_13 m_13 h_13 => ?_)
    obtain ⟨hm_13, h_13⟩ := h_13
    rw [hm_13]
    refine r_ifne a79_16 (fun h_16 => ?_) (fun h_16 => ?_)
    · refine r_pushL a79_26 ?_
      refine r_retLq a79_29 ?_
      refine ⟨KC.refl m, ?_⟩
      unfold aSurest; rw [if_neg]
      rintro ⟨a, b⟩
      first
        | exact (skD h_2).2 h_5 a
        | omega
    · refine r_loadI a79_19 rfl ?_
      refine r_callI_1 a79_20 (Nat.le_of_ble_eq_true rfl) (le_mx mx105 (Nat.le_of_ble_eq_true rfl)) (Or.inl rfl) (c_Fg_noPart e z m p (by omega)) (fun x_20 m_20 h_20 => ?_)
      obtain ⟨hm_20, h_20⟩ := h_20
      rw [hm_20]
      refine r_ifeq a79_23 (fun h_23 => ?_) (fun h_23 => ?_)
      · refine r_loadA a79_30 rfl (by decide) ?_
        refine r_loadI a79_31 rfl ?_
        refine r_loadI a79_32 rfl ?_
        refine r_loadI a79_33 rfl ?_
        refine r_callL_4 a79_34 (Nat.le_of_ble_eq_true rfl) (le_mx mx113 (Nat.le_of_ble_eq_true rfl)) (Or.inr (recv_ok ty32 ow113 (by decide))) (c_Fg_surestWithin e z m s cl k lim p (by omega) hC ((skD h_2).1 (by omega)) (by omega)) (fun x_34 m_34 h_34 => ?_)
        refine r_retLq a79_37 ?_
        refine ⟨h_34.1, ?_⟩
        unfold aSurest; rw [if_pos ⟨(skD h_2).1 (by omega), by omega, by omega⟩]; exact h_34.2
      · refine r_pushL a79_26 ?_
        refine r_retLq a79_29 ?_
        refine ⟨KC.refl m, ?_⟩
        unfold aSurest; rw [if_neg]
        rintro ⟨a, b⟩
        first
          | exact (skD h_2).2 h_5 a
          | omega
def aSure (s : Int → Int) (cl : CLs) (k lim i : Int) : Int := if ¬ (sk s k ∧ 0 ≤ i ∧ i ≤ 6) then -1 else if ¬ (0 ≤ lim ∧ lim ≤ 999) then -2 else if 0 < sMa (sQ s cl k lim) ∧ i < s 0 then sBe (sQ s cl k lim) i else -5
theorem c_Fg_sure (d z : Nat) (m : XM) (s : Int → Int) (cl : CLs) (k lim i : Int) (hd : 21 ≤ d) (hC : CpC m s cl) :
    CI d k_Fg_sure z m [vR 32, vI k, vI lim, vI i] (fun x m' => KC m m' ∧ x = aSure s cl k lim i) := by
  obtain ⟨e, rfl⟩ : ∃ e, d = e + 1 := ⟨d - 1, by omega⟩
  have hN := hC.1.1.1
  have r7 := hC.1.1.2.2.2.2.2.2.2
  refine r_entry mx80 rfl ?_
  refine r_loadA a80_0 rfl (by decide) ?_
  refine r_loadI a80_1 rfl ?_
  refine r_callI_2 a80_2 (Nat.le_of_ble_eq_true rfl) (le_mx mx104 (Nat.le_of_ble_eq_true rfl)) (Or.inr (recv_ok ty32 ow104 (by decide))) (c_Fg_noSkier e z m s cl hC k) (fun x_2 m_2 h_2 => ?_)
  obtain ⟨hm_2, h_2⟩ := h_2
  rw [hm_2]
  refine r_ifne a80_5 (fun h_5 => ?_) (fun h_5 => ?_)
  · refine r_pushI a80_18 ?_
    refine r_retIq a80_19 ?_
    refine ⟨KC.refl m, ?_⟩
    unfold aSure; rw [if_pos]
    rintro ⟨a, b⟩
    first
      | exact (skD h_2).2 h_5 a
      | omega
  · refine r_loadI a80_8 rfl ?_
    refine r_pushI a80_9 ?_
    refine r_pushI a80_10 ?_
    refine r_callI_3 a80_12 (Nat.le_of_ble_eq_true rfl) (le_mx mx106 (Nat.le_of_ble_eq_true rfl)) (Or.inl rfl) (c_Fg_outside e z m i 0 6) (fun x_12 m_12 h_12 => ?_)
    obtain ⟨hm_12, h_12⟩ := h_12
    rw [hm_12]
    refine r_ifeq a80_15 (fun h_15 => ?_) (fun h_15 => ?_)
    · refine r_loadI a80_20 rfl ?_
      refine r_pushI a80_21 ?_
      refine r_pushI a80_22 ?_
      refine r_callI_3 a80_25 (Nat.le_of_ble_eq_true rfl) (le_mx mx106 (Nat.le_of_ble_eq_true rfl)) (Or.inl rfl) (c_Fg_outside e z m lim 0 999) (fun x_25 m_25 h_25 => ?_)
      obtain ⟨hm_25, h_25⟩ := h_25
      rw [hm_25]
      refine r_ifeq a80_28 (fun h_28 => ?_) (fun h_28 => ?_)
      · have hk := (skD h_2).1 (by omega)
        have hw : aSure s cl k lim i = if 0 < sMa (sQ s cl k lim) ∧ i < s 0 then sBe (sQ s cl k lim) i else -5 := by
          unfold aSure; rw [if_neg (fun q => q ⟨hk, by omega⟩), if_neg (by omega)]
        refine r_loadA a80_34 rfl (by decide) ?_
        refine r_loadA a80_35 rfl (by decide) ?_
        refine r_getR a80_36 ty32 rf32_4 (by decide) ?_
        refine r_loadI a80_39 rfl ?_
        refine r_callI_3 a80_40 (Nat.le_of_ble_eq_true rfl) (le_mx mx110 (Nat.le_of_ble_eq_true rfl)) (Or.inr (recv_ok ty32 ow110 (by decide))) (c_Fg_leastTime_85 e z m s cl k (by omega) hC hk) (fun x_40 m_40 h_40 => ?_)
        obtain ⟨f1, q1, p1, _⟩ := h_40
        refine r_pop a80_43 rfl ?_
        refine r_loadA a80_44 rfl (by decide) ?_
        refine r_getR a80_45 ty32 rf32_6 (by decide) ?_
        refine r_loadA a80_48 rfl (by decide) ?_
        refine r_getR a80_49 ty32 rf32_4 (by decide) ?_
        refine r_loadI a80_52 rfl ?_
        refine r_callV_3 a80_53 (Nat.le_of_ble_eq_true rfl) (le_mx mx58 (Nat.le_of_ble_eq_true rfl)) (Or.inr (recv_ok ty111 ow58 (by decide))) (c_Sa_search e z m_40 (eO s cl k (s 7)) (eT s cl k (s 7) 1) (eB s cl k (s 7)) (s 0) lim (seenP s) (by omega) (fun i p c => eO_r s cl k (s 7) i p c) (eRg hC.1 hC.2.2.1.2.1 hC.2.2.1.2.2 r7) hN q1.1 q1.2.1 p1) (fun m_53 h_53 => ?_)
        obtain ⟨f2, s1, s2, s3, s4, s5, s6⟩ := h_53
        have s2' : m_53 111 0 = sMu (sQ s cl k lim) := s2
        have s4' : 0 ≤ sMa (sQ s cl k lim) := s4
        have s5' : 0 < sMa (sQ s cl k lim) ↔ 0 ≤ sMu (sQ s cl k lim) := s5
        have s6' : 0 < sMa (sQ s cl k lim) → ∀ j, 0 ≤ j → j < s 0 → m_53 112 j = sBe (sQ s cl k lim) j := s6
        have e85 : m_53 85 0 = s 0 := by rw [f2 85 (by decide) (by decide) (by decide)]; exact q1.1
        have kc : KC m m_53 := KC.trans (FrT_85 f1) ⟨fun c c1 c2 c3 => f2 c (by omega) (by omega) (by omega), by rw [f2 90 (by decide) (by decide) (by decide)], by rw [f2 103 (by decide) (by decide) (by decide)]⟩
        have hc := lCmp_le (a := sMu (sQ s cl k lim)) (b := 0)
        refine r_loadA a80_56 rfl (by decide) ?_
        refine r_getR a80_57 ty32 rf32_6 (by decide) ?_
        refine r_getL (ki := 0) a80_60 ty111 rfl ?_
        refine r_pushL a80_63 ?_
        rw [s2']
        refine r_lcmp a80_64 ?_
        refine r_iflt a80_65 (fun h_65 => ?_) (fun h_65 => ?_)
        · refine r_pushI a80_79 ?_
          refine r_goto a80_81 ?_
          refine r_retIq a80_93 ?_
          refine ⟨kc, ?_⟩
          rw [hw]
          first
            | rw [if_neg (by omega)]
            | (rw [if_pos ⟨by omega, by omega⟩]; exact s6' (by omega) i (by omega) (by omega))
        · refine r_loadI a80_68 rfl ?_
          refine r_loadA a80_69 rfl (by decide) ?_
          refine r_getR a80_70 ty32 rf32_4 (by decide) ?_
          refine r_getI (ki := 0) a80_73 ty85 rfl ?_
          rw [e85]
          refine r_iclt a80_76 (fun h_76 => ?_) (fun h_76 => ?_)
          · refine r_loadA a80_84 rfl (by decide) ?_
            refine r_getR a80_85 ty32 rf32_6 (by decide) ?_
            refine r_getR a80_88 ty111 rf111_1 (by decide) ?_
            refine r_loadI a80_91 rfl ?_
            refine r_iald a80_92 ty112 (by omega) ?_
            refine r_retIq a80_93 ?_
            refine ⟨kc, ?_⟩
            rw [hw]
            first
              | rw [if_neg (by omega)]
              | (rw [if_pos ⟨by omega, by omega⟩]; exact s6' (by omega) i (by omega) (by omega))
          · refine r_pushI a80_79 ?_
            refine r_goto a80_81 ?_
            refine r_retIq a80_93 ?_
            refine ⟨kc, ?_⟩
            rw [hw]
            first
              | rw [if_neg (by omega)]
              | (rw [if_pos ⟨by omega, by omega⟩]; exact s6' (by omega) i (by omega) (by omega))
      · have hk := (skD h_2).1 (by omega)
        refine r_pushI a80_31 ?_
        refine r_retIq a80_33 ?_
        exact ⟨KC.refl m, by unfold aSure; rw [if_neg (fun q => q ⟨hk, by omega⟩), if_pos (by omega)]⟩
    · refine r_pushI a80_18 ?_
      refine r_retIq a80_19 ?_
      refine ⟨KC.refl m, ?_⟩
      unfold aSure; rw [if_pos]
      rintro ⟨a, b⟩
      first
        | exact (skD h_2).2 h_5 a
        | omega
def aCarry (s : Int → Int) (cl : CLs) (k g : Int) : Int := if sk s k ∧ gt s g then (LC (eO s cl k (s 7)) (eT s cl k (s 7) 1) (eB s cl k (s 7)) ((0 : Int) = 1) (s 0 - g).toNat g 3).1 - (LC (eO s cl k (s 7)) (eT s cl k (s 7) 1) (eB s cl k (s 7)) ((0 : Int) = 1) (s 0 - g).toNat g 6).1 else -10001
theorem c_Fg_carry (d z : Nat) (m : XM) (s : Int → Int) (cl : CLs) (k g : Int) (hd : 7 ≤ d) (hC : CpC m s cl) :
    CI d k_Fg_carry z m [vR 32, vI k, vI g] (fun x m' => KC m m' ∧ x = aCarry s cl k g) := by
  obtain ⟨e, rfl⟩ : ∃ e, d = e + 1 := ⟨d - 1, by omega⟩
  have hN := hC.1.1.1
  have r7 := hC.1.1.2.2.2.2.2.2.2
  have lr := fun p => LC_r ((0 : Int) = 1) (eRg (k := k) (w := 1) hC.1 hC.2.2.1.2.1 hC.2.2.1.2.2 r7) (s 0 - g).toNat g p
  refine r_entry mx81 rfl ?_
  refine r_loadA a81_0 rfl (by decide) ?_
  refine r_loadI a81_1 rfl ?_
  refine r_callI_2 a81_2 (Nat.le_of_ble_eq_true rfl) (le_mx mx104 (Nat.le_of_ble_eq_true rfl)) (Or.inr (recv_ok ty32 ow104 (by decide))) (c_Fg_noSkier e z m s cl hC k) (fun x_2 m_2 h_2 => ?_)
  obtain ⟨hm_2, h_2⟩ := h_2
  rw [hm_2]
  refine r_ifne a81_5 (fun h_5 => ?_) (fun h_5 => ?_)
  · refine r_pushI a81_16 ?_
    refine r_retIq a81_19 ?_
    refine ⟨KC.refl m, ?_⟩
    unfold aCarry; rw [if_neg]
    rintro ⟨a, b⟩
    first
      | exact (skD h_2).2 h_5 a
      | exact (gtD h_10).2 (by omega) b
  · refine r_loadA a81_8 rfl (by decide) ?_
    refine r_loadI a81_9 rfl ?_
    refine r_callI_2 a81_10 (Nat.le_of_ble_eq_true rfl) (le_mx mx103 (Nat.le_of_ble_eq_true rfl)) (Or.inr (recv_ok ty32 ow103 (by decide))) (c_Fg_noGate e z m s cl hC g) (fun x_10 m_10 h_10 => ?_)
    obtain ⟨hm_10, h_10⟩ := h_10
    rw [hm_10]
    refine r_ifeq a81_13 (fun h_13 => ?_) (fun h_13 => ?_)
    · have hk := (skD h_2).1 (by omega)
      have hg := (gtD h_10).1 (by omega)
      have hg2 : 0 ≤ g ∧ g < s 0 := hg
      refine r_loadA a81_20 rfl (by decide) ?_
      refine r_loadA a81_21 rfl (by decide) ?_
      refine r_getR a81_22 ty32 rf32_4 (by decide) ?_
      refine r_loadI a81_25 rfl ?_
      refine r_callI_3 a81_26 (Nat.le_of_ble_eq_true rfl) (le_mx mx110 (Nat.le_of_ble_eq_true rfl)) (Or.inr (recv_ok ty32 ow110 (by decide))) (c_Fg_leastTime_85 e z m s cl k (by omega) hC hk) (fun x_26 m_26 h_26 => ?_)
      obtain ⟨f1, q1, p1, _⟩ := h_26
      have a3 := (p1 g 3 hg2.1 (by omega) (by omega) (by omega)).1
      have a6 := (p1 g 6 hg2.1 (by omega) (by omega) (by omega)).1
      have l3 := lr 3 hg2.1 (by omega) (by omega) (by omega)
      have l6 := lr 6 hg2.1 (by omega) (by omega) (by omega)
      refine r_pop a81_29 rfl ?_
      refine r_loadA a81_30 rfl (by decide) ?_
      refine r_getR a81_31 ty32 rf32_4 (by decide) ?_
      refine r_loadI a81_34 rfl ?_
      refine r_pushI a81_35 ?_
      refine r_callI_3 a81_36 (Nat.le_of_ble_eq_true rfl) (le_mx mx37 (Nat.le_of_ble_eq_true rfl)) (Or.inr (recv_ok ty85 ow37 (by decide))) (c_Pa_leastFrom_85 e z m_26 g 3 (by omega) (by omega)) (fun x_36 m_36 h_36 => ?_)
      obtain ⟨hm_36, h_36⟩ := h_36
      rw [hm_36]
      have e36 : x_36 = (LC (eO s cl k (s 7)) (eT s cl k (s 7) 1) (eB s cl k (s 7)) ((0 : Int) = 1) (s 0 - g).toNat g 3).1 := by rw [h_36]; exact a3
      rw [e36]
      refine r_loadA a81_39 rfl (by decide) ?_
      refine r_getR a81_40 ty32 rf32_4 (by decide) ?_
      refine r_loadI a81_43 rfl ?_
      refine r_pushI a81_44 ?_
      refine r_callI_3 a81_46 (Nat.le_of_ble_eq_true rfl) (le_mx mx37 (Nat.le_of_ble_eq_true rfl)) (Or.inr (recv_ok ty85 ow37 (by decide))) (c_Pa_leastFrom_85 e z m_26 g 6 (by omega) (by omega)) (fun x_46 m_46 h_46 => ?_)
      obtain ⟨hm_46, h_46⟩ := h_46
      rw [hm_46]
      have e46 : x_46 = (LC (eO s cl k (s 7)) (eT s cl k (s 7) 1) (eB s cl k (s 7)) ((0 : Int) = 1) (s 0 - g).toNat g 6).1 := by rw [h_46]; exact a6
      rw [e46]
      refine r_sub a81_49 (by omega) ?_
      refine r_retIq a81_50 ?_
      exact ⟨FrT_85 f1, by unfold aCarry; rw [if_pos ⟨hk, hg⟩]⟩
    · refine r_pushI a81_16 ?_
      refine r_retIq a81_19 ?_
      refine ⟨KC.refl m, ?_⟩
      unfold aCarry; rw [if_neg]
      rintro ⟨a, b⟩
      first
        | exact (skD h_2).2 h_5 a
        | exact (gtD h_10).2 (by omega) b
def aStart (s : Int → Int) (cl : CLs) (k n : Int) : Int := if ¬ sk s k then -1 else if 0 ≤ n ∧ n ≤ 99 then tQ s cl k n 1 else -2
theorem c_Fg_start (d z : Nat) (m : XM) (s : Int → Int) (cl : CLs) (k n : Int) (hd : 7 ≤ d) (hC : CpC m s cl) :
    CI d k_Fg_start z m [vR 32, vI k, vI n] (fun x m' => KC m m' ∧ x = aStart s cl k n) := by
  obtain ⟨e, rfl⟩ : ∃ e, d = e + 1 := ⟨d - 1, by omega⟩
  refine r_entry mx82 rfl ?_
  refine r_loadA a82_0 rfl (by decide) ?_
  refine r_loadI a82_1 rfl ?_
  refine r_callI_2 a82_2 (Nat.le_of_ble_eq_true rfl) (le_mx mx104 (Nat.le_of_ble_eq_true rfl)) (Or.inr (recv_ok ty32 ow104 (by decide))) (c_Fg_noSkier e z m s cl hC k) (fun x_2 m_2 h_2 => ?_)
  obtain ⟨hm_2, h_2⟩ := h_2
  rw [hm_2]
  refine r_ifeq a82_5 (fun h_5 => ?_) (fun h_5 => ?_)
  · refine r_loadI a82_10 rfl ?_
    refine r_pushI a82_11 ?_
    refine r_pushI a82_12 ?_
    refine r_callI_3 a82_14 (Nat.le_of_ble_eq_true rfl) (le_mx mx106 (Nat.le_of_ble_eq_true rfl)) (Or.inl rfl) (c_Fg_outside e z m n 0 99) (fun x_14 m_14 h_14 => ?_)
    obtain ⟨hm_14, h_14⟩ := h_14
    rw [hm_14]
    refine r_ifeq a82_17 (fun h_17 => ?_) (fun h_17 => ?_)
    · refine r_loadA a82_23 rfl (by decide) ?_
      refine r_getR a82_24 ty32 rf32_4 (by decide) ?_
      refine r_loadA a82_27 rfl (by decide) ?_
      refine r_getR a82_28 ty32 rf32_0 (by decide) ?_
      refine r_loadI a82_31 rfl ?_
      refine r_loadI a82_32 rfl ?_
      refine r_pushI a82_33 ?_
      refine r_callV_5 a82_34 (Nat.le_of_ble_eq_true rfl) (le_mx mx25 (Nat.le_of_ble_eq_true rfl)) (Or.inr (recv_ok ty85 ow25 (by decide))) (c_Pa_ready_85 e z m s cl k n 1 (by omega) hC ((skD h_2).1 (by omega)) (by omega) (by omega)) (fun m_34 h_34 => ?_)
      obtain ⟨f1, q1⟩ := h_34
      have hC2 := CpC_K (FrT_85 f1) hC
      refine r_loadA a82_37 rfl (by decide) ?_
      refine r_getR a82_38 ty32 rf32_4 (by decide) ?_
      refine r_pushI a82_41 ?_
      refine r_callI_2 a82_42 (Nat.le_of_ble_eq_true rfl) (le_mx mx38 (Nat.le_of_ble_eq_true rfl)) (Or.inr (recv_ok ty85 ow38 (by decide))) (c_Pa_least_85 e z m_34 s cl k n 1 0 (by omega) hC2 (by omega) (by omega) q1) (fun x_42 m_42 h_42 => ?_)
      refine r_retIq a82_45 ?_
      obtain ⟨f2, q2, q3, q4⟩ := h_42
      refine ⟨KC.trans (FrT_85 f1) (FrT_85 f2), ?_⟩
      unfold aStart; rw [if_neg (fun q => q ((skD h_2).1 (by omega))), if_pos (by omega)]; exact q4
    · refine r_pushI a82_20 ?_
      refine r_retIq a82_22 ?_
      exact ⟨KC.refl m, by unfold aStart; rw [if_neg (fun q => q ((skD h_2).1 (by omega))), if_neg (by omega)]⟩
  · refine r_pushI a82_8 ?_
    refine r_retIq a82_9 ?_
    exact ⟨KC.refl m, by unfold aStart; rw [if_pos ((skD h_2).2 h_5)]⟩
def aWax (s : Int → Int) (cl : CLs) (k : Int) : Int := if ¬ sk s k then -1 else tQ s cl k (s 7) 0 - tQ s cl k (s 7) 1
theorem tQ_r {s : Int → Int} {cl : CLs} {k n w : Int} (hS : okS s) (hc : ∀ c ∈ cl, okC c) (hl : cl.length ≤ 10) (hn : 0 ≤ n ∧ n ≤ 9999) : 0 ≤ tQ s cl k n w ∧ tQ s cl k n w ≤ 147000 := by
  have hN := hS.1.1
  have hR := eRg (k := k) (w := w) hS hc hl hn
  have h1 := LC_r ((0 : Int) = 1) hR (s 0).toNat 0 3 (by omega) (by omega) (by omega) (by omega)
  have h2 := (LC_up ((0 : Int) = 1) hR (by omega) (s 0).toNat 0 3 (by omega) (by omega) (by omega) (by omega)).2 (by decide)
  unfold tQ
  omega
theorem c_Fg_wax (d z : Nat) (m : XM) (s : Int → Int) (cl : CLs) (k : Int) (hd : 7 ≤ d) (hC : CpC m s cl) :
    CI d k_Fg_wax z m [vR 32, vI k] (fun x m' => KC m m' ∧ x = aWax s cl k) := by
  obtain ⟨e, rfl⟩ : ∃ e, d = e + 1 := ⟨d - 1, by omega⟩
  have h7 : m 33 3 = s 7 := hC.2.1.2.2.1.2.1
  have r7 := hC.1.1.2.2.2.2.2.2.2
  have t0 := tQ_r (k := k) (w := 0) hC.1 hC.2.2.1.2.1 hC.2.2.1.2.2 r7
  have t1 := tQ_r (k := k) (w := 1) hC.1 hC.2.2.1.2.1 hC.2.2.1.2.2 r7
  refine r_entry mx84 rfl ?_
  refine r_loadA a84_0 rfl (by decide) ?_
  refine r_loadI a84_1 rfl ?_
  refine r_callI_2 a84_2 (Nat.le_of_ble_eq_true rfl) (le_mx mx104 (Nat.le_of_ble_eq_true rfl)) (Or.inr (recv_ok ty32 ow104 (by decide))) (c_Fg_noSkier e z m s cl hC k) (fun x_2 m_2 h_2 => ?_)
  obtain ⟨hm_2, h_2⟩ := h_2
  rw [hm_2]
  refine r_ifeq a84_5 (fun h_5 => ?_) (fun h_5 => ?_)
  · refine r_loadA a84_10 rfl (by decide) ?_
    refine r_getR a84_11 ty32 rf32_5 (by decide) ?_
    refine r_loadA a84_14 rfl (by decide) ?_
    refine r_getR a84_15 ty32 rf32_0 (by decide) ?_
    refine r_loadI a84_18 rfl ?_
    refine r_loadA a84_19 rfl (by decide) ?_
    refine r_getR a84_20 ty32 rf32_0 (by decide) ?_
    refine r_getI (ki := 3) a84_23 ty33 rfl ?_
    rw [h7]
    have hk := (skD h_2).1 (by omega)
    refine r_pushI a84_26 ?_
    refine r_callV_5 a84_27 (Nat.le_of_ble_eq_true rfl) (le_mx mx25 (Nat.le_of_ble_eq_true rfl)) (Or.inr (recv_ok ty98 ow25 (by decide))) (c_Pa_ready_98 e z m s cl k (s 7) 0 (by omega) hC hk r7 (by omega)) (fun m_27 h_27 => ?_)
    obtain ⟨f1, q1⟩ := h_27
    have hC2 := CpC_K (FrT_98 f1) hC
    refine r_loadA a84_30 rfl (by decide) ?_
    refine r_getR a84_31 ty32 rf32_5 (by decide) ?_
    refine r_pushI a84_34 ?_
    refine r_callI_2 a84_35 (Nat.le_of_ble_eq_true rfl) (le_mx mx38 (Nat.le_of_ble_eq_true rfl)) (Or.inr (recv_ok ty98 ow38 (by decide))) (c_Pa_least_98 e z m_27 s cl k (s 7) 0 0 (by omega) hC2 r7 (by omega) q1) (fun x_35 m_35 h_35 => ?_)
    obtain ⟨f2, q2, q3, q4⟩ := h_35
    have hC3 := CpC_K (FrT_98 f2) hC2
    have q4' : x_35 = tQ s cl k (s 7) 0 := q4
    rw [q4']
    refine r_loadA a84_38 rfl (by decide) ?_
    refine r_loadA a84_39 rfl (by decide) ?_
    refine r_getR a84_40 ty32 rf32_4 (by decide) ?_
    refine r_loadI a84_43 rfl ?_
    refine r_callI_3 a84_44 (Nat.le_of_ble_eq_true rfl) (le_mx mx110 (Nat.le_of_ble_eq_true rfl)) (Or.inr (recv_ok ty32 ow110 (by decide))) (c_Fg_leastTime_85 e z m_35 s cl k (by omega) hC3 hk) (fun x_44 m_44 h_44 => ?_)
    obtain ⟨f3, _, _, q5⟩ := h_44
    rw [q5]
    refine r_sub a84_47 (by omega) ?_
    refine r_retIq a84_48 ?_
    exact ⟨KC.trans (FrT_98 f1) (KC.trans (FrT_98 f2) (FrT_85 f3)), by unfold aWax; rw [if_neg (fun q => q hk)]⟩
  · refine r_pushI a84_8 ?_
    refine r_retIq a84_9 ?_
    exact ⟨KC.refl m, by unfold aWax; rw [if_pos ((skD h_2).2 h_5)]⟩
def bQ (s : Int → Int) (cl : CLs) (k f : Int) : Int := (LC (eO s cl k (s 7)) (eT s cl k (s 7) 1) (eB s cl k (s 7)) (f = 1) (s 0).toNat 0 3).1
def blQ (s : Int → Int) (cl : CLs) (k f : Int) : Int → Int := pathL (eO s cl k (s 7)) (eT s cl k (s 7) 1) (eB s cl k (s 7)) (f = 1) (s 0).toNat 0 3
def aBest (s : Int → Int) (cl : CLs) (k i f : Int) : Int := if ¬ (sk s k ∧ -1 ≤ i ∧ i ≤ 6) then -1 else if 100000000 ≤ bQ s cl k f then -5 else if i = -1 then bQ s cl k f else if i < s 0 then blQ s cl k f i else -5
theorem c_Fg_bestLine (d z : Nat) (m : XM) (s : Int → Int) (cl : CLs) (k i f : Int) (hd : 7 ≤ d) (hC : CpC m s cl) (hf : f = 0 ∨ f = 1) :
    CI d k_Fg_bestLine z m [vR 32, vI k, vI i, vI f] (fun x m' => KC m m' ∧ x = aBest s cl k i f) := by
  obtain ⟨e, rfl⟩ : ∃ e, d = e + 1 := ⟨d - 1, by omega⟩
  have hN := hC.1.1.1
  have h7 : m 33 3 = s 7 := hC.2.1.2.2.1.2.1
  have r7 := hC.1.1.2.2.2.2.2.2.2
  refine r_entry mx112 rfl ?_
  refine r_loadA a112_0 rfl (by decide) ?_
  refine r_loadI a112_1 rfl ?_
  refine r_callI_2 a112_2 (Nat.le_of_ble_eq_true rfl) (le_mx mx104 (Nat.le_of_ble_eq_true rfl)) (Or.inr (recv_ok ty32 ow104 (by decide))) (c_Fg_noSkier e z m s cl hC k) (fun x_2 m_2 h_2 => ?_)
  obtain ⟨hm_2, h_2⟩ := h_2
  rw [hm_2]
  refine r_ifne a112_5 (fun h_5 => ?_) (fun h_5 => ?_)
  · refine r_pushI a112_18 ?_
    refine r_retIq a112_19 ?_
    refine ⟨KC.refl m, ?_⟩
    unfold aBest; rw [if_pos]
    rintro ⟨a, b⟩
    first
      | exact (skD h_2).2 h_5 a
      | omega
  · refine r_loadI a112_8 rfl ?_
    refine r_pushI a112_9 ?_
    refine r_pushI a112_10 ?_
    refine r_callI_3 a112_12 (Nat.le_of_ble_eq_true rfl) (le_mx mx106 (Nat.le_of_ble_eq_true rfl)) (Or.inl rfl) (c_Fg_outside e z m i (-1) 6) (fun x_12 m_12 h_12 => ?_)
    obtain ⟨hm_12, h_12⟩ := h_12
    rw [hm_12]
    refine r_ifeq a112_15 (fun h_15 => ?_) (fun h_15 => ?_)
    · refine r_loadA a112_20 rfl (by decide) ?_
      refine r_getR a112_21 ty32 rf32_4 (by decide) ?_
      refine r_loadA a112_24 rfl (by decide) ?_
      refine r_getR a112_25 ty32 rf32_0 (by decide) ?_
      refine r_loadI a112_28 rfl ?_
      refine r_loadA a112_29 rfl (by decide) ?_
      refine r_getR a112_30 ty32 rf32_0 (by decide) ?_
      refine r_getI (ki := 3) a112_33 ty33 rfl ?_
      rw [h7]
      have hk := (skD h_2).1 (by omega)
      have hw : aBest s cl k i f = if 100000000 ≤ bQ s cl k f then -5 else if i = -1 then bQ s cl k f else if i < s 0 then blQ s cl k f i else -5 := by
        unfold aBest; rw [if_neg (fun q => q ⟨hk, by omega⟩)]
      refine r_pushI a112_36 ?_
      refine r_callV_5 a112_37 (Nat.le_of_ble_eq_true rfl) (le_mx mx25 (Nat.le_of_ble_eq_true rfl)) (Or.inr (recv_ok ty85 ow25 (by decide))) (c_Pa_ready_85 e z m s cl k (s 7) 1 (by omega) hC hk r7 (by omega)) (fun m_37 h_37 => ?_)
      obtain ⟨f1, q1⟩ := h_37
      have hC2 := CpC_K (FrT_85 f1) hC
      refine r_loadA a112_40 rfl (by decide) ?_
      refine r_getR a112_41 ty32 rf32_4 (by decide) ?_
      refine r_loadI a112_44 rfl ?_
      refine r_callI_2 a112_45 (Nat.le_of_ble_eq_true rfl) (le_mx mx38 (Nat.le_of_ble_eq_true rfl)) (Or.inr (recv_ok ty85 ow38 (by decide))) (c_Pa_least_85 e z m_37 s cl k (s 7) 1 f (by omega) hC2 r7 hf q1) (fun x_45 m_45 h_45 => ?_)
      obtain ⟨f2, q2, q3, q4⟩ := h_45
      have hC3 := CpC_K (FrT_85 f2) hC2
      have q4' : x_45 = bQ s cl k f := q4
      rw [q4']
      refine r_storeI_4 a112_48 rfl ?_
      refine r_loadI a112_50 rfl ?_
      refine r_pushI a112_52 ?_
      refine r_iclt a112_55 (fun h_55 => ?_) (fun h_55 => ?_)
      · refine r_loadI a112_61 rfl ?_
        refine r_pushI a112_62 ?_
        refine r_icne a112_63 (fun h_63 => ?_) (fun h_63 => ?_)
        · refine r_loadA a112_69 rfl (by decide) ?_
          refine r_getR a112_70 ty32 rf32_4 (by decide) ?_
          refine r_callV_1 a112_73 (Nat.le_of_ble_eq_true rfl) (le_mx mx40 (Nat.le_of_ble_eq_true rfl)) (Or.inr (recv_ok ty85 ow40 (by decide))) (c_Pa_best_85 e z m_45 s cl k (s 7) 1 f (by omega) hC3 r7 q2 q3) (fun m_73 h_73 => ?_)
          obtain ⟨f4, q5, q6, _⟩ := h_73
          have q6' : ∀ i, 0 ≤ i → i < s 0 → m_73 95 i = blQ s cl k f i := q6
          refine r_loadI a112_76 rfl ?_
          refine r_loadA a112_77 rfl (by decide) ?_
          refine r_getR a112_78 ty32 rf32_4 (by decide) ?_
          refine r_getI (ki := 0) a112_81 ty85 rfl ?_
          rw [q5]
          refine r_iclt a112_84 (fun h_84 => ?_) (fun h_84 => ?_)
          · refine r_loadA a112_92 rfl (by decide) ?_
            refine r_getR a112_93 ty32 rf32_4 (by decide) ?_
            refine r_getR a112_96 ty85 rf85_10 (by decide) ?_
            refine r_loadI a112_99 rfl ?_
            refine r_iald a112_100 ty95 (by omega) ?_
            refine r_retIq a112_101 ?_
            refine ⟨KC.trans (FrT_85 f1) (KC.trans (FrT_85 f2) (FrB_85 f4)), ?_⟩
            rw [hw, if_neg (by omega), if_neg (by omega)]
            first
              | rw [if_neg (by omega)]
              | (rw [if_pos (by omega)]; exact q6' i (by omega) (by omega))
          · refine r_pushI a112_87 ?_
            refine r_goto a112_89 ?_
            refine r_retIq a112_101 ?_
            refine ⟨KC.trans (FrT_85 f1) (KC.trans (FrT_85 f2) (FrB_85 f4)), ?_⟩
            rw [hw, if_neg (by omega), if_neg (by omega)]
            first
              | rw [if_neg (by omega)]
              | (rw [if_pos (by omega)]; exact q6' i (by omega) (by omega))
        · refine r_loadI a112_66 rfl ?_
          refine r_retIq a112_68 ?_
          exact ⟨KC.trans (FrT_85 f1) (FrT_85 f2), by rw [hw, if_neg (by omega), if_pos (by omega)]⟩
      · refine r_pushI a112_58 ?_
        refine r_retIq a112_60 ?_
        exact ⟨KC.trans (FrT_85 f1) (FrT_85 f2), by rw [hw, if_pos (by omega)]⟩
    · refine r_pushI a112_18 ?_
      refine r_retIq a112_19 ?_
      refine ⟨KC.refl m, ?_⟩
      unfold aBest; rw [if_pos]
      rintro ⟨a, b⟩
      first
        | exact (skD h_2).2 h_5 a
        | omega
theorem c_Fg_quickest (d z : Nat) (m : XM) (s : Int → Int) (cl : CLs) (k i : Int) (hd : 8 ≤ d) (hC : CpC m s cl) : CI d k_Fg_quickest z m [vR 32, vI k, vI i] (fun x m' => KC m m' ∧ x = aBest s cl k i 0) := by
  obtain ⟨e, rfl⟩ : ∃ e, d = e + 1 := ⟨d - 1, by omega⟩
  refine r_entry mx76 rfl ?_
  refine r_loadA a76_0 rfl (by decide) ?_
  refine r_loadI a76_1 rfl ?_
  refine r_loadI a76_2 rfl ?_
  refine r_pushI a76_3 ?_
  refine r_callI_4 a76_4 (Nat.le_of_ble_eq_true rfl) (le_mx mx112 (Nat.le_of_ble_eq_true rfl)) (Or.inr (recv_ok ty32 ow112 (by decide))) (c_Fg_bestLine e z m s cl k i 0 (by omega) hC (by omega)) (fun x_4 m_4 h_4 => ?_)
  refine r_retIq a76_7 ?_
  exact h_4
theorem c_Fg_clean (d z : Nat) (m : XM) (s : Int → Int) (cl : CLs) (k i : Int) (hd : 8 ≤ d) (hC : CpC m s cl) : CI d k_Fg_clean z m [vR 32, vI k, vI i] (fun x m' => KC m m' ∧ x = aBest s cl k i 1) := by
  obtain ⟨e, rfl⟩ : ∃ e, d = e + 1 := ⟨d - 1, by omega⟩
  refine r_entry mx77 rfl ?_
  refine r_loadA a77_0 rfl (by decide) ?_
  refine r_loadI a77_1 rfl ?_
  refine r_loadI a77_2 rfl ?_
  refine r_pushI a77_3 ?_
  refine r_callI_4 a77_4 (Nat.le_of_ble_eq_true rfl) (le_mx mx112 (Nat.le_of_ble_eq_true rfl)) (Or.inr (recv_ok ty32 ow112 (by decide))) (c_Fg_bestLine e z m s cl k i 1 (by omega) hC (by omega)) (fun x_4 m_4 h_4 => ?_)
  refine r_retIq a77_7 ?_
  exact h_4
def aRisk (s : Int → Int) (cl : CLs) (a b v p : Int) : Int := if sk s a ∧ sk s b ∧ a ≠ b ∧ (-99 ≤ v ∧ v ≤ 99) ∧ 0 ≤ p ∧ p ≤ 1 then qSur s cl a (tQ s cl b (s 7) 1 - v) p else MINL
theorem c_Fg_risk (d z : Nat) (m : XM) (s : Int → Int) (cl : CLs) (a b v p : Int) (hd : 21 ≤ d) (hC : CpC m s cl) :
    CL d k_Fg_risk z m [vR 32, vI a, vI b, vI v, vI p] (fun x m' => KC m m' ∧ x = aRisk s cl a b v p) := by
  obtain ⟨e, rfl⟩ : ∃ e, d = e + 1 := ⟨d - 1, by omega⟩
  have r7 := hC.1.1.2.2.2.2.2.2.2
  have t1 := tQ_r (k := b) (w := 1) hC.1 hC.2.2.1.2.1 hC.2.2.1.2.2 r7
  refine r_entry mx87 rfl ?_
  refine r_loadA a87_0 rfl (by decide) ?_
  refine r_loadI a87_1 rfl ?_
  refine r_callI_2 a87_2 (Nat.le_of_ble_eq_true rfl) (le_mx mx104 (Nat.le_of_ble_eq_true rfl)) (Or.inr (recv_ok ty32 ow104 (by decide))) (c_Fg_noSkier e z m s cl hC a) (fun x_2 m_2 h_2 => ?_)
  obtain ⟨hm_2, h_2⟩ := h_2
  rw [hm_2]
  refine r_ifne a87_5 (fun h_5 => ?_) (fun h_5 => ?_)
  · refine r_pushL a87_40 ?_
    refine r_retLq a87_43 ?_
    refine ⟨KC.refl m, ?_⟩
    unfold aRisk; rw [if_neg]
    rintro ⟨a1, a2, a3⟩
    first
      | exact (skD h_2).2 h_5 a1
      | exact (skD h_10).2 h_13 a2
      | omega
  · refine r_loadA a87_8 rfl (by decide) ?_
    refine r_loadI a87_9 rfl ?_
    refine r_callI_2 a87_10 (Nat.le_of_ble_eq_true rfl) (le_mx mx104 (Nat.le_of_ble_eq_true rfl)) (Or.inr (recv_ok ty32 ow104 (by decide))) (c_Fg_noSkier e z m s cl hC b) (fun x_10 m_10 h_10 => ?_)
    obtain ⟨hm_10, h_10⟩ := h_10
    rw [hm_10]
    refine r_ifne a87_13 (fun h_13 => ?_) (fun h_13 => ?_)
    · refine r_pushL a87_40 ?_
      refine r_retLq a87_43 ?_
      refine ⟨KC.refl m, ?_⟩
      unfold aRisk; rw [if_neg]
      rintro ⟨a1, a2, a3⟩
      first
        | exact (skD h_2).2 h_5 a1
        | exact (skD h_10).2 h_13 a2
        | omega
    · refine r_loadI a87_16 rfl ?_
      refine r_loadI a87_17 rfl ?_
      refine r_iceq a87_18 (fun h_18 => ?_) (fun h_18 => ?_)
      · refine r_pushL a87_40 ?_
        refine r_retLq a87_43 ?_
        refine ⟨KC.refl m, ?_⟩
        unfold aRisk; rw [if_neg]
        rintro ⟨a1, a2, a3⟩
        first
          | exact (skD h_2).2 h_5 a1
          | exact (skD h_10).2 h_13 a2
          | omega
      · refine r_loadI a87_21 rfl ?_
        refine r_pushI a87_22 ?_
        refine r_pushI a87_24 ?_
        refine r_callI_3 a87_26 (Nat.le_of_ble_eq_true rfl) (le_mx mx106 (Nat.le_of_ble_eq_true rfl)) (Or.inl rfl) (c_Fg_outside e z m v (-99) 99) (fun x_26 m_26 h_26 => ?_)
        obtain ⟨hm_26, h_26⟩ := h_26
        rw [hm_26]
        refine r_ifne a87_29 (fun h_29 => ?_) (fun h_29 => ?_)
        · refine r_pushL a87_40 ?_
          refine r_retLq a87_43 ?_
          refine ⟨KC.refl m, ?_⟩
          unfold aRisk; rw [if_neg]
          rintro ⟨a1, a2, a3⟩
          first
            | exact (skD h_2).2 h_5 a1
            | exact (skD h_10).2 h_13 a2
            | omega
        · refine r_loadI a87_32 rfl ?_
          refine r_callI_1 a87_34 (Nat.le_of_ble_eq_true rfl) (le_mx mx105 (Nat.le_of_ble_eq_true rfl)) (Or.inl rfl) (c_Fg_noPart e z m p (by omega)) (fun x_34 m_34 h_34 => ?_)
          obtain ⟨hm_34, h_34⟩ := h_34
          rw [hm_34]
          refine r_ifeq a87_37 (fun h_37 => ?_) (fun h_37 => ?_)
          · refine r_loadA a87_44 rfl (by decide) ?_
            refine r_loadA a87_45 rfl (by decide) ?_
            refine r_getR a87_46 ty32 rf32_5 (by decide) ?_
            refine r_loadI a87_49 rfl ?_
            refine r_callI_3 a87_50 (Nat.le_of_ble_eq_true rfl) (le_mx mx110 (Nat.le_of_ble_eq_true rfl)) (Or.inr (recv_ok ty32 ow110 (by decide))) (c_Fg_leastTime_98 e z m s cl b (by omega) hC ((skD h_10).1 (by omega))) (fun x_50 m_50 h_50 => ?_)
            obtain ⟨f1, _, _, q1⟩ := h_50
            rw [q1]
            have hC2 := CpC_K (FrT_98 f1) hC
            refine r_loadI a87_53 rfl ?_
            refine r_sub a87_54 (by omega) ?_
            refine r_storeI_5 a87_55 rfl ?_
            refine r_loadA a87_57 rfl (by decide) ?_
            refine r_loadI a87_58 rfl ?_
            refine r_loadI a87_59 rfl ?_
            refine r_loadI a87_61 rfl ?_
            refine r_callL_4 a87_63 (Nat.le_of_ble_eq_true rfl) (le_mx mx113 (Nat.le_of_ble_eq_true rfl)) (Or.inr (recv_ok ty32 ow113 (by decide))) (c_Fg_surestWithin e z m_50 s cl a (tQ s cl b (s 7) 1 - v) p (by omega) hC2 ((skD h_2).1 (by omega)) (by omega)) (fun x_63 m_63 h_63 => ?_)
            refine r_retLq a87_66 ?_
            refine ⟨KC.trans (FrT_98 f1) h_63.1, ?_⟩
            unfold aRisk; rw [if_pos ⟨(skD h_2).1 (by omega), (skD h_10).1 (by omega), by omega, by omega, by omega⟩]; exact h_63.2
          · refine r_pushL a87_40 ?_
            refine r_retLq a87_43 ?_
            refine ⟨KC.refl m, ?_⟩
            unfold aRisk; rw [if_neg]
            rintro ⟨a1, a2, a3⟩
            first
              | exact (skD h_2).2 h_5 a1
              | exact (skD h_10).2 h_13 a2
              | omega
