-- ===== the reference: small methods =====
abbrev CI (d M z : Nat) (m : XM) (as : List XV) (P : Int → XM → Prop) : Prop := RZ d M 0 (entryL M as) [] (zH z m) (qz z (qi P))
abbrev CL (d M z : Nat) (m : XM) (as : List XV) (P : Int → XM → Prop) : Prop := RZ d M 0 (entryL M as) [] (zH z m) (qz z (ql P))
abbrev CV (d M z : Nat) (m : XM) (as : List XV) (P : XM → Prop) : Prop := RZ d M 0 (entryL M as) [] (zH z m) (qz z (qv P))
theorem c_Mo_in (d z : Nat) (m : XM) (v lo hi : Int) : CI d k_Mo_in z m [vI v, vI lo, vI hi] (fun x m' => m' = m ∧ x = if lo ≤ v ∧ v ≤ hi then 1 else 0) := by
  refine r_entry mx119 rfl ?_
  refine r_loadI a119_0 rfl ?_
  refine r_loadI a119_1 rfl ?_
  refine r_iclt a119_2 (fun h_2 => ?_) (fun h_2 => ?_)
  · refine r_pushI a119_14 ?_
    refine r_retZq a119_15 (by omega) ?_
    exact ⟨rfl, by split <;> omega⟩
  · refine r_loadI a119_5 rfl ?_
    refine r_loadI a119_6 rfl ?_
    refine r_icgt a119_7 (fun h_7 => ?_) (fun h_7 => ?_)
    · refine r_pushI a119_14 ?_
      refine r_retZq a119_15 (by omega) ?_
      exact ⟨rfl, by split <;> omega⟩
    · refine r_pushI a119_10 ?_
      refine r_goto a119_11 ?_
      refine r_retZq a119_15 (by omega) ?_
      exact ⟨rfl, by split <;> omega⟩
theorem c_Mo_within (d z : Nat) (m : XM) (v lo hi : Int) : CI d k_Mo_within z m [vI v, vI lo, vI hi] (fun x m' => m' = m ∧ x = if v < lo then lo else if v > hi then hi else v) := by
  refine r_entry mx120 rfl ?_
  refine r_loadI a120_0 rfl ?_
  refine r_loadI a120_1 rfl ?_
  refine r_icge a120_2 (fun h_2 => ?_) (fun h_2 => ?_)
  · refine r_loadI a120_9 rfl ?_
    refine r_loadI a120_10 rfl ?_
    refine r_icle a120_11 (fun h_11 => ?_) (fun h_11 => ?_)
    · refine r_loadI a120_18 rfl ?_
      refine r_retIq a120_19 ?_
      exact ⟨rfl, by (repeat' split) <;> omega⟩
    · refine r_loadI a120_14 rfl ?_
      refine r_goto a120_15 ?_
      refine r_retIq a120_19 ?_
      exact ⟨rfl, by (repeat' split) <;> omega⟩
  · refine r_loadI a120_5 rfl ?_
    refine r_goto a120_6 ?_
    refine r_retIq a120_19 ?_
    exact ⟨rfl, by (repeat' split) <;> omega⟩
theorem c_Mo_isGate (d z : Nat) (m : XM) (g : Int) (hd : 1 ≤ d) (h0 : 0 ≤ m 122 0 ∧ m 122 0 ≤ 7) : CI d k_Mo_isGate z m [vR 121, vI g] (fun x m' => m' = m ∧ x = if 0 ≤ g ∧ g < m 122 0 then 1 else 0) := by
  obtain ⟨e, rfl⟩ : ∃ e, d = e + 1 := ⟨d - 1, by omega⟩
  refine r_entry mx121 rfl ?_
  refine r_loadI a121_0 rfl ?_
  refine r_pushI a121_1 ?_
  refine r_loadA a121_2 rfl (by decide) ?_
  refine r_getR a121_3 ty121 rf121_1 (by decide) ?_
  refine r_pushI a121_6 ?_
  refine r_iald a121_7 ty122 (by omega) ?_
  refine r_pushI a121_8 ?_
  refine r_sub a121_9 (by omega) ?_
  refine r_callI_3 a121_10 (Nat.le_of_ble_eq_true rfl) (le_mx mx119 (Nat.le_of_ble_eq_true rfl)) (Or.inl rfl) (c_Mo_in e z m g 0 (m 122 0 - 1)) (fun x_10 m_10 h_10 => ?_)
  refine r_retZq a121_13 (by rw [h_10.2]; split <;> omega) ?_
  exact ⟨h_10.1, by rw [h_10.2]; (repeat' split) <;> omega⟩
