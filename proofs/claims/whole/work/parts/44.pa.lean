-- ===== the class: small parts of a pass =====
theorem c_Pa_held (d z : Nat) (m : XM) (n most : Int) (hd : 1 ≤ d) (hm : 0 ≤ most) :
    CI d k_Pa_held z m [vI n, vI most] (fun x m' => m' = m ∧ ((n < 0 ∧ x = 0) ∨ (0 ≤ n ∧ most < n ∧ x = most) ∨ (0 ≤ n ∧ n ≤ most ∧ x = n))) := by
  obtain ⟨e, rfl⟩ : ∃ e, d = e + 1 := ⟨d - 1, by omega⟩
  refine r_entry mx32 rfl ?_
  refine r_pushI a32_0 ?_
  refine r_loadI a32_1 rfl ?_
  refine r_loadI a32_2 rfl ?_
  refine r_minI a32_3 (by omega) (Nat.le_of_ble_eq_true rfl) ?_
  refine r_maxI a32_6 (by omega) (Nat.le_of_ble_eq_true rfl) ?_
  refine r_retIq a32_9 ?_
  refine ⟨rfl, ?_⟩
  unfold iMax iMin
  split <;> split <;> omega
theorem c_Pa_cell (d z : Nat) (m : XM) (g p c : Int) (hg : 0 ≤ g ∧ g < 7) (hp : 0 ≤ p ∧ p < 10) (hc : 0 ≤ c ∧ c < 3) :
    CI d k_Pa_cell z m [vI g, vI p, vI c] (fun x m' => m' = m ∧ x = (g * 10 + p) * 3 + c) := by
  refine r_entry mx31 rfl ?_
  refine r_loadI a31_0 rfl ?_
  refine r_pushI a31_1 ?_
  refine r_mul a31_3 (by omega) ?_
  refine r_loadI a31_4 rfl ?_
  refine r_add a31_5 (by omega) ?_
  refine r_pushI a31_6 ?_
  refine r_mul a31_7 (by omega) ?_
  refine r_loadI a31_8 rfl ?_
  refine r_add a31_9 (by omega) ?_
  refine r_retIq a31_10 ?_
  exact ⟨rfl, rfl⟩
