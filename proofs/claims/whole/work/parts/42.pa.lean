-- ===== the class: sums over paces =====
theorem shbit (f : Nat → Bool) {k : Int} (h0 : 0 ≤ k) (h1 : k < 10) : iAnd (iShr (MK f) k) 1 = if f k.toNat then 1 else 0 := by
  generalize hn : k.toNat = n
  have e : k = (n : Int) := by omega
  have hM := MK_lt f
  have hq : 0 ≤ MK f / 2 ^ n := Int.ediv_nonneg (by omega) (by have : (0 : Int) < 2 ^ n := Int.pow_pos (by decide)
                                                               omega)
  have hq2 : MK f / 2 ^ n ≤ MK f := Int.ediv_le_self _ (by omega)
  rw [e, iShr_eq n (by omega) (by omega), iAnd_1 (by omega), MK_bit f n (by omega)]
def addP (f : Nat → Bool) (n N : Int) (g : Int → Int) : Int → Int := fun j => if 0 ≤ j ∧ j < N then g j + (if f j.toNat then n else 0) else g j
theorem addP_s (f : Nat → Bool) (n k : Int) (g : Int → Int) (hk : 0 ≤ k) : upi (addP f n k g) k (g k + (if f k.toNat then n else 0)) = addP f n (k + 1) g := by
  funext j
  rw [upi_at]; unfold addP
  by_cases q : j = k
  · rw [if_pos q, if_pos (show 0 ≤ j ∧ j < k + 1 by omega), q]
  · rw [if_neg q]
    by_cases q2 : 0 ≤ j ∧ j < k
    · rw [if_pos q2, if_pos (show 0 ≤ j ∧ j < k + 1 by omega)]
    · rw [if_neg q2, if_neg (by omega)]
theorem addP_0 (f : Nat → Bool) (n : Int) (g : Int → Int) : addP f n 0 g = g := by
  funext j; unfold addP; rw [if_neg (by omega)]
theorem c_Pa_addAt_91 (d z : Nat) (m : XM) (f : Nat → Bool) (n : Int) (hn : 0 ≤ n ∧ n ≤ 99) (hb : ∀ k, 0 ≤ k → k < 10 → 0 ≤ m 91 k ∧ m 91 k ≤ 10000) :
    CV d k_Pa_addAt z m [vR 91, vI (MK f), vI n] (fun m' => m' = upC m 91 (addP f n 10 (m 91))) := by
  have loop : ∀ (c : Nat) (k : Int), 10 < k + c → 0 ≤ k → k ≤ 10 →
      RZ d k_Pa_addAt 2 [vR 91, vI (MK f), vI n, vI k] [] (zH z (upC m 91 (addP f n k (m 91)))) (qz z (qv fun m' => m' = upC m 91 (addP f n 10 (m 91)))) := by
    intro c
    induction c with
    | zero => intro k h1 h2 h3; exfalso; omega
    | succ c ih =>
      intro k h1 h2 h3
      have e1 : upC m 91 (addP f n k (m 91)) 91 k = m 91 k := by rw [upC_s]; unfold addP; rw [if_neg (by omega)]
      refine r_loadI a27_2 rfl ?_
      refine r_loadA a27_3 rfl (by decide) ?_
      refine r_alen a27_4 ty91 (Or.inl rfl) rfl ?_
      refine r_icge a27_5 (fun h_5 => ?_) (fun h_5 => ?_)
      · have hk : k = 10 := by omega
        rw [hk]
        refine r_retVq a27_30 ?_
        rfl
      · refine r_loadI a27_8 rfl ?_
        refine r_loadI a27_9 rfl ?_
        refine r_shr a27_10 ?_
        refine r_pushI a27_11 ?_
        refine r_and a27_12 ?_
        rw [shbit f h2 (by omega)]
        refine r_pushI a27_13 ?_
        have hbk := hb k h2 (by omega)
        refine r_icne a27_14 (fun h_14 => ?_) (fun h_14 => ?_)
        · by_cases q : f k.toNat = true
          · rw [if_pos q] at h_14; exact absurd rfl h_14
          · have e2 : addP f n k (m 91) = addP f n (k + 1) (m 91) := by
              rw [← addP_s f n k _ h2, if_neg q, Int.add_zero]
              funext j; rw [upi_at]
              by_cases q2 : j = k
              · rw [if_pos q2, q2]; unfold addP; rw [if_neg (by omega)]
              · rw [if_neg q2]
            rw [e2]
            refine r_iinc_3 a27_24 rfl (by omega) ?_
            refine r_goto a27_27 ?_
            exact ih (k + 1) (by omega) (by omega) (by omega)
        · refine r_loadA a27_17 rfl (by decide) ?_
          refine r_loadI a27_18 rfl ?_
          refine r_dup2 a27_19 rfl rfl ?_
          refine r_iald a27_20 ty91 (by omega) ?_
          refine r_loadI a27_21 rfl ?_
          refine r_add a27_22 (by rw [e1]; omega) ?_
          refine r_iast a27_23 ty91 (by omega) ?_
          by_cases q : f k.toNat = true
          · have e2 : zH z (up2 (upC m 91 (addP f n k (m 91))) 91 k (upC m 91 (addP f n k (m 91)) 91 k + n)) = zH z (upC m 91 (addP f n (k + 1) (m 91))) := by
              rw [e1, up2_C, upC_s, upC_upC, ← addP_s f n k _ h2, if_pos q]
            rw [e2]
            refine r_iinc_3 a27_24 rfl (by omega) ?_
            refine r_goto a27_27 ?_
            exact ih (k + 1) (by omega) (by omega) (by omega)
          · rw [if_neg q] at h_14; exact absurd h_14 (by decide)
  have h0 : zH z m = zH z (upC m 91 (addP f n 0 (m 91))) := by rw [addP_0, upC_id]
  refine r_entry mx27 rfl ?_
  refine r_pushI a27_0 ?_
  refine r_storeI_3 a27_1 rfl ?_
  rw [h0]
  exact loop 11 0 (by omega) (by omega) (by omega)
theorem c_Pa_addAt_92 (d z : Nat) (m : XM) (f : Nat → Bool) (n : Int) (hn : 0 ≤ n ∧ n ≤ 99) (hb : ∀ k, 0 ≤ k → k < 10 → 0 ≤ m 92 k ∧ m 92 k ≤ 10000) :
    CV d k_Pa_addAt z m [vR 92, vI (MK f), vI n] (fun m' => m' = upC m 92 (addP f n 10 (m 92))) := by
  have loop : ∀ (c : Nat) (k : Int), 10 < k + c → 0 ≤ k → k ≤ 10 →
      RZ d k_Pa_addAt 2 [vR 92, vI (MK f), vI n, vI k] [] (zH z (upC m 92 (addP f n k (m 92)))) (qz z (qv fun m' => m' = upC m 92 (addP f n 10 (m 92)))) := by
    intro c
    induction c with
    | zero => intro k h1 h2 h3; exfalso; omega
    | succ c ih =>
      intro k h1 h2 h3
      have e1 : upC m 92 (addP f n k (m 92)) 92 k = m 92 k := by rw [upC_s]; unfold addP; rw [if_neg (by omega)]
      refine r_loadI a27_2 rfl ?_
      refine r_loadA a27_3 rfl (by decide) ?_
      refine r_alen a27_4 ty92 (Or.inl rfl) rfl ?_
      refine r_icge a27_5 (fun h_5 => ?_) (fun h_5 => ?_)
      · have hk : k = 10 := by omega
        rw [hk]
        refine r_retVq a27_30 ?_
        rfl
      · refine r_loadI a27_8 rfl ?_
        refine r_loadI a27_9 rfl ?_
        refine r_shr a27_10 ?_
        refine r_pushI a27_11 ?_
        refine r_and a27_12 ?_
        rw [shbit f h2 (by omega)]
        refine r_pushI a27_13 ?_
        have hbk := hb k h2 (by omega)
        refine r_icne a27_14 (fun h_14 => ?_) (fun h_14 => ?_)
        · by_cases q : f k.toNat = true
          · rw [if_pos q] at h_14; exact absurd rfl h_14
          · have e2 : addP f n k (m 92) = addP f n (k + 1) (m 92) := by
              rw [← addP_s f n k _ h2, if_neg q, Int.add_zero]
              funext j; rw [upi_at]
              by_cases q2 : j = k
              · rw [if_pos q2, q2]; unfold addP; rw [if_neg (by omega)]
              · rw [if_neg q2]
            rw [e2]
            refine r_iinc_3 a27_24 rfl (by omega) ?_
            refine r_goto a27_27 ?_
            exact ih (k + 1) (by omega) (by omega) (by omega)
        · refine r_loadA a27_17 rfl (by decide) ?_
          refine r_loadI a27_18 rfl ?_
          refine r_dup2 a27_19 rfl rfl ?_
          refine r_iald a27_20 ty92 (by omega) ?_
          refine r_loadI a27_21 rfl ?_
          refine r_add a27_22 (by rw [e1]; omega) ?_
          refine r_iast a27_23 ty92 (by omega) ?_
          by_cases q : f k.toNat = true
          · have e2 : zH z (up2 (upC m 92 (addP f n k (m 92))) 92 k (upC m 92 (addP f n k (m 92)) 92 k + n)) = zH z (upC m 92 (addP f n (k + 1) (m 92))) := by
              rw [e1, up2_C, upC_s, upC_upC, ← addP_s f n k _ h2, if_pos q]
            rw [e2]
            refine r_iinc_3 a27_24 rfl (by omega) ?_
            refine r_goto a27_27 ?_
            exact ih (k + 1) (by omega) (by omega) (by omega)
          · rw [if_neg q] at h_14; exact absurd h_14 (by decide)
  have h0 : zH z m = zH z (upC m 92 (addP f n 0 (m 92))) := by rw [addP_0, upC_id]
  refine r_entry mx27 rfl ?_
  refine r_pushI a27_0 ?_
  refine r_storeI_3 a27_1 rfl ?_
  rw [h0]
  exact loop 11 0 (by omega) (by omega) (by omega)
theorem c_Pa_addAt_104 (d z : Nat) (m : XM) (f : Nat → Bool) (n : Int) (hn : 0 ≤ n ∧ n ≤ 99) (hb : ∀ k, 0 ≤ k → k < 10 → 0 ≤ m 104 k ∧ m 104 k ≤ 10000) :
    CV d k_Pa_addAt z m [vR 104, vI (MK f), vI n] (fun m' => m' = upC m 104 (addP f n 10 (m 104))) := by
  have loop : ∀ (c : Nat) (k : Int), 10 < k + c → 0 ≤ k → k ≤ 10 →
      RZ d k_Pa_addAt 2 [vR 104, vI (MK f), vI n, vI k] [] (zH z (upC m 104 (addP f n k (m 104)))) (qz z (qv fun m' => m' = upC m 104 (addP f n 10 (m 104)))) := by
    intro c
    induction c with
    | zero => intro k h1 h2 h3; exfalso; omega
    | succ c ih =>
      intro k h1 h2 h3
      have e1 : upC m 104 (addP f n k (m 104)) 104 k = m 104 k := by rw [upC_s]; unfold addP; rw [if_neg (by omega)]
      refine r_loadI a27_2 rfl ?_
      refine r_loadA a27_3 rfl (by decide) ?_
      refine r_alen a27_4 ty104 (Or.inl rfl) rfl ?_
      refine r_icge a27_5 (fun h_5 => ?_) (fun h_5 => ?_)
      · have hk : k = 10 := by omega
        rw [hk]
        refine r_retVq a27_30 ?_
        rfl
      · refine r_loadI a27_8 rfl ?_
        refine r_loadI a27_9 rfl ?_
        refine r_shr a27_10 ?_
        refine r_pushI a27_11 ?_
        refine r_and a27_12 ?_
        rw [shbit f h2 (by omega)]
        refine r_pushI a27_13 ?_
        have hbk := hb k h2 (by omega)
        refine r_icne a27_14 (fun h_14 => ?_) (fun h_14 => ?_)
        · by_cases q : f k.toNat = true
          · rw [if_pos q] at h_14; exact absurd rfl h_14
          · have e2 : addP f n k (m 104) = addP f n (k + 1) (m 104) := by
              rw [← addP_s f n k _ h2, if_neg q, Int.add_zero]
              funext j; rw [upi_at]
              by_cases q2 : j = k
              · rw [if_pos q2, q2]; unfold addP; rw [if_neg (by omega)]
              · rw [if_neg q2]
            rw [e2]
            refine r_iinc_3 a27_24 rfl (by omega) ?_
            refine r_goto a27_27 ?_
            exact ih (k + 1) (by omega) (by omega) (by omega)
        · refine r_loadA a27_17 rfl (by decide) ?_
          refine r_loadI a27_18 rfl ?_
          refine r_dup2 a27_19 rfl rfl ?_
          refine r_iald a27_20 ty104 (by omega) ?_
          refine r_loadI a27_21 rfl ?_
          refine r_add a27_22 (by rw [e1]; omega) ?_
          refine r_iast a27_23 ty104 (by omega) ?_
          by_cases q : f k.toNat = true
          · have e2 : zH z (up2 (upC m 104 (addP f n k (m 104))) 104 k (upC m 104 (addP f n k (m 104)) 104 k + n)) = zH z (upC m 104 (addP f n (k + 1) (m 104))) := by
              rw [e1, up2_C, upC_s, upC_upC, ← addP_s f n k _ h2, if_pos q]
            rw [e2]
            refine r_iinc_3 a27_24 rfl (by omega) ?_
            refine r_goto a27_27 ?_
            exact ih (k + 1) (by omega) (by omega) (by omega)
          · rw [if_neg q] at h_14; exact absurd h_14 (by decide)
  have h0 : zH z m = zH z (upC m 104 (addP f n 0 (m 104))) := by rw [addP_0, upC_id]
  refine r_entry mx27 rfl ?_
  refine r_pushI a27_0 ?_
  refine r_storeI_3 a27_1 rfl ?_
  rw [h0]
  exact loop 11 0 (by omega) (by omega) (by omega)
theorem c_Pa_addAt_105 (d z : Nat) (m : XM) (f : Nat → Bool) (n : Int) (hn : 0 ≤ n ∧ n ≤ 99) (hb : ∀ k, 0 ≤ k → k < 10 → 0 ≤ m 105 k ∧ m 105 k ≤ 10000) :
    CV d k_Pa_addAt z m [vR 105, vI (MK f), vI n] (fun m' => m' = upC m 105 (addP f n 10 (m 105))) := by
  have loop : ∀ (c : Nat) (k : Int), 10 < k + c → 0 ≤ k → k ≤ 10 →
      RZ d k_Pa_addAt 2 [vR 105, vI (MK f), vI n, vI k] [] (zH z (upC m 105 (addP f n k (m 105)))) (qz z (qv fun m' => m' = upC m 105 (addP f n 10 (m 105)))) := by
    intro c
    induction c with
    | zero => intro k h1 h2 h3; exfalso; omega
    | succ c ih =>
      intro k h1 h2 h3
      have e1 : upC m 105 (addP f n k (m 105)) 105 k = m 105 k := by rw [upC_s]; unfold addP; rw [if_neg (by omega)]
      refine r_loadI a27_2 rfl ?_
      refine r_loadA a27_3 rfl (by decide) ?_
      refine r_alen a27_4 ty105 (Or.inl rfl) rfl ?_
      refine r_icge a27_5 (fun h_5 => ?_) (fun h_5 => ?_)
      · have hk : k = 10 := by omega
        rw [hk]
        refine r_retVq a27_30 ?_
        rfl
      · refine r_loadI a27_8 rfl ?_
        refine r_loadI a27_9 rfl ?_
        refine r_shr a27_10 ?_
        refine r_pushI a27_11 ?_
        refine r_and a27_12 ?_
        rw [shbit f h2 (by omega)]
        refine r_pushI a27_13 ?_
        have hbk := hb k h2 (by omega)
        refine r_icne a27_14 (fun h_14 => ?_) (fun h_14 => ?_)
        · by_cases q : f k.toNat = true
          · rw [if_pos q] at h_14; exact absurd rfl h_14
          · have e2 : addP f n k (m 105) = addP f n (k + 1) (m 105) := by
              rw [← addP_s f n k _ h2, if_neg q, Int.add_zero]
              funext j; rw [upi_at]
              by_cases q2 : j = k
              · rw [if_pos q2, q2]; unfold addP; rw [if_neg (by omega)]
              · rw [if_neg q2]
            rw [e2]
            refine r_iinc_3 a27_24 rfl (by omega) ?_
            refine r_goto a27_27 ?_
            exact ih (k + 1) (by omega) (by omega) (by omega)
        · refine r_loadA a27_17 rfl (by decide) ?_
          refine r_loadI a27_18 rfl ?_
          refine r_dup2 a27_19 rfl rfl ?_
          refine r_iald a27_20 ty105 (by omega) ?_
          refine r_loadI a27_21 rfl ?_
          refine r_add a27_22 (by rw [e1]; omega) ?_
          refine r_iast a27_23 ty105 (by omega) ?_
          by_cases q : f k.toNat = true
          · have e2 : zH z (up2 (upC m 105 (addP f n k (m 105))) 105 k (upC m 105 (addP f n k (m 105)) 105 k + n)) = zH z (upC m 105 (addP f n (k + 1) (m 105))) := by
              rw [e1, up2_C, upC_s, upC_upC, ← addP_s f n k _ h2, if_pos q]
            rw [e2]
            refine r_iinc_3 a27_24 rfl (by omega) ?_
            refine r_goto a27_27 ?_
            exact ih (k + 1) (by omega) (by omega) (by omega)
          · rw [if_neg q] at h_14; exact absurd h_14 (by decide)
  have h0 : zH z m = zH z (upC m 105 (addP f n 0 (m 105))) := by rw [addP_0, upC_id]
  refine r_entry mx27 rfl ?_
  refine r_pushI a27_0 ?_
  refine r_storeI_3 a27_1 rfl ?_
  rw [h0]
  exact loop 11 0 (by omega) (by omega) (by omega)
