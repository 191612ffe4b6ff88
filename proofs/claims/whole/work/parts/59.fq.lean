-- ===== the class: rank, mean, slowest, fits, who, looked, set =====
def plc (t : Int → Int) (k : Int) : Nat → Int
  | 0 => 0
  | j + 1 => plc t k j + (if t j < t k ∨ (t j = t k ∧ (j : Int) < k) then 1 else 0)
theorem plc_r (t : Int → Int) (k : Int) : ∀ j : Nat, 0 ≤ plc t k j ∧ plc t k j ≤ j := by
  intro j
  induction j with
  | zero => show 0 ≤ (0 : Int) ∧ (0 : Int) ≤ ((0 : Nat) : Int); omega
  | succ j ih =>
    show 0 ≤ plc t k j + (if _ then _ else _) ∧ plc t k j + (if _ then _ else _) ≤ ((j + 1 : Nat) : Int)
    push_cast
    split <;> omega
def tN (s : Int → Int) (cl : CLs) : Int → Int := fun j => tQ s cl j (s 7) 1
theorem c_Fg_placeOf (d z : Nat) (m : XM) (s : Int → Int) (cl : CLs) (t : Int → Int) (k : Int) (hC : CpC m s cl) (hk : sk s k) (ht : ∀ j, 0 ≤ j → j < s 1 → m 120 j = t j) :
    CI d k_Fg_placeOf z m [vR 32, vI k] (fun x m' => m' = m ∧ x = plc t k (s 1).toNat) := by
  have h1 : m 33 2 = s 1 := hC.2.1.2.2.1.1
  have hN := hC.1.1.2.1
  have loop : ∀ (c j : Nat), (j : Int) + c = s 1 → RZ d k_Fg_placeOf 4 [vR 32, vI k, vI (plc t k j), vI (j : Int)] [] (zH z m) (qz z (qi fun x m' => m' = m ∧ x = plc t k (s 1).toNat)) := by
    intro c
    induction c with
    | zero =>
      intro j hj
      have ej : (s 1).toNat = j := by omega
      refine r_loadI a116_4 rfl ?_
      refine r_loadA a116_5 rfl (by decide) ?_
      refine r_getR a116_6 ty32 rf32_0 (by decide) ?_
      refine r_getI (ki := 2) a116_9 ty33 rfl ?_
      rw [h1]
      refine r_icge a116_12 (fun h_12 => ?_) (fun h_12 => ?_)
      · refine r_loadI a116_59 rfl ?_
        refine r_retIq a116_60 ?_
        exact ⟨rfl, by rw [ej]⟩
      · exfalso
        omega
    | succ c ih =>
      intro j hj
      have a1 := ht j (by omega) (by omega)
      have a2 := ht k hk.1 hk.2
      have hr := plc_r t k j
      have eS : plc t k (j + 1) = plc t k j + (if t j < t k ∨ (t j = t k ∧ (j : Int) < k) then 1 else 0) := rfl
      refine r_loadI a116_4 rfl ?_
      refine r_loadA a116_5 rfl (by decide) ?_
      refine r_getR a116_6 ty32 rf32_0 (by decide) ?_
      refine r_getI (ki := 2) a116_9 ty33 rfl ?_
      rw [h1]
      refine r_icge a116_12 (fun h_12 => ?_) (fun h_12 => ?_)
      · exfalso
        omega
      · refine r_loadA a116_15 rfl (by decide) ?_
        refine r_getR a116_16 ty32 rf32_9 (by decide) ?_
        refine r_loadI a116_19 rfl ?_
        refine r_iald a116_20 ty120 (by omega) ?_
        refine r_loadA a116_21 rfl (by decide) ?_
        refine r_getR a116_22 ty32 rf32_9 (by decide) ?_
        refine r_loadI a116_25 rfl ?_
        refine r_iald a116_26 ty120 (by omega) ?_
        rw [a1, a2]
        refine r_iclt a116_27 (fun h_27 => ?_) (fun h_27 => ?_)
        · refine r_iinc_2 a116_50 rfl (by omega) ?_
          refine r_iinc_3 a116_53 rfl (by omega) ?_
          refine r_goto a116_56 ?_
          have q := ih (j + 1) (by push_cast; omega)
          first
            | (rw [eS, if_pos (by omega)] at q; exact q)
            | (rw [eS, if_neg (by omega), Int.add_zero] at q; exact q)
        · refine r_loadA a116_30 rfl (by decide) ?_
          refine r_getR a116_31 ty32 rf32_9 (by decide) ?_
          refine r_loadI a116_34 rfl ?_
          refine r_iald a116_35 ty120 (by omega) ?_
          refine r_loadA a116_36 rfl (by decide) ?_
          refine r_getR a116_37 ty32 rf32_9 (by decide) ?_
          refine r_loadI a116_40 rfl ?_
          refine r_iald a116_41 ty120 (by omega) ?_
          rw [a1, a2]
          refine r_icne a116_42 (fun h_42 => ?_) (fun h_42 => ?_)
          · refine r_iinc_3 a116_53 rfl (by omega) ?_
            refine r_goto a116_56 ?_
            have q := ih (j + 1) (by push_cast; omega)
            first
              | (rw [eS, if_pos (by omega)] at q; exact q)
              | (rw [eS, if_neg (by omega), Int.add_zero] at q; exact q)
          · refine r_loadI a116_45 rfl ?_
            refine r_loadI a116_46 rfl ?_
            refine r_icge a116_47 (fun h_47 => ?_) (fun h_47 => ?_)
            · refine r_iinc_3 a116_53 rfl (by omega) ?_
              refine r_goto a116_56 ?_
              have q := ih (j + 1) (by push_cast; omega)
              first
                | (rw [eS, if_pos (by omega)] at q; exact q)
                | (rw [eS, if_neg (by omega), Int.add_zero] at q; exact q)
            · refine r_iinc_2 a116_50 rfl (by omega) ?_
              refine r_iinc_3 a116_53 rfl (by omega) ?_
              refine r_goto a116_56 ?_
              have q := ih (j + 1) (by push_cast; omega)
              first
                | (rw [eS, if_pos (by omega)] at q; exact q)
                | (rw [eS, if_neg (by omega), Int.add_zero] at q; exact q)
  refine r_entry mx116 rfl ?_
  refine r_pushI a116_0 ?_
  refine r_storeI_2 a116_1 rfl ?_
  refine r_pushI a116_2 ?_
  refine r_storeI_3 a116_3 rfl ?_
  exact loop (s 1).toNat 0 (by omega)
def aRank (s : Int → Int) (cl : CLs) (k : Int) : Int := if ¬ sk s k then -1 else firstI (fun i => decide (plc (tN s cl) i (s 1).toNat = k)) (-1) (s 1).toNat 0
theorem c_Fg_rank (d z : Nat) (m : XM) (s : Int → Int) (cl : CLs) (k : Int) (hd : 8 ≤ d) (hC : CpC m s cl) :
    CI d k_Fg_rank z m [vR 32, vI k] (fun x m' => KC m m' ∧ x = aRank s cl k) := by
  obtain ⟨e, rfl⟩ : ∃ e, d = e + 1 := ⟨d - 1, by omega⟩
  have hN := hC.1.1.2.1
  have loop2 : ∀ (c : Nat) (j : Int) (m1 : XM), sk s k → j + c = s 1 → 0 ≤ j → KC m m1 → (∀ j, 0 ≤ j → j < s 1 → m1 120 j = tN s cl j) → firstI (fun i => decide (plc (tN s cl) i (s 1).toNat = k)) (-1) c j = aRank s cl k →
      RZ (e + 1) k_Fg_rank 46 [vR 32, vI k, vI j] [] (zH z m1) (qz z (qi fun x m' => KC m m' ∧ x = aRank s cl k)) := by
    intro c
    induction c with
    | zero =>
      intro j m1 hk hj h0 kc ht hf
      have h1 : m1 33 2 = s 1 := (CpC_K kc hC).2.1.2.2.1.1
      refine r_loadI a89_46 rfl ?_
      refine r_loadA a89_47 rfl (by decide) ?_
      refine r_getR a89_48 ty32 rf32_0 (by decide) ?_
      refine r_getI (ki := 2) a89_51 ty33 rfl ?_
      rw [h1]
      refine r_icge a89_54 (fun h_54 => ?_) (fun h_54 => ?_)
      · refine r_pushI a89_74 ?_
        refine r_retIq a89_75 ?_
        exact ⟨kc, hf⟩
      · exfalso
        omega
    | succ c ih =>
      intro j m1 hk hj h0 kc ht hf
      have hC1 := CpC_K kc hC
      have h1 : m1 33 2 = s 1 := hC1.2.1.2.2.1.1
      have hf2 : (if decide (plc (tN s cl) j (s 1).toNat = k) = true then j else firstI (fun i => decide (plc (tN s cl) i (s 1).toNat = k)) (-1) c (j + 1)) = aRank s cl k := hf
      refine r_loadI a89_46 rfl ?_
      refine r_loadA a89_47 rfl (by decide) ?_
      refine r_getR a89_48 ty32 rf32_0 (by decide) ?_
      refine r_getI (ki := 2) a89_51 ty33 rfl ?_
      rw [h1]
      refine r_icge a89_54 (fun h_54 => ?_) (fun h_54 => ?_)
      · exfalso
        omega
      · refine r_loadA a89_57 rfl (by decide) ?_
        refine r_loadI a89_58 rfl ?_
        refine r_callI_2 a89_59 (Nat.le_of_ble_eq_true rfl) (le_mx mx116 (Nat.le_of_ble_eq_true rfl)) (Or.inr (recv_ok ty32 ow116 (by decide))) (c_Fg_placeOf e z m1 s cl (tN s cl) j hC1 ⟨h0, by omega⟩ ht) (fun x_59 m_59 h_59 => ?_)
        obtain ⟨hm_59, h_59⟩ := h_59
        rw [hm_59]
        refine r_loadI a89_62 rfl ?_
        refine r_icne a89_63 (fun h_63 => ?_) (fun h_63 => ?_)
        · rw [if_neg (by rw [decide_eq_true_iff]; omega)] at hf2
          refine r_iinc_2 a89_68 rfl (by omega) ?_
          refine r_goto a89_71 ?_
          exact ih (j + 1) m1 hk (by omega) (by omega) kc ht hf2
        · refine r_loadI a89_66 rfl ?_
          refine r_retIq a89_67 ?_
          refine ⟨kc, ?_⟩
          rw [if_pos (by rw [decide_eq_true_iff]; omega)] at hf2
          exact hf2
  have loop1 : ∀ (c : Nat) (j : Int) (m1 : XM), sk s k → j + c = s 1 → 0 ≤ j → KC m m1 → (∀ i, 0 ≤ i → i < j → m1 120 i = tN s cl i) →
      RZ (e + 1) k_Fg_rank 12 [vR 32, vI k, vI j] [] (zH z m1) (qz z (qi fun x m' => KC m m' ∧ x = aRank s cl k)) := by
    intro c
    induction c with
    | zero =>
      intro j m1 hk hj h0 kc ht
      have h1 : m1 33 2 = s 1 := (CpC_K kc hC).2.1.2.2.1.1
      refine r_loadI a89_12 rfl ?_
      refine r_loadA a89_13 rfl (by decide) ?_
      refine r_getR a89_14 ty32 rf32_0 (by decide) ?_
      refine r_getI (ki := 2) a89_17 ty33 rfl ?_
      rw [h1]
      refine r_icge a89_20 (fun h_20 => ?_) (fun h_20 => ?_)
      · refine r_pushI a89_44 ?_
        refine r_storeI_2 a89_45 rfl ?_
        refine loop2 (s 1).toNat 0 m1 hk (by omega) (by omega) kc (fun i a b => ht i a (by omega)) ?_
        unfold aRank; rw [if_neg (fun q => q hk)]
      · exfalso
        omega
    | succ c ih =>
      intro j m1 hk hj h0 kc ht
      have hC1 := CpC_K kc hC
      have h1 : m1 33 2 = s 1 := hC1.2.1.2.2.1.1
      refine r_loadI a89_12 rfl ?_
      refine r_loadA a89_13 rfl (by decide) ?_
      refine r_getR a89_14 ty32 rf32_0 (by decide) ?_
      refine r_getI (ki := 2) a89_17 ty33 rfl ?_
      rw [h1]
      refine r_icge a89_20 (fun h_20 => ?_) (fun h_20 => ?_)
      · exfalso
        omega
      · refine r_loadA a89_23 rfl (by decide) ?_
        refine r_getR a89_24 ty32 rf32_9 (by decide) ?_
        refine r_loadI a89_27 rfl ?_
        refine r_loadA a89_28 rfl (by decide) ?_
        refine r_loadA a89_29 rfl (by decide) ?_
        refine r_getR a89_30 ty32 rf32_4 (by decide) ?_
        refine r_loadI a89_33 rfl ?_
        refine r_callI_3 a89_34 (Nat.le_of_ble_eq_true rfl) (le_mx mx110 (Nat.le_of_ble_eq_true rfl)) (Or.inr (recv_ok ty32 ow110 (by decide))) (c_Fg_leastTime_85 e z m1 s cl j (by omega) hC1 ⟨h0, by omega⟩) (fun x_34 m_34 h_34 => ?_)
        refine r_iast a89_37 ty120 (by omega) ?_
        obtain ⟨f1, _, _, q⟩ := h_34
        refine r_iinc_2 a89_38 rfl (by omega) ?_
        refine r_goto a89_41 ?_
        refine ih (j + 1) _ hk (by omega) (by omega) (KC.trans kc (KC.trans (FrT_85 f1) ⟨fun c c1 c2 c3 => up2_c c3, by rw [up2_c (by decide)], by rw [up2_c (by decide)]⟩)) (fun i a b => ?_)
        by_cases e : i = j
        · rw [e, up2_s]; exact q
        · rw [up2_k e, f1.1 120 (by decide) (by decide)]; exact ht i a (by omega)
  refine r_entry mx89 rfl ?_
  refine r_loadA a89_0 rfl (by decide) ?_
  refine r_loadI a89_1 rfl ?_
  refine r_callI_2 a89_2 (Nat.le_of_ble_eq_true rfl) (le_mx mx104 (Nat.le_of_ble_eq_true rfl)) (Or.inr (recv_ok ty32 ow104 (by decide))) (c_Fg_noSkier e z m s cl hC k) (fun x_2 m_2 h_2 => ?_)
  obtain ⟨hm_2, h_2⟩ := h_2
  rw [hm_2]
  refine r_ifeq a89_5 (fun h_5 => ?_) (fun h_5 => ?_)
  · refine r_pushI a89_10 ?_
    refine r_storeI_2 a89_11 rfl ?_
    exact loop1 (s 1).toNat 0 m ((skD h_2).1 (by omega)) (by omega) (by omega) (KC.refl m) (fun i a b => by omega)
  · refine r_pushI a89_8 ?_
    refine r_retIq a89_9 ?_
    exact ⟨KC.refl m, by unfold aRank; rw [if_pos ((skD h_2).2 h_5)]⟩
def sumN (s : Int → Int) (cl : CLs) : Nat → Int
  | 0 => 0
  | n + 1 => sumN s cl n + tN s cl n
theorem tN_r {s : Int → Int} {cl : CLs} (hS : okS s) (hc : ∀ c ∈ cl, okC c) (hl : cl.length ≤ 10) (j : Int) : 0 ≤ tN s cl j ∧ tN s cl j ≤ 147000 := tQ_r hS hc hl hS.1.2.2.2.2.2.2.2
theorem sumN_r {s : Int → Int} {cl : CLs} (hS : okS s) (hc : ∀ c ∈ cl, okC c) (hl : cl.length ≤ 10) : ∀ n : Nat, 0 ≤ sumN s cl n ∧ sumN s cl n ≤ 147000 * n := by
  intro n
  induction n with
  | zero => show 0 ≤ (0 : Int) ∧ (0 : Int) ≤ 147000 * ((0 : Nat) : Int); omega
  | succ n ih =>
    have := tN_r hS hc hl n
    show 0 ≤ sumN s cl n + tN s cl n ∧ sumN s cl n + tN s cl n ≤ 147000 * ((n + 1 : Nat) : Int)
    push_cast; omega
def aMean (s : Int → Int) (cl : CLs) (p : Int) : Int := if (0 ≤ p ∧ p ≤ 1) ∧ s 1 ≠ 0 then lowQ (sumN s cl (s 1).toNat) (s 1) p else MINL
theorem c_Fg_mean (d z : Nat) (m : XM) (s : Int → Int) (cl : CLs) (p : Int) (hd : 8 ≤ d) (hC : CpC m s cl) :
    CL d k_Fg_mean z m [vR 32, vI p] (fun x m' => KC m m' ∧ x = aMean s cl p) := by
  obtain ⟨e, rfl⟩ : ∃ e, d = e + 1 := ⟨d - 1, by omega⟩
  have hN := hC.1.1.2.1
  have h1 : m 33 2 = s 1 := hC.2.1.2.2.1.1
  have sr := sumN_r hC.1 hC.2.2.1.2.1 hC.2.2.1.2.2
  have loop : ∀ (c j : Nat) (m1 : XM), (0 ≤ p ∧ p ≤ 1) → s 1 ≠ 0 → (j : Int) + c = s 1 → KC m m1 →
      RZ (e + 1) k_Fg_mean 26 [vR 32, vI p, vL (sumN s cl j), vR 0, vI (j : Int)] [] (zH z m1) (qz z (ql fun x m' => KC m m' ∧ x = aMean s cl p)) := by
    intro c
    induction c with
    | zero =>
      intro j m1 hp hn hj kc
      have h1 : m1 33 2 = s 1 := (CpC_K kc hC).2.1.2.2.1.1
      have ej : (s 1).toNat = j := by omega
      have srj := sr j
      obtain ⟨an, han⟩ : ∃ n : Nat, sumN s cl j = n := ⟨(sumN s cl j).toNat, by omega⟩
      obtain ⟨bn, hbn⟩ : ∃ n : Nat, s 1 = n := ⟨(s 1).toNat, by omega⟩
      refine r_loadI a90_26 rfl ?_
      refine r_loadA a90_28 rfl (by decide) ?_
      refine r_getR a90_29 ty32 rf32_0 (by decide) ?_
      refine r_getI (ki := 2) a90_32 ty33 rfl ?_
      rw [h1]
      refine r_icge a90_35 (fun h_35 => ?_) (fun h_35 => ?_)
      · refine r_loadL a90_58 rfl ?_
        refine r_loadA a90_59 rfl (by decide) ?_
        refine r_getR a90_60 ty32 rf32_0 (by decide) ?_
        refine r_getI (ki := 2) a90_63 ty33 rfl ?_
        rw [h1]
        refine r_i2l a90_66 ?_
        rw [han, hbn]
        refine r_loadI a90_67 rfl ?_
        refine r_callL_3 a90_68 (Nat.le_of_ble_eq_true rfl) (le_mx mx117 (Nat.le_of_ble_eq_true rfl)) (Or.inl rfl) (c_Fg_lowest e z m1 an bn p (by omega) (by omega)) (fun x_68 m_68 h_68 => ?_)
        obtain ⟨hm_68, h_68⟩ := h_68
        rw [hm_68]
        refine r_retLq a90_71 ?_
        refine ⟨kc, ?_⟩
        unfold aMean; rw [if_pos ⟨hp, hn⟩, ej, han, h_68, hbn]
      · exfalso
        omega
    | succ c ih =>
      intro j m1 hp hn hj kc
      have hC1 := CpC_K kc hC
      have h1 : m1 33 2 = s 1 := hC1.2.1.2.2.1.1
      have srj := sr j
      have tr := tN_r hC.1 hC.2.2.1.2.1 hC.2.2.1.2.2 j
      refine r_loadI a90_26 rfl ?_
      refine r_loadA a90_28 rfl (by decide) ?_
      refine r_getR a90_29 ty32 rf32_0 (by decide) ?_
      refine r_getI (ki := 2) a90_32 ty33 rfl ?_
      rw [h1]
      refine r_icge a90_35 (fun h_35 => ?_) (fun h_35 => ?_)
      · exfalso
        omega
      · refine r_loadL a90_38 rfl ?_
        refine r_loadA a90_39 rfl (by decide) ?_
        refine r_loadA a90_40 rfl (by decide) ?_
        refine r_getR a90_41 ty32 rf32_4 (by decide) ?_
        refine r_loadI a90_44 rfl ?_
        refine r_callI_3 a90_46 (Nat.le_of_ble_eq_true rfl) (le_mx mx110 (Nat.le_of_ble_eq_true rfl)) (Or.inr (recv_ok ty32 ow110 (by decide))) (c_Fg_leastTime_85 e z m1 s cl j (by omega) hC1 ⟨by omega, by omega⟩) (fun x_46 m_46 h_46 => ?_)
        obtain ⟨f1, _, _, q⟩ := h_46
        have q' : x_46 = tN s cl j := q
        rw [q']
        refine r_i2l a90_49 ?_
        refine r_ladd a90_50 (by omega) ?_
        refine r_storeL_2 a90_51 rfl ?_
        refine r_iinc_4 a90_52 rfl (by omega) ?_
        refine r_goto a90_55 ?_
        exact ih (j + 1) m_46 hp hn (by push_cast; omega) (KC.trans kc (FrT_85 f1))
  refine r_entry mx90 rfl ?_
  refine r_loadI a90_0 rfl ?_
  refine r_callI_1 a90_1 (Nat.le_of_ble_eq_true rfl) (le_mx mx105 (Nat.le_of_ble_eq_true rfl)) (Or.inl rfl) (c_Fg_noPart e z m p (by omega)) (fun x_1 m_1 h_1 => ?_)
  obtain ⟨hm_1, h_1⟩ := h_1
  rw [hm_1]
  refine r_ifne a90_4 (fun h_4 => ?_) (fun h_4 => ?_)
  · refine r_pushL a90_17 ?_
    refine r_retLq a90_20 ?_
    exact ⟨KC.refl m, by unfold aMean; rw [if_neg (by omega)]⟩
  · refine r_loadA a90_7 rfl (by decide) ?_
    refine r_getR a90_8 ty32 rf32_0 (by decide) ?_
    refine r_getI (ki := 2) a90_11 ty33 rfl ?_
    rw [h1]
    refine r_ifne a90_14 (fun h_14 => ?_) (fun h_14 => ?_)
    · refine r_pushL a90_21 ?_
      refine r_storeL_2 a90_22 rfl ?_
      refine r_pushI a90_23 ?_
      refine r_storeI_4 a90_24 rfl ?_
      exact loop (s 1).toNat 0 m (by omega) (by omega) (by omega) (KC.refl m)
    · refine r_pushL a90_17 ?_
      refine r_retLq a90_20 ?_
      exact ⟨KC.refl m, by unfold aMean; rw [if_neg (by omega)]⟩
/-- the gate that takes longest by plan -/
def slI (s : Int → Int) (cl : CLs) (k : Int) : Nat → Int × Int
  | 0 => (-5, -1)
  | n + 1 => if qTk s cl k (lnS s) n > (slI s cl k n).2 then ((n : Int), qTk s cl k (lnS s) n) else slI s cl k n
def aSlow (s : Int → Int) (cl : CLs) (k : Int) : Int := if ¬ sk s k then -1 else (slI s cl k (s 0).toNat).1
theorem c_Fg_slowest (d z : Nat) (m : XM) (s : Int → Int) (cl : CLs) (k : Int) (hd : 8 ≤ d) (hC : CpC m s cl) :
    CI d k_Fg_slowest z m [vR 32, vI k] (fun x m' => KC m m' ∧ x = aSlow s cl k) := by
  obtain ⟨e, rfl⟩ : ∃ e, d = e + 1 := ⟨d - 1, by omega⟩
  have hN := hC.1.1.1
  have loop : ∀ (c j : Nat) (m1 : XM), sk s k → (j : Int) + c = s 0 → KC m m1 → m1 85 0 = s 0 → GoP m1 85 (eO s cl k (s 7)) (eT s cl k (s 7) 1) (eB s cl k (s 7)) (lnS s) (s 0) →
      RZ (e + 1) k_Fg_slowest 23 [vR 32, vI k, vI (slI s cl k j).1, vI (slI s cl k j).2, vI (j : Int)] [] (zH z m1) (qz z (qi fun x m' => KC m m' ∧ x = aSlow s cl k)) := by
    intro c
    induction c with
    | zero =>
      intro j m1 hk hj kc e0 g
      have ej : (s 0).toNat = j := by omega
      refine r_loadI a91_23 rfl ?_
      refine r_loadA a91_25 rfl (by decide) ?_
      refine r_getR a91_26 ty32 rf32_4 (by decide) ?_
      refine r_getI (ki := 0) a91_29 ty85 rfl ?_
      rw [e0]
      refine r_icge a91_32 (fun h_32 => ?_) (fun h_32 => ?_)
      · refine r_loadI a91_69 rfl ?_
        refine r_retIq a91_70 ?_
        exact ⟨kc, by unfold aSlow; rw [if_neg (fun q => q hk), ej]⟩
      · exfalso
        omega
    | succ c ih =>
      intro j m1 hk hj kc e0 g
      have t1 : m1 96 (j : Int) = qTk s cl k (lnS s) j := (tk_at g (i := j) (by omega) (by omega)).1
      have eS : slI s cl k (j + 1) = if qTk s cl k (lnS s) j > (slI s cl k j).2 then ((j : Int), qTk s cl k (lnS s) j) else slI s cl k j := rfl
      refine r_loadI a91_23 rfl ?_
      refine r_loadA a91_25 rfl (by decide) ?_
      refine r_getR a91_26 ty32 rf32_4 (by decide) ?_
      refine r_getI (ki := 0) a91_29 ty85 rfl ?_
      rw [e0]
      refine r_icge a91_32 (fun h_32 => ?_) (fun h_32 => ?_)
      · exfalso
        omega
      · refine r_loadA a91_35 rfl (by decide) ?_
        refine r_getR a91_36 ty32 rf32_4 (by decide) ?_
        refine r_getR a91_39 ty85 rf85_11 (by decide) ?_
        refine r_loadI a91_42 rfl ?_
        refine r_iald a91_44 ty96 (by omega) ?_
        rw [t1]
        refine r_loadI a91_45 rfl ?_
        refine r_icle a91_46 (fun h_46 => ?_) (fun h_46 => ?_)
        · refine r_iinc_4 a91_63 rfl (by omega) ?_
          refine r_goto a91_66 ?_
          have q := ih (j + 1) m1 hk (by push_cast; omega) kc e0 g
          first
            | (rw [eS, if_pos (by omega)] at q; exact q)
            | (rw [eS, if_neg (by omega)] at q; exact q)
        · refine r_loadA a91_49 rfl (by decide) ?_
          refine r_getR a91_50 ty32 rf32_4 (by decide) ?_
          refine r_getR a91_53 ty85 rf85_11 (by decide) ?_
          refine r_loadI a91_56 rfl ?_
          refine r_iald a91_58 ty96 (by omega) ?_
          rw [t1]
          refine r_storeI_3 a91_59 rfl ?_
          refine r_loadI a91_60 rfl ?_
          refine r_storeI_2 a91_62 rfl ?_
          refine r_iinc_4 a91_63 rfl (by omega) ?_
          refine r_goto a91_66 ?_
          have q := ih (j + 1) m1 hk (by push_cast; omega) kc e0 g
          first
            | (rw [eS, if_pos (by omega)] at q; exact q)
            | (rw [eS, if_neg (by omega)] at q; exact q)
  refine r_entry mx91 rfl ?_
  refine r_loadA a91_0 rfl (by decide) ?_
  refine r_loadI a91_1 rfl ?_
  refine r_callI_2 a91_2 (Nat.le_of_ble_eq_true rfl) (le_mx mx104 (Nat.le_of_ble_eq_true rfl)) (Or.inr (recv_ok ty32 ow104 (by decide))) (c_Fg_noSkier e z m s cl hC k) (fun x_2 m_2 h_2 => ?_)
  obtain ⟨hm_2, h_2⟩ := h_2
  rw [hm_2]
  refine r_ifeq a91_5 (fun h_5 => ?_) (fun h_5 => ?_)
  · refine r_loadA a91_10 rfl (by decide) ?_
    refine r_loadI a91_11 rfl ?_
    have hk := (skD h_2).1 (by omega)
    refine r_callV_2 a91_12 (Nat.le_of_ble_eq_true rfl) (le_mx mx109 (Nat.le_of_ble_eq_true rfl)) (Or.inr (recv_ok ty32 ow109 (by decide))) (c_Fg_goByTheLine e z m s cl k (by omega) hC hk) (fun m_12 h_12 => ?_)
    refine r_pushI a91_15 ?_
    refine r_storeI_2 a91_17 rfl ?_
    refine r_pushI a91_18 ?_
    refine r_storeI_3 a91_19 rfl ?_
    refine r_pushI a91_20 ?_
    refine r_storeI_4 a91_21 rfl ?_
    exact loop (s 0).toNat 0 m_12 hk (by omega) h_12.1 h_12.2.1 h_12.2.2
  · refine r_pushI a91_8 ?_
    refine r_retIq a91_9 ?_
    exact ⟨KC.refl m, by unfold aSlow; rw [if_pos ((skD h_2).2 h_5)]⟩
theorem c_Fg_linesThatFit (d z : Nat) (m : XM) (s : Int → Int) (cl : CLs) (k : Int) (hd : 19 ≤ d) (hC : CpC m s cl) (hk : sk s k) :
    CI d k_Fg_linesThatFit z m [vR 32, vI k] (fun x m' => KC m m' ∧ m' 85 0 = s 0 ∧ x = sMa (fQ s cl k) ∧ 0 ≤ sMa (fQ s cl k) ∧ (0 < sMa (fQ s cl k) → ∀ i, 0 ≤ i → i < s 0 → m' 115 i = sBe (fQ s cl k) i)) := by
  obtain ⟨e, rfl⟩ : ∃ e, d = e + 1 := ⟨d - 1, by omega⟩
  have h7 : m 33 3 = s 7 := hC.2.1.2.2.1.2.1
  have r7 := hC.1.1.2.2.2.2.2.2.2
  have hseen := hC.2.1.2.2.2.2.2.1
  refine r_entry mx115 rfl ?_
  refine r_loadA a115_0 rfl (by decide) ?_
  refine r_getR a115_1 ty32 rf32_4 (by decide) ?_
  refine r_loadA a115_4 rfl (by decide) ?_
  refine r_getR a115_5 ty32 rf32_0 (by decide) ?_
  refine r_loadI a115_8 rfl ?_
  refine r_loadA a115_9 rfl (by decide) ?_
  refine r_getR a115_10 ty32 rf32_0 (by decide) ?_
  refine r_getI (ki := 3) a115_13 ty33 rfl ?_
  rw [h7]
  refine r_pushI a115_16 ?_
  refine r_callV_5 a115_17 (Nat.le_of_ble_eq_true rfl) (le_mx mx25 (Nat.le_of_ble_eq_true rfl)) (Or.inr (recv_ok ty85 ow25 (by decide))) (c_Pa_ready_85 e z m s cl k (s 7) 1 (by omega) hC hk r7 (by omega)) (fun m_17 h_17 => ?_)
  obtain ⟨f1, q1⟩ := h_17
  refine r_loadA a115_20 rfl (by decide) ?_
  refine r_getR a115_21 ty32 rf32_7 (by decide) ?_
  refine r_loadA a115_24 rfl (by decide) ?_
  refine r_getR a115_25 ty32 rf32_4 (by decide) ?_
  refine r_loadA a115_28 rfl (by decide) ?_
  refine r_getR a115_29 ty32 rf32_0 (by decide) ?_
  refine r_getR a115_32 ty33 rf33_7 (by decide) ?_
  refine r_callI_3 a115_35 (Nat.le_of_ble_eq_true rfl) (le_mx mx17 (Nat.le_of_ble_eq_true rfl)) (Or.inr (recv_ok ty114 ow17 (by decide))) (c_Ma_search e z m_17 s (eO s cl k (s 7)) (eT s cl k (s 7) 1) (eB s cl k (s 7)) 0 (by omega) hC.1 (eRg hC.1 hC.2.2.1.2.1 hC.2.2.1.2.2 r7) q1.1 q1.2.1 (by rw [f1.1 49 (by decide) (by decide)]; exact hseen.1) (fun k a b => by rw [f1.1 50 (by decide) (by decide), f1.1 51 (by decide) (by decide)]; exact hseen.2 k a b)) (fun x_35 m_35 h_35 => ?_)
  refine r_retIq a115_38 ?_
  obtain ⟨g1, g2, g3⟩ := h_35
  refine ⟨KC.trans (FrT_85 f1) ⟨fun c c1 c2 c3 => g1 c (by omega) (by omega) (by omega) (by omega), by rw [g1 90 (by decide) (by decide) (by decide) (by decide)], by rw [g1 103 (by decide) (by decide) (by decide) (by decide)]⟩, ?_, g3, g2.2.2.1, g2.2.2.2⟩
  rw [g1 85 (by decide) (by decide) (by decide) (by decide)]; exact q1.1
def aFits (s : Int → Int) (cl : CLs) (k i : Int) : Int := if ¬ (sk s k ∧ -1 ≤ i ∧ i ≤ 6) then -1 else if i = -1 then sMa (fQ s cl k) else if 0 < sMa (fQ s cl k) ∧ i < s 0 then sBe (fQ s cl k) i else -5
theorem c_Fg_fits (d z : Nat) (m : XM) (s : Int → Int) (cl : CLs) (k i : Int) (hd : 20 ≤ d) (hC : CpC m s cl) :
    CI d k_Fg_fits z m [vR 32, vI k, vI i] (fun x m' => KC m m' ∧ x = aFits s cl k i) := by
  obtain ⟨e, rfl⟩ : ∃ e, d = e + 1 := ⟨d - 1, by omega⟩
  have hN := hC.1.1.1
  refine r_entry mx93 rfl ?_
  refine r_loadA a93_0 rfl (by decide) ?_
  refine r_loadI a93_1 rfl ?_
  refine r_callI_2 a93_2 (Nat.le_of_ble_eq_true rfl) (le_mx mx104 (Nat.le_of_ble_eq_true rfl)) (Or.inr (recv_ok ty32 ow104 (by decide))) (c_Fg_noSkier e z m s cl hC k) (fun x_2 m_2 h_2 => ?_)
  obtain ⟨hm_2, h_2⟩ := h_2
  rw [hm_2]
  refine r_ifne a93_5 (fun h_5 => ?_) (fun h_5 => ?_)
  · refine r_pushI a93_18 ?_
    refine r_retIq a93_19 ?_
    refine ⟨KC.refl m, ?_⟩
    unfold aFits; rw [if_pos]
    rintro ⟨a, b⟩
    first
      | exact (skD h_2).2 h_5 a
      | omega
  · refine r_loadI a93_8 rfl ?_
    refine r_pushI a93_9 ?_
    refine r_pushI a93_10 ?_
    refine r_callI_3 a93_12 (Nat.le_of_ble_eq_true rfl) (le_mx mx106 (Nat.le_of_ble_eq_true rfl)) (Or.inl rfl) (c_Fg_outside e z m i (-1) 6) (fun x_12 m_12 h_12 => ?_)
    obtain ⟨hm_12, h_12⟩ := h_12
    rw [hm_12]
    refine r_ifeq a93_15 (fun h_15 => ?_) (fun h_15 => ?_)
    · have hk := (skD h_2).1 (by omega)
      have hw : aFits s cl k i = if i = -1 then sMa (fQ s cl k) else if 0 < sMa (fQ s cl k) ∧ i < s 0 then sBe (fQ s cl k) i else -5 := by
        unfold aFits; rw [if_neg (fun q => q ⟨hk, by omega⟩)]
      refine r_loadA a93_20 rfl (by decide) ?_
      refine r_loadI a93_21 rfl ?_
      refine r_callI_2 a93_22 (Nat.le_of_ble_eq_true rfl) (le_mx mx115 (Nat.le_of_ble_eq_true rfl)) (Or.inr (recv_ok ty32 ow115 (by decide))) (c_Fg_linesThatFit e z m s cl k (by omega) hC hk) (fun x_22 m_22 h_22 => ?_)
      obtain ⟨g1, g2, g3, g4, g5⟩ := h_22
      rw [g3]
      refine r_storeI_3 a93_25 rfl ?_
      refine r_loadI a93_26 rfl ?_
      refine r_pushI a93_27 ?_
      refine r_icne a93_28 (fun h_28 => ?_) (fun h_28 => ?_)
      · refine r_loadI a93_33 rfl ?_
        refine r_ifeq a93_34 (fun h_34 => ?_) (fun h_34 => ?_)
        · refine r_pushI a93_48 ?_
          refine r_goto a93_50 ?_
          refine r_retIq a93_62 ?_
          refine ⟨g1, ?_⟩
          rw [hw, if_neg (by omega)]
          first
            | rw [if_neg (by omega)]
            | (rw [if_pos (by omega)]; exact g5 (by omega) i (by omega) (by omega))
        · refine r_loadI a93_37 rfl ?_
          refine r_loadA a93_38 rfl (by decide) ?_
          refine r_getR a93_39 ty32 rf32_4 (by decide) ?_
          refine r_getI (ki := 0) a93_42 ty85 rfl ?_
          rw [g2]
          refine r_iclt a93_45 (fun h_45 => ?_) (fun h_45 => ?_)
          · refine r_loadA a93_53 rfl (by decide) ?_
            refine r_getR a93_54 ty32 rf32_7 (by decide) ?_
            refine r_getR a93_57 ty114 rf114_0 (by decide) ?_
            refine r_loadI a93_60 rfl ?_
            refine r_iald a93_61 ty115 (by omega) ?_
            refine r_retIq a93_62 ?_
            refine ⟨g1, ?_⟩
            rw [hw, if_neg (by omega)]
            first
              | rw [if_neg (by omega)]
              | (rw [if_pos (by omega)]; exact g5 (by omega) i (by omega) (by omega))
          · refine r_pushI a93_48 ?_
            refine r_goto a93_50 ?_
            refine r_retIq a93_62 ?_
            refine ⟨g1, ?_⟩
            rw [hw, if_neg (by omega)]
            first
              | rw [if_neg (by omega)]
              | (rw [if_pos (by omega)]; exact g5 (by omega) i (by omega) (by omega))
      · refine r_loadI a93_31 rfl ?_
        refine r_retIq a93_32 ?_
        exact ⟨g1, by rw [hw, if_pos (by omega)]⟩
    · refine r_pushI a93_18 ?_
      refine r_retIq a93_19 ?_
      refine ⟨KC.refl m, ?_⟩
      unfold aFits; rw [if_pos]
      rintro ⟨a, b⟩
      first
        | exact (skD h_2).2 h_5 a
        | omega
def whoI (s : Int → Int) (cl : CLs) : Nat → Int
  | 0 => 0
  | n + 1 => if 0 < sMa (fQ s cl n) then iOr (whoI s cl n) (iShl 1 n) else whoI s cl n
theorem c_Fg_who (d z : Nat) (m : XM) (s : Int → Int) (cl : CLs) (hd : 20 ≤ d) (hC : CpC m s cl) :
    CI d k_Fg_who z m [vR 32] (fun x m' => KC m m' ∧ x = whoI s cl (s 1).toNat) := by
  obtain ⟨e, rfl⟩ : ∃ e, d = e + 1 := ⟨d - 1, by omega⟩
  have hN := hC.1.1.2.1
  have loop : ∀ (c j : Nat) (m1 : XM), (j : Int) + c = s 1 → KC m m1 →
      RZ (e + 1) k_Fg_who 4 [vR 32, vI (whoI s cl j), vI (j : Int)] [] (zH z m1) (qz z (qi fun x m' => KC m m' ∧ x = whoI s cl (s 1).toNat)) := by
    intro c
    induction c with
    | zero =>
      intro j m1 hj kc
      have h1 : m1 33 2 = s 1 := (CpC_K kc hC).2.1.2.2.1.1
      have ej : (s 1).toNat = j := by omega
      refine r_loadI a94_4 rfl ?_
      refine r_loadA a94_5 rfl (by decide) ?_
      refine r_getR a94_6 ty32 rf32_0 (by decide) ?_
      refine r_getI (ki := 2) a94_9 ty33 rfl ?_
      rw [h1]
      refine r_icge a94_12 (fun h_12 => ?_) (fun h_12 => ?_)
      · refine r_loadI a94_35 rfl ?_
        refine r_retIq a94_36 ?_
        exact ⟨kc, by rw [ej]⟩
      · exfalso
        omega
    | succ c ih =>
      intro j m1 hj kc
      have hC1 := CpC_K kc hC
      have h1 : m1 33 2 = s 1 := hC1.2.1.2.2.1.1
      have eS : whoI s cl (j + 1) = if 0 < sMa (fQ s cl j) then iOr (whoI s cl j) (iShl 1 j) else whoI s cl j := rfl
      refine r_loadI a94_4 rfl ?_
      refine r_loadA a94_5 rfl (by decide) ?_
      refine r_getR a94_6 ty32 rf32_0 (by decide) ?_
      refine r_getI (ki := 2) a94_9 ty33 rfl ?_
      rw [h1]
      refine r_icge a94_12 (fun h_12 => ?_) (fun h_12 => ?_)
      · exfalso
        omega
      · refine r_loadA a94_15 rfl (by decide) ?_
        refine r_loadI a94_16 rfl ?_
        refine r_callI_2 a94_17 (Nat.le_of_ble_eq_true rfl) (le_mx mx115 (Nat.le_of_ble_eq_true rfl)) (Or.inr (recv_ok ty32 ow115 (by decide))) (c_Fg_linesThatFit e z m1 s cl j (by omega) hC1 ⟨by omega, by omega⟩) (fun x_17 m_17 h_17 => ?_)
        obtain ⟨g1, _, g3, _, _⟩ := h_17
        rw [g3]
        refine r_ifle a94_20 (fun h_20 => ?_) (fun h_20 => ?_)
        · refine r_iinc_2 a94_29 rfl (by omega) ?_
          refine r_goto a94_32 ?_
          have q := ih (j + 1) m_17 (by push_cast; omega) (KC.trans kc g1)
          first
            | (rw [eS, if_pos (by omega)] at q; exact q)
            | (rw [eS, if_neg (by omega)] at q; exact q)
        · refine r_loadI a94_23 rfl ?_
          refine r_pushI a94_24 ?_
          refine r_loadI a94_25 rfl ?_
          refine r_shl a94_26 ?_
          refine r_or a94_27 ?_
          refine r_storeI_1 a94_28 rfl ?_
          refine r_iinc_2 a94_29 rfl (by omega) ?_
          refine r_goto a94_32 ?_
          have q := ih (j + 1) m_17 (by push_cast; omega) (KC.trans kc g1)
          first
            | (rw [eS, if_pos (by omega)] at q; exact q)
            | (rw [eS, if_neg (by omega)] at q; exact q)
  refine r_entry mx94 rfl ?_
  refine r_pushI a94_0 ?_
  refine r_storeI_1 a94_1 rfl ?_
  refine r_pushI a94_2 ?_
  refine r_storeI_2 a94_3 rfl ?_
  exact loop (s 1).toNat 0 m (by omega) (KC.refl m)
def aLooked (s : Int → Int) (cl : CLs) : Int := firstI (fun i => decide (tN s cl (s (83 + i)) ≠ s (91 + i))) (-5) (s 4).toNat 0
theorem c_Fg_looked (d z : Nat) (m : XM) (s : Int → Int) (cl : CLs) (hd : 8 ≤ d) (hC : CpC m s cl) :
    CI d k_Fg_looked z m [vR 32] (fun x m' => KC m m' ∧ x = aLooked s cl) := by
  obtain ⟨e, rfl⟩ : ∃ e, d = e + 1 := ⟨d - 1, by omega⟩
  have h4 := hC.1.1.2.2.2.2.1
  have loop : ∀ (c : Nat) (j : Int) (m1 : XM), j + c = s 4 → 0 ≤ j → KC m m1 → firstI (fun i => decide (tN s cl (s (83 + i)) ≠ s (91 + i))) (-5) c j = aLooked s cl →
      RZ (e + 1) k_Fg_looked 2 [vR 32, vI j] [] (zH z m1) (qz z (qi fun x m' => KC m m' ∧ x = aLooked s cl)) := by
    intro c
    induction c with
    | zero =>
      intro j m1 hj h0 kc hf
      have hb := (CpC_K kc hC).2.1.2.2.2.2.2.2
      have b0 : m1 52 0 = s 4 := hb.1
      refine r_loadI a96_2 rfl ?_
      refine r_loadA a96_3 rfl (by decide) ?_
      refine r_getR a96_4 ty32 rf32_0 (by decide) ?_
      refine r_getR a96_7 ty33 rf33_8 (by decide) ?_
      refine r_getI (ki := 0) a96_10 ty52 rfl ?_
      rw [b0]
      refine r_icge a96_13 (fun h_13 => ?_) (fun h_13 => ?_)
      · refine r_pushI a96_59 ?_
        refine r_retIq a96_61 ?_
        exact ⟨kc, hf⟩
      · exfalso
        omega
    | succ c ih =>
      intro j m1 hj h0 kc hf
      have hC1 := CpC_K kc hC
      have hb := hC1.2.1.2.2.2.2.2.2
      have b0 : m1 52 0 = s 4 := hb.1
      have bj : m1 53 j = s (83 + j) ∧ m1 54 j = s (91 + j) := hb.2 j h0 (by omega)
      have hs := (hC.1.2.2.2.2.2.1 j h0 (by omega)).1
      have hs2 := hs.2 (by omega)
      have hf2 : (if decide (tN s cl (s (83 + j)) ≠ s (91 + j)) = true then j else firstI (fun i => decide (tN s cl (s (83 + i)) ≠ s (91 + i))) (-5) c (j + 1)) = aLooked s cl := hf
      refine r_loadI a96_2 rfl ?_
      refine r_loadA a96_3 rfl (by decide) ?_
      refine r_getR a96_4 ty32 rf32_0 (by decide) ?_
      refine r_getR a96_7 ty33 rf33_8 (by decide) ?_
      refine r_getI (ki := 0) a96_10 ty52 rfl ?_
      rw [b0]
      refine r_icge a96_13 (fun h_13 => ?_) (fun h_13 => ?_)
      · exfalso
        omega
      · refine r_loadA a96_16 rfl (by decide) ?_
        refine r_loadA a96_17 rfl (by decide) ?_
        refine r_getR a96_18 ty32 rf32_4 (by decide) ?_
        refine r_loadA a96_21 rfl (by decide) ?_
        refine r_getR a96_22 ty32 rf32_0 (by decide) ?_
        refine r_getR a96_25 ty33 rf33_8 (by decide) ?_
        refine r_getR a96_28 ty52 rf52_1 (by decide) ?_
        refine r_loadI a96_31 rfl ?_
        refine r_iald a96_32 ty53 (by omega) ?_
        rw [bj.1]
        refine r_callI_3 a96_33 (Nat.le_of_ble_eq_true rfl) (le_mx mx110 (Nat.le_of_ble_eq_true rfl)) (Or.inr (recv_ok ty32 ow110 (by decide))) (c_Fg_leastTime_85 e z m1 s cl (s (83 + j)) (by omega) hC1 ⟨hs.1, hs2⟩) (fun x_33 m_33 h_33 => ?_)
        obtain ⟨f1, _, _, q⟩ := h_33
        have q' : x_33 = tN s cl (s (83 + j)) := q
        rw [q']
        have e54 : m_33 54 j = s (91 + j) := by rw [f1.1 54 (by decide) (by decide)]; exact bj.2
        refine r_loadA a96_36 rfl (by decide) ?_
        refine r_getR a96_37 ty32 rf32_0 (by decide) ?_
        refine r_getR a96_40 ty33 rf33_8 (by decide) ?_
        refine r_getR a96_43 ty52 rf52_2 (by decide) ?_
        refine r_loadI a96_46 rfl ?_
        refine r_iald a96_47 ty54 (by omega) ?_
        rw [e54]
        refine r_iceq a96_48 (fun h_48 => ?_) (fun h_48 => ?_)
        · rw [if_neg (by rw [decide_eq_true_iff]; omega)] at hf2
          refine r_iinc_1 a96_53 rfl (by omega) ?_
          refine r_goto a96_56 ?_
          exact ih (j + 1) m_33 (by omega) (by omega) (KC.trans kc (FrT_85 f1)) hf2
        · refine r_loadI a96_51 rfl ?_
          refine r_retIq a96_52 ?_
          refine ⟨KC.trans kc (FrT_85 f1), ?_⟩
          rw [if_pos (by rw [decide_eq_true_iff]; exact h_48)] at hf2
          exact hf2
  refine r_entry mx96 rfl ?_
  refine r_pushI a96_0 ?_
  refine r_storeI_1 a96_1 rfl ?_
  exact loop (s 4).toNat 0 m (by omega) (by omega) (KC.refl m) rfl
def tS (s : Int → Int) (cl : CLs) (k : Int) (od : Int → Int) : Int := (LC (rO s cl k (s 7) od) (rT s cl k (s 7) 1 od) (rB s cl k (s 7) od) ((0 : Int) = 1) (s 0).toNat 0 3).1
def swp (i j : Int) : Int → Int := upi (upi idn i j) j i
def setL (s : Int → Int) (cl : CLs) (a b : Int) (od : Int → Int) : Int := tS s cl a od - tS s cl b od
def setU (s : Int → Int) (cl : CLs) (a b i j : Int) (st : Int × Int) : Int × Int := if setL s cl a b (swp i j) < st.1 then (setL s cl a b (swp i j), 10 * i + j) else st
def setI (s : Int → Int) (cl : CLs) (a b i : Int) (n : Nat) (st : Int × Int) : Int × Int := foldI (fun j st => setU s cl a b i j st) (i + 1) n st
def setO (s : Int → Int) (cl : CLs) (a b : Int) (n : Nat) (st : Int × Int) : Int × Int := foldI (fun i st => setI s cl a b i (s 0 - i - 1).toNat st) 0 n st
def aSet (s : Int → Int) (cl : CLs) (a b : Int) : Int := if ¬ (sk s a ∧ sk s b) then -1 else if a = b then -2 else (setO s cl a b (s 0).toNat (setL s cl a b idn, -5)).2
theorem swp_at {i j x : Int} (hij : i < j) : swp i j x = if x = j then i else if x = i then j else x := rfl
theorem tS_r {s : Int → Int} {cl : CLs} {k : Int} {od : Int → Int} (hS : okS s) (hc : ∀ c ∈ cl, okC c) (hl : cl.length ≤ 10) (ho : ∀ i, 0 ≤ i → i < s 0 → 0 ≤ od i ∧ od i < s 0) : 0 ≤ tS s cl k od ∧ tS s cl k od ≤ 147000 := by
  have hN := hS.1.1
  have hR := RgE_o (od := od) ho (eRg (k := k) (w := 1) hS hc hl hS.1.2.2.2.2.2.2.2)
  have h1 := LC_r ((0 : Int) = 1) hR (s 0).toNat 0 3 (by omega) (by omega) (by omega) (by omega)
  have h2 := (LC_up ((0 : Int) = 1) hR (by omega) (s 0).toNat 0 3 (by omega) (by omega) (by omega) (by omega)).2 (by decide)
  unfold tS rO rT rB
  omega
def FrX (m m' : XM) : Prop := (∀ x, ¬ (85 ≤ x ∧ x ≤ 94) → ¬ (98 ≤ x ∧ x ≤ 107) → x ≠ 48 → m' x = m x) ∧ m' 90 3 = m 90 3 ∧ m' 103 3 = m 103 3
theorem FrX_K {m m' : XM} (h : FrX m m') : KC m m' := ⟨fun c c1 c2 c3 => h.1 c (by omega) (by omega) c2, h.2.1, h.2.2⟩
theorem c_Fg_aheadIfChanged (d z : Nat) (m : XM) (s : Int → Int) (cl : CLs) (a b i j : Int) (hd : 4 ≤ d) (hC : CpC m s cl) (h1 : Rdy m 85 s cl a (s 7) 1) (h2 : Rdy m 98 s cl b (s 7) 1) (hi : 0 ≤ i ∧ i < j ∧ j < s 0) :
    CI d k_Fg_aheadIfChanged z m [vR 32, vI i, vI j] (fun x m' => KC m m' ∧ Rdy m' 85 s cl a (s 7) 1 ∧ Rdy m' 98 s cl b (s 7) 1 ∧ x = setL s cl a b (swp i j)) := by
  obtain ⟨e, rfl⟩ : ∃ e, d = e + 1 := ⟨d - 1, by omega⟩
  have hN := hC.1.1.1
  have r7 := hC.1.1.2.2.2.2.2.2.2
  have ro : ∀ x, 0 ≤ x → x < s 0 → 0 ≤ swp i j x ∧ swp i j x < s 0 := by
    intro x a b
    rw [swp_at hi.2.1]
    (repeat' split) <;> omega
  obtain ⟨p1, p2, p3⟩ := h1
  obtain ⟨u1, u2, u3⟩ := h2
  have p3' : ∀ x, 0 ≤ x → x < s 0 → m 86 x = x := p3
  have u3' : ∀ x, 0 ≤ x → x < s 0 → m 99 x = x := u3
  have row : ∀ f : Int → Int, (∀ x, 0 ≤ x → x < s 0 → f x = x) → ∀ x, 0 ≤ x → x < s 0 → upi (upi f i (f j)) j (f i) x = swp i j x := by
    intro f hf x x1 x2
    rw [swp_at hi.2.1, upi_at, upi_at, hf i (by omega) (by omega), hf j (by omega) (by omega), hf x x1 x2]
  have back : ∀ f : Int → Int, (∀ x, 0 ≤ x → x < s 0 → f x = swp i j x) → ∀ x, 0 ≤ x → x < s 0 → upi (upi f i (f j)) j (f i) x = x := by
    intro f hf x x1 x2
    rw [upi_at, upi_at, hf i (by omega) (by omega), hf j (by omega) (by omega), hf x x1 x2, swp_at hi.2.1, swp_at hi.2.1, swp_at hi.2.1]
    (repeat' split) <;> omega
  have ta := tS_r (k := a) hC.1 hC.2.2.1.2.1 hC.2.2.1.2.2 ro
  have tb := tS_r (k := b) hC.1 hC.2.2.1.2.1 hC.2.2.1.2.2 ro
  refine r_entry mx114 rfl ?_
  refine r_loadA a114_0 rfl (by decide) ?_
  refine r_getR a114_1 ty32 rf32_4 (by decide) ?_
  refine r_loadI a114_4 rfl ?_
  refine r_loadI a114_5 rfl ?_
  refine r_callV_3 a114_6 (Nat.le_of_ble_eq_true rfl) (le_mx mx36 (Nat.le_of_ble_eq_true rfl)) (Or.inr (recv_ok ty85 ow36 (by decide))) (c_Pa_changePlaces_85 e z m i j (by omega) (by omega)) (fun m_6 h_6 => ?_)
  refine r_loadA a114_9 rfl (by decide) ?_
  refine r_getR a114_10 ty32 rf32_5 (by decide) ?_
  refine r_loadI a114_13 rfl ?_
  refine r_loadI a114_14 rfl ?_
  refine r_callV_3 a114_15 (Nat.le_of_ble_eq_true rfl) (le_mx mx36 (Nat.le_of_ble_eq_true rfl)) (Or.inr (recv_ok ty98 ow36 (by decide))) (c_Pa_changePlaces_98 e z m_6 i j (by omega) (by omega)) (fun m_15 h_15 => ?_)
  have f15 : ∀ x, x ≠ 86 → x ≠ 99 → m_15 x = m x := fun x x1 x2 => by rw [h_15, upC_n x2, h_6, upC_n x1]
  have e86 : ∀ x, 0 ≤ x → x < s 0 → m_15 86 x = swp i j x := fun x x1 x2 => by
    rw [h_15, upC_n (by decide), h_6, upC_s]; exact row _ p3' x x1 x2
  have e99 : ∀ x, 0 ≤ x → x < s 0 → m_15 99 x = swp i j x := fun x x1 x2 => by
    rw [h_15, upC_s, h_6, upC_n (by decide)]; exact row _ u3' x x1 x2
  refine r_loadA a114_18 rfl (by decide) ?_
  refine r_getR a114_19 ty32 rf32_4 (by decide) ?_
  refine r_pushI a114_22 ?_
  refine r_callI_2 a114_23 (Nat.le_of_ble_eq_true rfl) (le_mx mx38 (Nat.le_of_ble_eq_true rfl)) (Or.inr (recv_ok ty85 ow38 (by decide))) (c_Pa_solve_85 e z m_15 (eO s cl a (s 7)) (eT s cl a (s 7) 1) (eB s cl a (s 7)) (swp i j) (s 0) 0 (by omega) hN (by omega) (by rw [f15 85 (by decide) (by decide)]; exact p1) (TbE_cong (f15 (85 + 2) (by decide) (by decide)) (f15 (85 + 3) (by decide) (by decide)) (f15 (85 + 4) (by decide) (by decide)) p2) (eRg hC.1 hC.2.2.1.2.1 hC.2.2.1.2.2 r7) (fun x x1 x2 => ⟨e86 x x1 x2, ro x x1 x2⟩)) (fun x_23 m_23 h_23 => ?_)
  obtain ⟨f23, _, q23⟩ := h_23
  have q23' : x_23 = tS s cl a (swp i j) := q23
  rw [q23']
  refine r_loadA a114_26 rfl (by decide) ?_
  refine r_getR a114_27 ty32 rf32_5 (by decide) ?_
  refine r_pushI a114_30 ?_
  refine r_callI_2 a114_31 (Nat.le_of_ble_eq_true rfl) (le_mx mx38 (Nat.le_of_ble_eq_true rfl)) (Or.inr (recv_ok ty98 ow38 (by decide))) (c_Pa_solve_98 e z m_23 (eO s cl b (s 7)) (eT s cl b (s 7) 1) (eB s cl b (s 7)) (swp i j) (s 0) 0 (by omega) hN (by omega) (by rw [f23 98 (by decide) (by decide), f15 98 (by decide) (by decide)]; exact u1) (TbE_cong (by rw [f23 (98 + 2) (by decide) (by decide)]; exact f15 (98 + 2) (by decide) (by decide)) (by rw [f23 (98 + 3) (by decide) (by decide)]; exact f15 (98 + 3) (by decide) (by decide)) (by rw [f23 (98 + 4) (by decide) (by decide)]; exact f15 (98 + 4) (by decide) (by decide)) u2) (eRg hC.1 hC.2.2.1.2.1 hC.2.2.1.2.2 r7) (fun x x1 x2 => ⟨by rw [f23 99 (by decide) (by decide)]; exact e99 x x1 x2, ro x x1 x2⟩)) (fun x_31 m_31 h_31 => ?_)
  obtain ⟨f31, _, q31⟩ := h_31
  have q31' : x_31 = tS s cl b (swp i j) := q31
  rw [q31']
  refine r_sub a114_34 (by omega) ?_
  refine r_storeI_3 a114_35 rfl ?_
  refine r_loadA a114_36 rfl (by decide) ?_
  refine r_getR a114_37 ty32 rf32_4 (by decide) ?_
  refine r_loadI a114_40 rfl ?_
  refine r_loadI a114_41 rfl ?_
  refine r_callV_3 a114_42 (Nat.le_of_ble_eq_true rfl) (le_mx mx36 (Nat.le_of_ble_eq_true rfl)) (Or.inr (recv_ok ty85 ow36 (by decide))) (c_Pa_changePlaces_85 e z m_31 i j (by omega) (by omega)) (fun m_42 h_42 => ?_)
  refine r_loadA a114_45 rfl (by decide) ?_
  refine r_getR a114_46 ty32 rf32_5 (by decide) ?_
  refine r_loadI a114_49 rfl ?_
  refine r_loadI a114_50 rfl ?_
  refine r_callV_3 a114_51 (Nat.le_of_ble_eq_true rfl) (le_mx mx36 (Nat.le_of_ble_eq_true rfl)) (Or.inr (recv_ok ty98 ow36 (by decide))) (c_Pa_changePlaces_98 e z m_42 i j (by omega) (by omega)) (fun m_51 h_51 => ?_)
  refine r_loadI a114_54 rfl ?_
  refine r_retIq a114_55 ?_
  have fall : ∀ x, x ≠ 86 → x ≠ 99 → x ≠ 93 → x ≠ 94 → x ≠ 106 → x ≠ 107 → m_51 x = m x := fun x x1 x2 x3 x4 x5 x6 => by
      rw [h_51, upC_n x2, h_42, upC_n x1, f31 x x5 x6, f23 x x3 x4, f15 x x1 x2]
  refine ⟨⟨fun c c1 c2 c3 => fall c (by omega) (by omega) (by omega) (by omega) (by omega) (by omega), by rw [fall 90 (by decide) (by decide) (by decide) (by decide) (by decide) (by decide)], by rw [fall 103 (by decide) (by decide) (by decide) (by decide) (by decide) (by decide)]⟩, ⟨?_, TbE_cong (fall (85 + 2) (by decide) (by decide) (by decide) (by decide) (by decide) (by decide)) (fall (85 + 3) (by decide) (by decide) (by decide) (by decide) (by decide) (by decide)) (fall (85 + 4) (by decide) (by decide) (by decide) (by decide) (by decide) (by decide)) p2, fun x x1 x2 => ?_⟩, ⟨?_, TbE_cong (fall (98 + 2) (by decide) (by decide) (by decide) (by decide) (by decide) (by decide)) (fall (98 + 3) (by decide) (by decide) (by decide) (by decide) (by decide) (by decide)) (fall (98 + 4) (by decide) (by decide) (by decide) (by decide) (by decide) (by decide)) u2, fun x x1 x2 => ?_⟩, rfl⟩
  · rw [fall 85 (by decide) (by decide) (by decide) (by decide) (by decide) (by decide)]; exact p1
  · show m_51 86 x = x
    rw [h_51, upC_n (by decide), h_42, upC_s, f31 86 (by decide) (by decide), f23 86 (by decide) (by decide)]
    exact back _ e86 x x1 x2
  · rw [fall 98 (by decide) (by decide) (by decide) (by decide) (by decide) (by decide)]; exact u1
  · show m_51 99 x = x
    rw [h_51, upC_s, h_42, upC_n (by decide), f31 99 (by decide) (by decide), f23 99 (by decide) (by decide)]
    exact back _ e99 x x1 x2
theorem c_Fg_set (d z : Nat) (m : XM) (s : Int → Int) (cl : CLs) (a b : Int) (hd : 8 ≤ d) (hC : CpC m s cl) :
    CI d k_Fg_set z m [vR 32, vI a, vI b] (fun x m' => KC m m' ∧ x = aSet s cl a b) := by
  obtain ⟨e, rfl⟩ : ∃ e, d = e + 1 := ⟨d - 1, by omega⟩
  have hN := hC.1.1.1
  have ta := tS_r (k := a) (od := idn) hC.1 hC.2.2.1.2.1 hC.2.2.1.2.2 (fun i x y => ⟨x, y⟩)
  have tb := tS_r (k := b) (od := idn) hC.1 hC.2.2.1.2.1 hC.2.2.1.2.2 (fun i x y => ⟨x, y⟩)
  have outer : ∀ (c n : Nat) (m1 : XM) (st : Int × Int) (y6 y7 : XV), (n : Int) + c = s 0 → sk s a → sk s b → a ≠ b → KC m m1 → Rdy m1 85 s cl a (s 7) 1 → Rdy m1 98 s cl b (s 7) 1 → st = setO s cl a b n (setL s cl a b idn, -5) →
      RZ (e + 1) k_Fg_set 53 [vR 32, vI a, vI b, vI st.1, vI st.2, vI (n : Int), y6, y7] [] (zH z m1) (qz z (qi fun x m' => KC m m' ∧ x = aSet s cl a b)) := by
    intro c
    induction c with
    | zero =>
      intro n m1 st y6 y7 hn ha hb hab kc r1 r2 hst
      have e0 : m1 34 0 = s 0 := (CpC_K kc hC).2.1.1.1
      have en : (s 0).toNat = n := by omega
      refine r_loadI a88_53 rfl ?_
      refine r_loadA a88_55 rfl (by decide) ?_
      refine r_getR a88_56 ty32 rf32_0 (by decide) ?_
      refine r_getR a88_59 ty33 rf33_0 (by decide) ?_
      refine r_getI (ki := 0) a88_62 ty34 rfl ?_
      rw [e0]
      refine r_icge a88_65 (fun h_65 => ?_) (fun h_65 => ?_)
      · refine r_loadI a88_130 rfl ?_
        refine r_retIq a88_132 ?_
        exact ⟨kc, by unfold aSet; rw [if_neg (fun q => q ⟨ha, hb⟩), if_neg hab, en, ← hst]⟩
      · exfalso
        omega
    | succ c ih =>
      intro n m1 st y6 y7 hn ha hb hab kc r1 r2 hst
      have inner : ∀ (c2 n2 : Nat) (m2 : XM) (st2 : Int × Int) (y7 : XV), (n : Int) + 1 + n2 + c2 = s 0 → KC m m2 → Rdy m2 85 s cl a (s 7) 1 → Rdy m2 98 s cl b (s 7) 1 → st2 = setI s cl a b n n2 st →
          RZ (e + 1) k_Fg_set 74 [vR 32, vI a, vI b, vI st2.1, vI st2.2, vI (n : Int), vI ((n : Int) + 1 + n2), y7] [] (zH z m2) (qz z (qi fun x m' => KC m m' ∧ x = aSet s cl a b)) := by
        intro c2
        induction c2 with
        | zero =>
          intro n2 m2 st2 y7 hn2 kc2 r3 r4 hst2
          have e0 : m2 34 0 = s 0 := (CpC_K kc2 hC).2.1.1.1
          refine r_loadI a88_74 rfl ?_
          refine r_loadA a88_76 rfl (by decide) ?_
          refine r_getR a88_77 ty32 rf32_0 (by decide) ?_
          refine r_getR a88_80 ty33 rf33_0 (by decide) ?_
          refine r_getI (ki := 0) a88_83 ty34 rfl ?_
          rw [e0]
          refine r_icge a88_86 (fun h_86 => ?_) (fun h_86 => ?_)
          · refine r_iinc_5 a88_124 rfl (by omega) ?_
            refine r_goto a88_127 ?_
            refine ih (n + 1) m2 st2 _ _ (by push_cast; omega) ha hb hab kc2 r3 r4 ?_
            have en2 : (s 0 - (n : Int) - 1).toNat = n2 := by omega
            have es : setO s cl a b (n + 1) (setL s cl a b idn, -5) = setI s cl a b (0 + (n : Int)) (s 0 - (0 + (n : Int)) - 1).toNat (setO s cl a b n (setL s cl a b idn, -5)) := rfl
            rw [es, Int.zero_add, en2, ← hst]; exact hst2
          · exfalso
            omega
        | succ c2 ih2 =>
          intro n2 m2 st2 y7 hn2 kc2 r3 r4 hst2
          have hC2 := CpC_K kc2 hC
          have e0 : m2 34 0 = s 0 := hC2.2.1.1.1
          have es : setI s cl a b n (n2 + 1) st = setU s cl a b n ((n : Int) + 1 + n2) (setI s cl a b n n2 st) := rfl
          have eu : setU s cl a b n ((n : Int) + 1 + n2) st2 = if setL s cl a b (swp n ((n : Int) + 1 + n2)) < st2.1 then (setL s cl a b (swp n ((n : Int) + 1 + n2)), 10 * (n : Int) + ((n : Int) + 1 + n2)) else st2 := rfl
          refine r_loadI a88_74 rfl ?_
          refine r_loadA a88_76 rfl (by decide) ?_
          refine r_getR a88_77 ty32 rf32_0 (by decide) ?_
          refine r_getR a88_80 ty33 rf33_0 (by decide) ?_
          refine r_getI (ki := 0) a88_83 ty34 rfl ?_
          rw [e0]
          refine r_icge a88_86 (fun h_86 => ?_) (fun h_86 => ?_)
          · exfalso
            omega
          · refine r_loadA a88_89 rfl (by decide) ?_
            refine r_loadI a88_90 rfl ?_
            refine r_loadI a88_92 rfl ?_
            refine r_callI_3 a88_94 (Nat.le_of_ble_eq_true rfl) (le_mx mx114 (Nat.le_of_ble_eq_true rfl)) (Or.inr (recv_ok ty32 ow114 (by decide))) (c_Fg_aheadIfChanged e z m2 s cl a b n ((n : Int) + 1 + n2) (by omega) hC2 r3 r4 (by omega)) (fun x_94 m_94 h_94 => ?_)
            obtain ⟨g1, g2, g3, g4⟩ := h_94
            rw [g4]
            refine r_storeI_7 a88_97 rfl ?_
            refine r_loadI a88_99 rfl ?_
            refine r_loadI a88_101 rfl ?_
            refine r_icge a88_102 (fun h_102 => ?_) (fun h_102 => ?_)
            · refine r_iinc_6 a88_118 rfl (by omega) ?_
              refine r_goto a88_121 ?_
              have ei : (n : Int) + 1 + ((n2 + 1 : Nat) : Int) = (n : Int) + 1 + (n2 : Int) + 1 := by push_cast; omega
              have q := ih2 (n2 + 1) m_94 (setU s cl a b n ((n : Int) + 1 + n2) st2) (vI (setL s cl a b (swp n ((n : Int) + 1 + n2)))) (by push_cast; omega) (KC.trans kc2 g1) g2 g3 (by rw [es, hst2])
              rw [ei] at q
              first
                | (rw [eu, if_pos (by omega)] at q; exact q)
                | (rw [eu, if_neg (by omega)] at q; exact q)
            · refine r_loadI a88_105 rfl ?_
              refine r_storeI_3 a88_107 rfl ?_
              refine r_pushI a88_108 ?_
              refine r_loadI a88_110 rfl ?_
              refine r_mul a88_112 (by omega) ?_
              refine r_loadI a88_113 rfl ?_
              refine r_add a88_115 (by omega) ?_
              refine r_storeI_4 a88_116 rfl ?_
              refine r_iinc_6 a88_118 rfl (by omega) ?_
              refine r_goto a88_121 ?_
              have ei : (n : Int) + 1 + ((n2 + 1 : Nat) : Int) = (n : Int) + 1 + (n2 : Int) + 1 := by push_cast; omega
              have q := ih2 (n2 + 1) m_94 (setU s cl a b n ((n : Int) + 1 + n2) st2) (vI (setL s cl a b (swp n ((n : Int) + 1 + n2)))) (by push_cast; omega) (KC.trans kc2 g1) g2 g3 (by rw [es, hst2])
              rw [ei] at q
              first
                | (rw [eu, if_pos (by omega)] at q; exact q)
                | (rw [eu, if_neg (by omega)] at q; exact q)
      have e0 : m1 34 0 = s 0 := (CpC_K kc hC).2.1.1.1
      refine r_loadI a88_53 rfl ?_
      refine r_loadA a88_55 rfl (by decide) ?_
      refine r_getR a88_56 ty32 rf32_0 (by decide) ?_
      refine r_getR a88_59 ty33 rf33_0 (by decide) ?_
      refine r_getI (ki := 0) a88_62 ty34 rfl ?_
      rw [e0]
      refine r_icge a88_65 (fun h_65 => ?_) (fun h_65 => ?_)
      · exfalso
        omega
      · refine r_loadI a88_68 rfl ?_
        refine r_pushI a88_70 ?_
        refine r_add a88_71 (by omega) ?_
        refine r_storeI_6 a88_72 rfl ?_
        have q := inner c 0 m1 st y7 (by push_cast at hn ⊢; omega) kc r1 r2 rfl
        have ei : (n : Int) + 1 + ((0 : Nat) : Int) = (n : Int) + 1 := by omega
        rw [ei] at q
        exact q
  refine r_entry mx88 rfl ?_
  refine r_loadA a88_0 rfl (by decide) ?_
  refine r_loadI a88_1 rfl ?_
  refine r_callI_2 a88_2 (Nat.le_of_ble_eq_true rfl) (le_mx mx104 (Nat.le_of_ble_eq_true rfl)) (Or.inr (recv_ok ty32 ow104 (by decide))) (c_Fg_noSkier e z m s cl hC a) (fun x_2 m_2 h_2 => ?_)
  obtain ⟨hm_2, h_2⟩ := h_2
  rw [hm_2]
  refine r_ifne a88_5 (fun h_5 => ?_) (fun h_5 => ?_)
  · refine r_pushI a88_16 ?_
    refine r_retIq a88_17 ?_
    refine ⟨KC.refl m, ?_⟩
    unfold aSet; rw [if_pos]
    rintro ⟨a1, a2⟩
    first
      | exact (skD h_2).2 h_5 a1
      | exact (skD h_10).2 (by omega) a2
  · refine r_loadA a88_8 rfl (by decide) ?_
    refine r_loadI a88_9 rfl ?_
    refine r_callI_2 a88_10 (Nat.le_of_ble_eq_true rfl) (le_mx mx104 (Nat.le_of_ble_eq_true rfl)) (Or.inr (recv_ok ty32 ow104 (by decide))) (c_Fg_noSkier e z m s cl hC b) (fun x_10 m_10 h_10 => ?_)
    obtain ⟨hm_10, h_10⟩ := h_10
    rw [hm_10]
    refine r_ifeq a88_13 (fun h_13 => ?_) (fun h_13 => ?_)
    · have ha := (skD h_2).1 (by omega)
      have hb := (skD h_10).1 (by omega)
      refine r_loadI a88_18 rfl ?_
      refine r_loadI a88_19 rfl ?_
      refine r_icne a88_20 (fun h_20 => ?_) (fun h_20 => ?_)
      · refine r_loadA a88_26 rfl (by decide) ?_
        refine r_loadA a88_27 rfl (by decide) ?_
        refine r_getR a88_28 ty32 rf32_4 (by decide) ?_
        refine r_loadI a88_31 rfl ?_
        refine r_callI_3 a88_32 (Nat.le_of_ble_eq_true rfl) (le_mx mx110 (Nat.le_of_ble_eq_true rfl)) (Or.inr (recv_ok ty32 ow110 (by decide))) (c_Fg_leastTime_85 e z m s cl a (by omega) hC ha) (fun x_32 m_32 h_32 => ?_)
        obtain ⟨f1, q1, _, v1⟩ := h_32
        have hC1 := CpC_K (FrT_85 f1) hC
        have v1' : x_32 = tS s cl a idn := v1
        rw [v1']
        refine r_loadA a88_35 rfl (by decide) ?_
        refine r_loadA a88_36 rfl (by decide) ?_
        refine r_getR a88_37 ty32 rf32_5 (by decide) ?_
        refine r_loadI a88_40 rfl ?_
        refine r_callI_3 a88_41 (Nat.le_of_ble_eq_true rfl) (le_mx mx110 (Nat.le_of_ble_eq_true rfl)) (Or.inr (recv_ok ty32 ow110 (by decide))) (c_Fg_leastTime_98 e z m_32 s cl b (by omega) hC1 hb) (fun x_41 m_41 h_41 => ?_)
        obtain ⟨f2, q2, _, v2⟩ := h_41
        have v2' : x_41 = tS s cl b idn := v2
        rw [v2']
        refine r_sub a88_44 (by omega) ?_
        refine r_storeI_3 a88_45 rfl ?_
        refine r_pushI a88_46 ?_
        refine r_storeI_4 a88_48 rfl ?_
        refine r_pushI a88_50 ?_
        refine r_storeI_5 a88_51 rfl ?_
        have f2' : ∀ x, ¬ (98 ≤ x ∧ x ≤ 107) → x ≠ 48 → m_41 x = m_32 x := fun x a b => f2.1 x a b
        refine outer (s 0).toNat 0 m_41 (setL s cl a b idn, -5) _ _ (by omega) ha hb (by omega) (KC.trans (FrT_85 f1) (FrT_98 f2)) ⟨by rw [f2' 85 (by decide) (by decide)]; exact q1.1, TbE_cong (f2' (85 + 2) (by decide) (by decide)) (f2' (85 + 3) (by decide) (by decide)) (f2' (85 + 4) (by decide) (by decide)) q1.2.1, by rw [f2' (85 + 1) (by decide) (by decide)]; exact q1.2.2⟩ q2 rfl
      · refine r_pushI a88_23 ?_
        refine r_retIq a88_25 ?_
        exact ⟨KC.refl m, by unfold aSet; rw [if_neg (fun q => q ⟨ha, hb⟩), if_pos (by omega)]⟩
    · refine r_pushI a88_16 ?_
      refine r_retIq a88_17 ?_
      refine ⟨KC.refl m, ?_⟩
      unfold aSet; rw [if_pos]
      rintro ⟨a1, a2⟩
      first
        | exact (skD h_2).2 h_5 a1
        | exact (skD h_10).2 (by omega) a2
