-- ===== the reference: rank, mean, slowest, who, looked =====
theorem c_Mo_looksForTimes (d z : Nat) (m : XM) (s : Int → Int) (cl : CLs) (hd : 17 ≤ d) (hC : CpM m s cl) :
    CV d k_Mo_looksForTimes z m [vR 121] (fun m' => KM m m' ∧ ∀ j, 0 ≤ j → j < s 1 → m' 139 j = tN s cl j) := by
  obtain ⟨e, rfl⟩ : ∃ e, d = e + 1 := ⟨d - 1, by omega⟩
  have hN := hC.2.1.1.2.1
  have loop : ∀ (c : Nat) (i : Int) (m1 : XM), i + c = s 1 → 0 ≤ i → KM m m1 → (∀ j, 0 ≤ j → j < i → m1 139 j = tN s cl j) →
      RZ (e + 1) k_Mo_looksForTimes 2 [vR 121, vI i] [] (zH z m1) (qz z (qv fun m' => KM m m' ∧ ∀ j, 0 ≤ j → j < s 1 → m' 139 j = tN s cl j)) := by
    intro c
    induction c with
    | zero =>
      intro i m1 hi h0 kc ht
      have e0 : m1 122 = s := (CpM_K kc hC).1
      refine r_loadI a185_2 rfl ?_
      refine r_loadA a185_3 rfl (by decide) ?_
      refine r_getR a185_4 ty121 rf121_1 (by decide) ?_
      refine r_pushI a185_7 ?_
      refine r_iald a185_8 ty122 (by omega) ?_
      rw [e0]
      refine r_icge a185_9 (fun h_9 => ?_) (fun h_9 => ?_)
      · refine r_retVq a185_29 ?_
        exact ⟨kc, fun j a b => ht j a (by omega)⟩
      · exfalso
        omega
    | succ c ih =>
      intro i m1 hi h0 kc ht
      have hC1 := CpM_K kc hC
      have e0 : m1 122 = s := hC1.1
      refine r_loadI a185_2 rfl ?_
      refine r_loadA a185_3 rfl (by decide) ?_
      refine r_getR a185_4 ty121 rf121_1 (by decide) ?_
      refine r_pushI a185_7 ?_
      refine r_iald a185_8 ty122 (by omega) ?_
      rw [e0]
      refine r_icge a185_9 (fun h_9 => ?_) (fun h_9 => ?_)
      · exfalso
        omega
      · refine r_loadA a185_12 rfl (by decide) ?_
        refine r_getR a185_13 ty121 rf121_41 (by decide) ?_
        refine r_loadI a185_16 rfl ?_
        refine r_loadA a185_17 rfl (by decide) ?_
        refine r_loadI a185_18 rfl ?_
        refine r_callI_2 a185_19 (Nat.le_of_ble_eq_true rfl) (le_mx mx166 (Nat.le_of_ble_eq_true rfl)) (Or.inr (recv_ok ty121 ow166 (by decide))) (c_Mo_nowQ e z m1 s cl i (by omega) hC1 ⟨h0, by omega⟩) (fun x_19 m_19 h_19 => ?_)
        refine r_iast a185_22 ty139 (by omega) ?_
        obtain ⟨g1, g2, _⟩ := h_19
        refine r_iinc_1 a185_23 rfl (by omega) ?_
        refine r_goto a185_26 ?_
        refine ih (i + 1) _ (by omega) (by omega) (KM_up (KM.trans kc (FrL_KM g1)) (by omega)) (fun j a b => ?_)
        by_cases q : j = i
        · rw [q, up2_s]; exact g2
        · rw [up2_k q, g1.1 139 (by decide) (by decide) (by decide) (by decide)]; exact ht j a (by omega)
  refine r_entry mx185 rfl ?_
  refine r_pushI a185_0 ?_
  refine r_storeI_1 a185_1 rfl ?_
  exact loop (s 1).toNat 0 m (by omega) (by omega) (KM.refl m) (fun j a b => by omega)
theorem plc_lt (t : Int → Int) (k : Int) (hk : 0 ≤ k) : ∀ j : Nat, plc t k j ≤ (j : Int) - (if k < (j : Int) then 1 else 0) := by
  intro j
  induction j with
  | zero => rw [if_neg (by omega)]; show (0 : Int) ≤ ((0 : Nat) : Int) - 0; omega
  | succ j ih =>
    show plc t k j + (if t j < t k ∨ (t j = t k ∧ (j : Int) < k) then 1 else 0) ≤ ((j + 1 : Nat) : Int) - (if k < ((j + 1 : Nat) : Int) then 1 else 0)
    push_cast
    by_cases q : k = j
    · rw [if_neg (by omega)] at ih
      rw [if_neg (by rw [← q]; omega), if_pos (by omega)]; omega
    · (repeat' split) <;> (repeat' split at ih) <;> omega
/-- the earlier one comes earlier -/
theorem plc_mono (t : Int → Int) (a b : Int) (ha : 0 ≤ a) (h : t a < t b ∨ (t a = t b ∧ a < b)) : ∀ j : Nat, plc t a j + (if a < (j : Int) then 1 else 0) ≤ plc t b j := by
  intro j
  induction j with
  | zero => rw [if_neg (by omega)]; show (0 : Int) + 0 ≤ 0; omega
  | succ j ih =>
    show plc t a j + (if t j < t a ∨ (t j = t a ∧ (j : Int) < a) then 1 else 0) + (if a < ((j + 1 : Nat) : Int) then 1 else 0) ≤ plc t b j + (if t j < t b ∨ (t j = t b ∧ (j : Int) < b) then 1 else 0)
    push_cast
    by_cases q : a = j
    · rw [if_neg (by omega)] at ih
      rw [if_neg (by rw [← q]; omega), if_pos (by omega), if_pos (by rw [← q]; exact h)]; omega
    · (repeat' split) <;> (repeat' split at ih) <;> omega
theorem plc_inj (t : Int → Int) (n : Nat) (a b : Int) (ha : 0 ≤ a) (ha2 : a < n) (hb : 0 ≤ b) (hb2 : b < n) (h : plc t a n = plc t b n) : a = b := by
  have h1 := fun q => plc_mono t a b ha q n
  have h2 := fun q => plc_mono t b a hb q n
  rw [if_pos ha2] at h1
  rw [if_pos hb2] at h2
  by_cases e : a = b
  · exact e
  · exfalso
    by_cases q : t a < t b ∨ (t a = t b ∧ a < b)
    · have := h1 q; omega
    · have := h2 (by omega); omega
theorem pigeon : ∀ (n : Nat) (f : Nat → Nat), (∀ i, i < n → f i < n) → (∀ i j, i < n → j < n → f i = f j → i = j) → ∀ v, v < n → ∃ i, i < n ∧ f i = v := by
  intro n
  induction n with
  | zero => intro f _ _ v hv; exact absurd hv (Nat.not_lt_zero v)
  | succ n ih =>
    intro f hf hinj v hv
    have hu := hf n (by omega)
    have hne : ∀ i, i < n → f i ≠ f n := fun i hi q => by have := hinj i n (by omega) (by omega) q; omega
    have hg : ∀ i, i < n → (if f i = n then f n else f i) < n := by
      intro i hi
      have h1 := hf i (by omega)
      have h2 := hne i hi
      split <;> omega
    have hgi : ∀ i j, i < n → j < n → (if f i = n then f n else f i) = (if f j = n then f n else f j) → i = j := by
      intro i j hi hj h
      have h1 := hne i hi
      have h2 := hne j hj
      apply hinj i j (by omega) (by omega)
      by_cases a : f i = n <;> by_cases b : f j = n
      · rw [a, b]
      · rw [if_pos a, if_neg b] at h; omega
      · rw [if_neg a, if_pos b] at h; omega
      · rw [if_neg a, if_neg b] at h; exact h
    by_cases e : v = f n
    · exact ⟨n, by omega, e.symm⟩
    · by_cases ev : v = n
      · obtain ⟨i, hi, h⟩ := ih (fun i => if f i = n then f n else f i) hg hgi (f n) (by omega)
        have h1 := hne i hi
        have h2 : (if f i = n then f n else f i) = f n := h
        refine ⟨i, by omega, ?_⟩
        by_cases a : f i = n
        · omega
        · rw [if_neg a] at h2; exact absurd h2 h1
      · obtain ⟨i, hi, h⟩ := ih (fun i => if f i = n then f n else f i) hg hgi v (by omega)
        have h2 : (if f i = n then f n else f i) = v := h
        refine ⟨i, by omega, ?_⟩
        by_cases a : f i = n
        · rw [if_pos a] at h2; omega
        · rw [if_neg a] at h2; exact h2
theorem plc_ex (t : Int → Int) (n : Nat) (k : Int) (h0 : 0 ≤ k) (h1 : k < n) : ∃ i : Int, 0 ≤ i ∧ i < n ∧ plc t i n = k := by
  have r := fun i : Nat => plc_r t (i : Int) n
  have r2 := fun i : Nat => plc_lt t (i : Int) (by omega) n
  obtain ⟨i, hi, h⟩ := pigeon n (fun i => (plc t (i : Int) n).toNat) (fun i hi => by
      have a := r i
      have b := r2 i
      rw [if_pos (by omega)] at b
      show (plc t (i : Int) n).toNat < n
      omega) (fun i j hi hj h => by
      have a := r i
      have b := r j
      have h' : (plc t (i : Int) n).toNat = (plc t (j : Int) n).toNat := h
      have := plc_inj t n i j (by omega) (by omega) (by omega) (by omega) (by omega)
      omega) k.toNat (by omega)
  have a := r i
  have h' : (plc t (i : Int) n).toNat = k.toNat := h
  exact ⟨i, by omega, by omega, by omega⟩
theorem firstI_at (f : Int → Bool) (v i0 : Int) : ∀ (n : Nat) (lo : Int), lo ≤ i0 → i0 < lo + n → f i0 = true → (∀ i, lo ≤ i → i < lo + n → f i = true → i = i0) → firstI f v n lo = i0 := by
  intro n
  induction n with
  | zero => intro lo a b _ _; exfalso; omega
  | succ n ih =>
    intro lo a b h1 h2
    push_cast at b h2
    show (if f lo = true then lo else firstI f v n (lo + 1)) = i0
    by_cases q : f lo = true
    · rw [if_pos q]; exact h2 lo (by omega) (by omega) q
    · rw [if_neg q]
      have : lo ≠ i0 := fun e => q (by rw [e]; exact h1)
      exact ih (lo + 1) (by omega) (by omega) h1 (fun i x y z => h2 i (by omega) (by omega) z)
/-- the last number below n whose place is k; else 0 -/
def lastP (t : Int → Int) (N : Nat) (k : Int) : Nat → Int
  | 0 => 0
  | n + 1 => if plc t n N = k then (n : Int) else lastP t N k n
theorem lastP_at (t : Int → Int) (N : Nat) (k i0 : Int) (h0 : 0 ≤ i0) (h1 : plc t i0 N = k) (h2 : ∀ i, 0 ≤ i → i < (N : Int) → plc t i N = k → i = i0) : ∀ n : Nat, n ≤ N → i0 < (n : Int) → lastP t N k n = i0 := by
  intro n
  induction n with
  | zero => intro _ h; exfalso; omega
  | succ n ih =>
    intro hn hi
    push_cast at hi
    show (if plc t n N = k then (n : Int) else lastP t N k n) = i0
    by_cases q : plc t n N = k
    · rw [if_pos q]; exact h2 n (by omega) (by omega) q
    · rw [if_neg q]
      have : i0 ≠ n := fun e => q (by rw [← e]; exact h1)
      exact ih (by omega) (by omega)
theorem rank_same (t : Int → Int) (N : Nat) (k : Int) (h0 : 0 ≤ k) (h1 : k < N) : lastP t N k N = firstI (fun i => decide (plc t i N = k)) (-1) N 0 := by
  obtain ⟨i0, a, b, c⟩ := plc_ex t N k h0 h1
  have uq : ∀ i, 0 ≤ i → i < (N : Int) → plc t i N = k → i = i0 := fun i x y z => plc_inj t N i i0 x y a b (z.trans c.symm)
  rw [lastP_at t N k i0 a c uq N (Nat.le_refl _) b]
  exact (firstI_at _ _ i0 N 0 a (by omega) (by rw [decide_eq_true_iff]; exact c) (fun i x y z => uq i x (by omega) (by rw [decide_eq_true_iff] at z; exact z))).symm
theorem c_Mo_rank (d z : Nat) (m : XM) (s : Int → Int) (cl : CLs) (k : Int) (hd : 18 ≤ d) (hC : CpM m s cl) :
    CI d k_Mo_rank z m [vR 121, vI k] (fun x m' => KM m m' ∧ x = aRank s cl k) := by
  obtain ⟨e, rfl⟩ : ∃ e, d = e + 1 := ⟨d - 1, by omega⟩
  have hN := hC.2.1.1.2.1
  have outer : ∀ (c n : Nat) (m1 : XM) (y4 y5 : XV), (n : Int) + c = s 1 → sk s k → KM m m1 → (∀ j, 0 ≤ j → j < s 1 → m1 139 j = tN s cl j) →
      RZ (e + 1) k_Mo_rank 18 [vR 121, vI k, vI (lastP (tN s cl) (s 1).toNat k n), vI (n : Int), y4, y5] [] (zH z m1) (qz z (qi fun x m' => KM m m' ∧ x = aRank s cl k)) := by
    intro c
    induction c with
    | zero =>
      intro n m1 y4 y5 hn hk kc ht
      have e0 : m1 122 = s := (CpM_K kc hC).1
      have en : (s 1).toNat = n := by omega
      refine r_loadI a186_18 rfl ?_
      refine r_loadA a186_19 rfl (by decide) ?_
      refine r_getR a186_20 ty121 rf121_1 (by decide) ?_
      refine r_pushI a186_23 ?_
      refine r_iald a186_24 ty122 (by omega) ?_
      rw [e0]
      refine r_icge a186_25 (fun h_25 => ?_) (fun h_25 => ?_)
      · refine r_loadI a186_117 rfl ?_
        refine r_retIq a186_118 ?_
        refine ⟨kc, ?_⟩
        unfold aRank; rw [if_neg (fun q => q hk), en]
        exact rank_same (tN s cl) n k hk.1 (by have := hk.2; omega)
      · exfalso
        omega
    | succ c ih =>
      intro n m1 y4 y5 hn hk kc ht
      have e0 : m1 122 = s := (CpM_K kc hC).1
      have inner : ∀ (c2 j : Nat), (j : Int) + c2 = s 1 →
          RZ (e + 1) k_Mo_rank 34 [vR 121, vI k, vI (lastP (tN s cl) (s 1).toNat k n), vI (n : Int), vI (plc (tN s cl) n j), vI (j : Int)] [] (zH z m1) (qz z (qi fun x m' => KM m m' ∧ x = aRank s cl k)) := by
        intro c2
        induction c2 with
        | zero =>
          intro j hj
          have ej : (s 1).toNat = j := by omega
          have es : lastP (tN s cl) (s 1).toNat k (n + 1) = if plc (tN s cl) n (s 1).toNat = k then (n : Int) else lastP (tN s cl) (s 1).toNat k n := rfl
          rw [ej] at es ih
          rw [ej]
          refine r_loadI a186_34 rfl ?_
          refine r_loadA a186_36 rfl (by decide) ?_
          refine r_getR a186_37 ty121 rf121_1 (by decide) ?_
          refine r_pushI a186_40 ?_
          refine r_iald a186_41 ty122 (by omega) ?_
          rw [e0]
          refine r_icge a186_42 (fun h_42 => ?_) (fun h_42 => ?_)
          · refine r_loadI a186_99 rfl ?_
            refine r_loadI a186_101 rfl ?_
            refine r_icne a186_102 (fun h_102 => ?_) (fun h_102 => ?_)
            · refine r_loadI a186_109 rfl ?_
              refine r_storeI_2 a186_110 rfl ?_
              refine r_iinc_3 a186_111 rfl (by omega) ?_
              refine r_goto a186_114 ?_
              have q := ih (n + 1) m1 (vI (plc (tN s cl) n j)) (vI (j : Int)) (by push_cast; omega) hk kc ht
              first
                | (rw [es, if_pos (by omega)] at q; exact q)
                | (rw [es, if_neg (by omega)] at q; exact q)
            · refine r_loadI a186_105 rfl ?_
              refine r_goto a186_106 ?_
              refine r_storeI_2 a186_110 rfl ?_
              refine r_iinc_3 a186_111 rfl (by omega) ?_
              refine r_goto a186_114 ?_
              have q := ih (n + 1) m1 (vI (plc (tN s cl) n j)) (vI (j : Int)) (by push_cast; omega) hk kc ht
              first
                | (rw [es, if_pos (by omega)] at q; exact q)
                | (rw [es, if_neg (by omega)] at q; exact q)
          · exfalso
            omega
        | succ c2 ih2 =>
          intro j hj
          have a1 := ht j (by omega) (by omega)
          have a2 := ht n (by omega) (by omega)
          have hr := plc_r (tN s cl) n j
          have eS : plc (tN s cl) n (j + 1) = plc (tN s cl) n j + (if tN s cl j < tN s cl n ∨ (tN s cl j = tN s cl n ∧ (j : Int) < n) then 1 else 0) := rfl
          have fin : ∀ x : Int, x = (if tN s cl j < tN s cl n ∨ (tN s cl j = tN s cl n ∧ (j : Int) < n) then 1 else 0) →
              RZ (e + 1) k_Mo_rank 90 [vR 121, vI k, vI (lastP (tN s cl) (s 1).toNat k n), vI (n : Int), vI (plc (tN s cl) n j), vI (j : Int)] [vI x, vI (plc (tN s cl) n j)] (zH z m1) (qz z (qi fun x m' => KM m m' ∧ x = aRank s cl k)) := by
            intro x hx
            have hx2 : 0 ≤ x ∧ x ≤ 1 := by rw [hx]; split <;> omega
            refine r_add a186_90 (by omega) ?_
            refine r_storeI_4 a186_91 rfl ?_
            refine r_iinc_5 a186_93 rfl (by omega) ?_
            refine r_goto a186_96 ?_
            have q := ih2 (j + 1) (by push_cast; omega)
            rw [eS, ← hx] at q
            exact q
          refine r_loadI a186_34 rfl ?_
          refine r_loadA a186_36 rfl (by decide) ?_
          refine r_getR a186_37 ty121 rf121_1 (by decide) ?_
          refine r_pushI a186_40 ?_
          refine r_iald a186_41 ty122 (by omega) ?_
          rw [e0]
          refine r_icge a186_42 (fun h_42 => ?_) (fun h_42 => ?_)
          · exfalso
            omega
          · refine r_loadI a186_45 rfl ?_
            refine r_loadA a186_47 rfl (by decide) ?_
            refine r_getR a186_48 ty121 rf121_41 (by decide) ?_
            refine r_loadI a186_51 rfl ?_
            refine r_iald a186_53 ty139 (by omega) ?_
            refine r_loadA a186_54 rfl (by decide) ?_
            refine r_getR a186_55 ty121 rf121_41 (by decide) ?_
            refine r_loadI a186_58 rfl ?_
            refine r_iald a186_59 ty139 (by omega) ?_
            rw [a1, a2]
            refine r_iclt a186_60 (fun h_60 => ?_) (fun h_60 => ?_)
            · refine r_pushI a186_85 ?_
              refine r_goto a186_86 ?_
              exact fin _ (by first | rw [if_pos (by omega)] | rw [if_neg (by omega)])
            · refine r_loadA a186_63 rfl (by decide) ?_
              refine r_getR a186_64 ty121 rf121_41 (by decide) ?_
              refine r_loadI a186_67 rfl ?_
              refine r_iald a186_69 ty139 (by omega) ?_
              refine r_loadA a186_70 rfl (by decide) ?_
              refine r_getR a186_71 ty121 rf121_41 (by decide) ?_
              refine r_loadI a186_74 rfl ?_
              refine r_iald a186_75 ty139 (by omega) ?_
              rw [a1, a2]
              refine r_icne a186_76 (fun h_76 => ?_) (fun h_76 => ?_)
              · refine r_pushI a186_89 ?_
                exact fin _ (by first | rw [if_pos (by omega)] | rw [if_neg (by omega)])
              · refine r_loadI a186_79 rfl ?_
                refine r_loadI a186_81 rfl ?_
                refine r_icge a186_82 (fun h_82 => ?_) (fun h_82 => ?_)
                · refine r_pushI a186_89 ?_
                  exact fin _ (by first | rw [if_pos (by omega)] | rw [if_neg (by omega)])
                · refine r_pushI a186_85 ?_
                  refine r_goto a186_86 ?_
                  exact fin _ (by first | rw [if_pos (by omega)] | rw [if_neg (by omega)])
      refine r_loadI a186_18 rfl ?_
      refine r_loadA a186_19 rfl (by decide) ?_
      refine r_getR a186_20 ty121 rf121_1 (by decide) ?_
      refine r_pushI a186_23 ?_
      refine r_iald a186_24 ty122 (by omega) ?_
      rw [e0]
      refine r_icge a186_25 (fun h_25 => ?_) (fun h_25 => ?_)
      · exfalso
        omega
      · refine r_pushI a186_28 ?_
        refine r_storeI_4 a186_29 rfl ?_
        refine r_pushI a186_31 ?_
        refine r_storeI_5 a186_32 rfl ?_
        exact inner (s 1).toNat 0 (by omega)
  refine r_entry mx186 rfl ?_
  refine r_loadA a186_0 rfl (by decide) ?_
  refine r_loadI a186_1 rfl ?_
  refine r_callI_2 a186_2 (Nat.le_of_ble_eq_true rfl) (le_mx mx122 (Nat.le_of_ble_eq_true rfl)) (Or.inr (recv_ok ty121 ow122 (by decide))) (c_Mo_isSk e z m s cl hC k (by omega)) (fun x_2 m_2 h_2 => ?_)
  obtain ⟨hm_2, h_2⟩ := h_2
  rw [hm_2]
  refine r_ifne a186_5 (fun h_5 => ?_) (fun h_5 => ?_)
  · refine r_loadA a186_10 rfl (by decide) ?_
    have hk := (okD h_2).1 (by omega)
    refine r_callV_1 a186_11 (Nat.le_of_ble_eq_true rfl) (le_mx mx185 (Nat.le_of_ble_eq_true rfl)) (Or.inr (recv_ok ty121 ow185 (by decide))) (c_Mo_looksForTimes e z m s cl (by omega) hC) (fun m_11 h_11 => ?_)
    refine r_pushI a186_14 ?_
    refine r_storeI_2 a186_15 rfl ?_
    refine r_pushI a186_16 ?_
    refine r_storeI_3 a186_17 rfl ?_
    exact outer (s 1).toNat 0 m_11 _ _ (by omega) hk h_11.1 h_11.2
  · refine r_pushI a186_8 ?_
    refine r_retIq a186_9 ?_
    exact ⟨KM.refl m, by unfold aRank; rw [if_pos ((okD h_2).2 (by omega))]⟩
theorem c_Mo_mean (d z : Nat) (m : XM) (s : Int → Int) (cl : CLs) (p : Int) (hd : 18 ≤ d) (hC : CpM m s cl) :
    CL d k_Mo_mean z m [vR 121, vI p] (fun x m' => KM m m' ∧ x = aMean s cl p) := by
  obtain ⟨e, rfl⟩ : ∃ e, d = e + 1 := ⟨d - 1, by omega⟩
  have hN := hC.2.1.1.2.1
  have e122 := hC.1
  have sr := sumN_r hC.2.1 (CpM_e hC).1 (CpM_e hC).2
  have loop : ∀ (c j : Nat) (m1 : XM), (0 ≤ p ∧ p ≤ 1) → s 1 ≠ 0 → (j : Int) + c = s 1 → KM m m1 → (∀ j, 0 ≤ j → j < s 1 → m1 139 j = tN s cl j) →
      RZ (e + 1) k_Mo_mean 31 [vR 121, vI p, vL (sumN s cl j), vR 0, vI (j : Int)] [] (zH z m1) (qz z (ql fun x m' => KM m m' ∧ x = aMean s cl p)) := by
    intro c
    induction c with
    | zero =>
      intro j m1 hp hn hj kc ht
      have e0 : m1 122 = s := (CpM_K kc hC).1
      have ej : (s 1).toNat = j := by omega
      have srj := sr j
      refine r_loadI a187_31 rfl ?_
      refine r_loadA a187_33 rfl (by decide) ?_
      refine r_getR a187_34 ty121 rf121_1 (by decide) ?_
      refine r_pushI a187_37 ?_
      refine r_iald a187_38 ty122 (by omega) ?_
      rw [e0]
      refine r_icge a187_39 (fun h_39 => ?_) (fun h_39 => ?_)
      · refine r_loadL a187_59 rfl ?_
        refine r_loadA a187_60 rfl (by decide) ?_
        refine r_getR a187_61 ty121 rf121_1 (by decide) ?_
        refine r_pushI a187_64 ?_
        refine r_iald a187_65 ty122 (by omega) ?_
        rw [e0]
        refine r_i2l a187_66 ?_
        refine r_loadI a187_67 rfl ?_
        refine r_callL_3 a187_68 (Nat.le_of_ble_eq_true rfl) (le_mx mx158 (Nat.le_of_ble_eq_true rfl)) (Or.inl rfl) (c_Mo_low e z m1 (sumN s cl j) (s 1) p (by omega) (by omega)) (fun x_68 m_68 h_68 => ?_)
        obtain ⟨hm_68, h_68⟩ := h_68
        rw [hm_68]
        refine r_retLq a187_71 ?_
        refine ⟨kc, ?_⟩
        unfold aMean; rw [if_pos ⟨hp, hn⟩, ej, h_68]
      · exfalso
        omega
    | succ c ih =>
      intro j m1 hp hn hj kc ht
      have e0 : m1 122 = s := (CpM_K kc hC).1
      have srj := sr j
      have tr := tN_r hC.2.1 (CpM_e hC).1 (CpM_e hC).2 j
      have a1 := ht j (by omega) (by omega)
      refine r_loadI a187_31 rfl ?_
      refine r_loadA a187_33 rfl (by decide) ?_
      refine r_getR a187_34 ty121 rf121_1 (by decide) ?_
      refine r_pushI a187_37 ?_
      refine r_iald a187_38 ty122 (by omega) ?_
      rw [e0]
      refine r_icge a187_39 (fun h_39 => ?_) (fun h_39 => ?_)
      · exfalso
        omega
      · refine r_loadL a187_42 rfl ?_
        refine r_loadA a187_43 rfl (by decide) ?_
        refine r_getR a187_44 ty121 rf121_41 (by decide) ?_
        refine r_loadI a187_47 rfl ?_
        refine r_iald a187_49 ty139 (by omega) ?_
        rw [a1]
        refine r_i2l a187_50 ?_
        refine r_ladd a187_51 (by omega) ?_
        refine r_storeL_2 a187_52 rfl ?_
        refine r_iinc_4 a187_53 rfl (by omega) ?_
        refine r_goto a187_56 ?_
        exact ih (j + 1) m1 hp hn (by push_cast; omega) kc ht
  refine r_entry mx187 rfl ?_
  refine r_loadI a187_0 rfl ?_
  refine r_pushI a187_1 ?_
  refine r_pushI a187_2 ?_
  refine r_callI_3 a187_3 (Nat.le_of_ble_eq_true rfl) (le_mx mx119 (Nat.le_of_ble_eq_true rfl)) (Or.inl rfl) (c_Mo_in e z m p 0 1) (fun x_3 m_3 h_3 => ?_)
  obtain ⟨hm_3, h_3⟩ := h_3
  rw [hm_3]
  refine r_ifeq a187_6 (fun h_6 => ?_) (fun h_6 => ?_)
  · refine r_pushL a187_18 ?_
    refine r_retLq a187_21 ?_
    exact ⟨KM.refl m, by unfold aMean; rw [if_neg (by omega)]⟩
  · refine r_loadA a187_9 rfl (by decide) ?_
    refine r_getR a187_10 ty121 rf121_1 (by decide) ?_
    refine r_pushI a187_13 ?_
    refine r_iald a187_14 ty122 (by omega) ?_
    rw [e122]
    refine r_ifne a187_15 (fun h_15 => ?_) (fun h_15 => ?_)
    · refine r_loadA a187_22 rfl (by decide) ?_
      refine r_callV_1 a187_23 (Nat.le_of_ble_eq_true rfl) (le_mx mx185 (Nat.le_of_ble_eq_true rfl)) (Or.inr (recv_ok ty121 ow185 (by decide))) (c_Mo_looksForTimes e z m s cl (by omega) hC) (fun m_23 h_23 => ?_)
      refine r_pushL a187_26 ?_
      refine r_storeL_2 a187_27 rfl ?_
      refine r_pushI a187_28 ?_
      refine r_storeI_4 a187_29 rfl ?_
      exact loop (s 1).toNat 0 m_23 (by omega) (by omega) (by omega) h_23.1 h_23.2
    · refine r_pushL a187_18 ?_
      refine r_retLq a187_21 ?_
      exact ⟨KM.refl m, by unfold aMean; rw [if_neg (by omega)]⟩
theorem slI_r {s : Int → Int} {cl : CLs} {k : Int} (hp : ∀ i, 0 ≤ i → i < s 0 → 1 ≤ qTk s cl k (lnS s) i) : ∀ n : Nat, (n : Int) ≤ s 0 → (n = 0 ∧ slI s cl k n = (-5, -1)) ∨ (0 < n ∧ 0 ≤ (slI s cl k n).1 ∧ (slI s cl k n).1 < n ∧ (slI s cl k n).2 = qTk s cl k (lnS s) (slI s cl k n).1) := by
  intro n
  induction n with
  | zero => intro _; exact Or.inl ⟨rfl, rfl⟩
  | succ n ih =>
    intro h
    have h1 := ih (by omega)
    have h2 := hp n (by omega) (by omega)
    right
    have eS : slI s cl k (n + 1) = if qTk s cl k (lnS s) n > (slI s cl k n).2 then ((n : Int), qTk s cl k (lnS s) n) else slI s cl k n := rfl
    rw [eS]
    push_cast
    by_cases q : qTk s cl k (lnS s) n > (slI s cl k n).2
    · rw [if_pos q]
      refine ⟨by omega, ?_, ?_, rfl⟩
      · show 0 ≤ (n : Int)
        omega
      · show (n : Int) < n + 1
        omega
    · rw [if_neg q]
      rcases h1 with ⟨_, h1⟩ | h1
      · exfalso
        apply q
        rw [h1]
        show _ > (-1 : Int)
        omega
      · exact ⟨by omega, h1.2.1, by omega, h1.2.2.2⟩
theorem c_Mo_slowest (d z : Nat) (m : XM) (s : Int → Int) (cl : CLs) (k : Int) (hd : 7 ≤ d) (hC : CpM m s cl) :
    CI d k_Mo_slowest z m [vR 121, vI k] (fun x m' => KM m m' ∧ x = aSlow s cl k) := by
  obtain ⟨e, rfl⟩ : ∃ e, d = e + 1 := ⟨d - 1, by omega⟩
  have hN := hC.2.1.1.1
  have tp := fun (i : Int) (a : 0 ≤ i) (b : i < s 0) => (qTk_r (k := k) hC.2.1 (CpM_e hC).1 (CpM_e hC).2 (lnS_r hC.2.1) a b).1
  have loop : ∀ (c j : Nat) (m1 : XM), sk s k → (j : Int) + c = s 0 → KM m m1 → (∀ i, 0 ≤ i → i < s 0 → m1 132 i = qTk s cl k (lnS s) i) →
      RZ (e + 1) k_Mo_slowest 20 [vR 121, vI k, vI (slI s cl k j).1, vI (j : Int)] [] (zH z m1) (qz z (qi fun x m' => KM m m' ∧ x = aSlow s cl k)) := by
    intro c
    induction c with
    | zero =>
      intro j m1 hk hj kc ht
      have e0 : m1 122 = s := (CpM_K kc hC).1
      have ej : (s 0).toNat = j := by omega
      refine r_loadI a188_20 rfl ?_
      refine r_loadA a188_21 rfl (by decide) ?_
      refine r_getR a188_22 ty121 rf121_1 (by decide) ?_
      refine r_pushI a188_25 ?_
      refine r_iald a188_26 ty122 (by omega) ?_
      rw [e0]
      refine r_icge a188_27 (fun h_27 => ?_) (fun h_27 => ?_)
      · refine r_loadI a188_63 rfl ?_
        refine r_retIq a188_64 ?_
        exact ⟨kc, by unfold aSlow; rw [if_neg (fun q => q hk), ej]⟩
      · exfalso
        omega
    | succ c ih =>
      intro j m1 hk hj kc ht
      have e0 : m1 122 = s := (CpM_K kc hC).1
      have a1 := ht j (by omega) (by omega)
      have hr := slI_r (k := k) tp j (by omega)
      have tj := tp j (by omega) (by omega)
      have a2 : 0 ≤ (slI s cl k j).1 → m1 132 (slI s cl k j).1 = (slI s cl k j).2 := fun q => by
        rcases hr with ⟨_, h⟩ | ⟨_, h1, h2, h3⟩
        · rw [h] at q; exact absurd (show (0 : Int) ≤ -5 from q) (by decide)
        · rw [ht _ h1 (by omega), h3]
      have h5 : (slI s cl k j).1 = -5 → (slI s cl k j).2 = -1 := fun q => by
        rcases hr with ⟨_, h⟩ | ⟨_, h1, h2, h3⟩
        · rw [h]
        · omega
      have h0 : (slI s cl k j).1 ≠ -5 → 0 ≤ (slI s cl k j).1 ∧ (slI s cl k j).1 < j := fun q => by
        rcases hr with ⟨_, h⟩ | ⟨_, h1, h2, h3⟩
        · rw [h] at q; exact absurd rfl q
        · omega
      have eS : slI s cl k (j + 1) = if qTk s cl k (lnS s) j > (slI s cl k j).2 then ((j : Int), qTk s cl k (lnS s) j) else slI s cl k j := rfl
      have fin : ∀ x : Int, x = (slI s cl k (j + 1)).1 → RZ (e + 1) k_Mo_slowest 56 [vR 121, vI k, vI (slI s cl k j).1, vI (j : Int)] [vI x] (zH z m1) (qz z (qi fun x m' => KM m m' ∧ x = aSlow s cl k)) := by
        intro x hx
        refine r_storeI_2 a188_56 rfl ?_
        refine r_iinc_3 a188_57 rfl (by omega) ?_
        refine r_goto a188_60 ?_
        rw [hx]
        exact ih (j + 1) m1 hk (by push_cast; omega) kc ht
      refine r_loadI a188_20 rfl ?_
      refine r_loadA a188_21 rfl (by decide) ?_
      refine r_getR a188_22 ty121 rf121_1 (by decide) ?_
      refine r_pushI a188_25 ?_
      refine r_iald a188_26 ty122 (by omega) ?_
      rw [e0]
      refine r_icge a188_27 (fun h_27 => ?_) (fun h_27 => ?_)
      · exfalso
        omega
      · refine r_loadI a188_30 rfl ?_
        refine r_pushI a188_31 ?_
        refine r_iceq a188_33 (fun h_33 => ?_) (fun h_33 => ?_)
        · refine r_loadI a188_51 rfl ?_
          refine r_goto a188_52 ?_
          refine fin _ ?_
          have := h5 h_33
          rw [eS, if_pos (by omega)]
        · refine r_loadA a188_36 rfl (by decide) ?_
          refine r_getR a188_37 ty121 rf121_25 (by decide) ?_
          refine r_loadI a188_40 rfl ?_
          have h0' := h0 h_33
          refine r_iald a188_41 ty132 (by omega) ?_
          refine r_loadA a188_42 rfl (by decide) ?_
          refine r_getR a188_43 ty121 rf121_25 (by decide) ?_
          refine r_loadI a188_46 rfl ?_
          refine r_iald a188_47 ty132 (by omega) ?_
          rw [a1, a2 h0'.1]
          refine r_icle a188_48 (fun h_48 => ?_) (fun h_48 => ?_)
          · refine r_loadI a188_55 rfl ?_
            refine fin _ ?_
            rw [eS]
            first
              | rw [if_pos (by omega)]
              | rw [if_neg (by omega)]
          · refine r_loadI a188_51 rfl ?_
            refine r_goto a188_52 ?_
            refine fin _ ?_
            rw [eS]
            first
              | rw [if_pos (by omega)]
              | rw [if_neg (by omega)]
  refine r_entry mx188 rfl ?_
  refine r_loadA a188_0 rfl (by decide) ?_
  refine r_loadI a188_1 rfl ?_
  refine r_callI_2 a188_2 (Nat.le_of_ble_eq_true rfl) (le_mx mx122 (Nat.le_of_ble_eq_true rfl)) (Or.inr (recv_ok ty121 ow122 (by decide))) (c_Mo_isSk e z m s cl hC k (by omega)) (fun x_2 m_2 h_2 => ?_)
  obtain ⟨hm_2, h_2⟩ := h_2
  rw [hm_2]
  refine r_ifne a188_5 (fun h_5 => ?_) (fun h_5 => ?_)
  · refine r_loadA a188_10 rfl (by decide) ?_
    refine r_loadI a188_11 rfl ?_
    have hk := (okD h_2).1 (by omega)
    refine r_callV_2 a188_12 (Nat.le_of_ble_eq_true rfl) (le_mx mx154 (Nat.le_of_ble_eq_true rfl)) (Or.inr (recv_ok ty121 ow154 (by decide))) (c_Mo_planQ e z m s cl k (by omega) hC hk) (fun m_12 h_12 => ?_)
    refine r_pushI a188_15 ?_
    refine r_storeI_2 a188_17 rfl ?_
    refine r_pushI a188_18 ?_
    refine r_storeI_3 a188_19 rfl ?_
    exact loop (s 0).toNat 0 m_12 hk (by omega) h_12.1 (fun i a b => (h_12.2.2.2.2.2 i a b).1)
  · refine r_pushI a188_8 ?_
    refine r_retIq a188_9 ?_
    exact ⟨KM.refl m, by unfold aSlow; rw [if_pos ((okD h_2).2 (by omega))]⟩
theorem iOr_0 (y : Int32) : iOr y.toInt 0 = y.toInt := by
  unfold iOr
  rw [Int32.ofInt_toInt]
  have : Int32.ofInt 0 = 0 := rfl
  rw [this, Int32.or_zero]
theorem whoI_32 (s : Int → Int) (cl : CLs) : ∀ n : Nat, ∃ y : Int32, whoI s cl n = y.toInt := by
  intro n
  induction n with
  | zero => exact ⟨0, rfl⟩
  | succ n ih =>
    obtain ⟨y, h⟩ := ih
    by_cases q : 0 < sMa (fQ s cl n)
    · exact ⟨Int32.ofInt (whoI s cl n) ||| Int32.ofInt (iShl 1 n), by show (if _ then _ else _) = _; rw [if_pos q]; rfl⟩
    · exact ⟨y, by show (if _ then _ else _) = _; rw [if_neg q]; exact h⟩
theorem c_Mo_who (d z : Nat) (m : XM) (s : Int → Int) (cl : CLs) (hd : 15 ≤ d) (hC : CpM m s cl) :
    CI d k_Mo_who z m [vR 121] (fun x m' => KM m m' ∧ x = whoI s cl (s 1).toNat) := by
  obtain ⟨e, rfl⟩ : ∃ e, d = e + 1 := ⟨d - 1, by omega⟩
  have hN := hC.2.1.1.2.1
  have loop : ∀ (c j : Nat) (m1 : XM), (j : Int) + c = s 1 → KM m m1 →
      RZ (e + 1) k_Mo_who 4 [vR 121, vI (whoI s cl j), vI (j : Int)] [] (zH z m1) (qz z (qi fun x m' => KM m m' ∧ x = whoI s cl (s 1).toNat)) := by
    intro c
    induction c with
    | zero =>
      intro j m1 hj kc
      have e0 : m1 122 = s := (CpM_K kc hC).1
      have ej : (s 1).toNat = j := by omega
      refine r_loadI a192_4 rfl ?_
      refine r_loadA a192_5 rfl (by decide) ?_
      refine r_getR a192_6 ty121 rf121_1 (by decide) ?_
      refine r_pushI a192_9 ?_
      refine r_iald a192_10 ty122 (by omega) ?_
      rw [e0]
      refine r_icge a192_11 (fun h_11 => ?_) (fun h_11 => ?_)
      · refine r_loadI a192_38 rfl ?_
        refine r_retIq a192_39 ?_
        exact ⟨kc, by rw [ej]⟩
      · exfalso
        omega
    | succ c ih =>
      intro j m1 hj kc
      have hC1 := CpM_K kc hC
      have e0 : m1 122 = s := hC1.1
      have eS : whoI s cl (j + 1) = if 0 < sMa (fQ s cl j) then iOr (whoI s cl j) (iShl 1 j) else whoI s cl j := rfl
      obtain ⟨y, hy⟩ := whoI_32 s cl j
      have hy0 : iOr (whoI s cl j) 0 = whoI s cl j := by rw [hy]; exact iOr_0 y
      refine r_loadI a192_4 rfl ?_
      refine r_loadA a192_5 rfl (by decide) ?_
      refine r_getR a192_6 ty121 rf121_1 (by decide) ?_
      refine r_pushI a192_9 ?_
      refine r_iald a192_10 ty122 (by omega) ?_
      rw [e0]
      refine r_icge a192_11 (fun h_11 => ?_) (fun h_11 => ?_)
      · exfalso
        omega
      · refine r_loadI a192_14 rfl ?_
        refine r_loadA a192_15 rfl (by decide) ?_
        refine r_loadI a192_16 rfl ?_
        refine r_callI_2 a192_17 (Nat.le_of_ble_eq_true rfl) (le_mx mx190 (Nat.le_of_ble_eq_true rfl)) (Or.inr (recv_ok ty121 ow190 (by decide))) (c_Mo_fitting e z m1 s cl j (by omega) hC1 ⟨by omega, by omega⟩) (fun x_17 m_17 h_17 => ?_)
        obtain ⟨g1, g3, _⟩ := h_17
        rw [g3]
        refine r_ifle a192_20 (fun h_20 => ?_) (fun h_20 => ?_)
        · refine r_pushI a192_29 ?_
          refine r_or a192_30 ?_
          refine r_storeI_1 a192_31 rfl ?_
          refine r_iinc_2 a192_32 rfl (by omega) ?_
          refine r_goto a192_35 ?_
          have q := ih (j + 1) m_17 (by push_cast; omega) (KM.trans kc g1)
          first
            | (rw [eS, if_pos (by omega)] at q; exact q)
            | (rw [hy0]; rw [eS, if_neg (by omega)] at q; exact q)
        · refine r_pushI a192_23 ?_
          refine r_loadI a192_24 rfl ?_
          refine r_shl a192_25 ?_
          refine r_goto a192_26 ?_
          refine r_or a192_30 ?_
          refine r_storeI_1 a192_31 rfl ?_
          refine r_iinc_2 a192_32 rfl (by omega) ?_
          refine r_goto a192_35 ?_
          have q := ih (j + 1) m_17 (by push_cast; omega) (KM.trans kc g1)
          first
            | (rw [eS, if_pos (by omega)] at q; exact q)
            | (rw [hy0]; rw [eS, if_neg (by omega)] at q; exact q)
  refine r_entry mx192 rfl ?_
  refine r_pushI a192_0 ?_
  refine r_storeI_1 a192_1 rfl ?_
  refine r_pushI a192_2 ?_
  refine r_storeI_2 a192_3 rfl ?_
  exact loop (s 1).toNat 0 m (by omega) (KM.refl m)
theorem c_Mo_looked (d z : Nat) (m : XM) (s : Int → Int) (cl : CLs) (hd : 17 ≤ d) (hC : CpM m s cl) :
    CI d k_Mo_looked z m [vR 121] (fun x m' => KM m m' ∧ x = aLooked s cl) := by
  obtain ⟨e, rfl⟩ : ∃ e, d = e + 1 := ⟨d - 1, by omega⟩
  have h4 := hC.2.1.1.2.2.2.2.1
  have loop : ∀ (c : Nat) (j : Int) (m1 : XM), j + c = s 4 → 0 ≤ j → KM m m1 → firstI (fun i => decide (tN s cl (s (83 + i)) ≠ s (91 + i))) (-5) c j = aLooked s cl →
      RZ (e + 1) k_Mo_looked 2 [vR 121, vI j] [] (zH z m1) (qz z (qi fun x m' => KM m m' ∧ x = aLooked s cl)) := by
    intro c
    induction c with
    | zero =>
      intro j m1 hj h0 kc hf
      have e0 : m1 122 = s := (CpM_K kc hC).1
      refine r_loadI a194_2 rfl ?_
      refine r_loadA a194_3 rfl (by decide) ?_
      refine r_getR a194_4 ty121 rf121_1 (by decide) ?_
      refine r_pushI a194_7 ?_
      refine r_iald a194_8 ty122 (by omega) ?_
      rw [e0]
      refine r_icge a194_9 (fun h_9 => ?_) (fun h_9 => ?_)
      · refine r_pushI a194_45 ?_
        refine r_retIq a194_47 ?_
        exact ⟨kc, hf⟩
      · exfalso
        omega
    | succ c ih =>
      intro j m1 hj h0 kc hf
      have hC1 := CpM_K kc hC
      have e0 : m1 122 = s := hC1.1
      have hs := (hC.2.1.2.2.2.2.2.1 j h0 (by omega)).1
      have hs2 := hs.2 (by omega)
      have hf2 : (if decide (tN s cl (s (83 + j)) ≠ s (91 + j)) = true then j else firstI (fun i => decide (tN s cl (s (83 + i)) ≠ s (91 + i))) (-5) c (j + 1)) = aLooked s cl := hf
      refine r_loadI a194_2 rfl ?_
      refine r_loadA a194_3 rfl (by decide) ?_
      refine r_getR a194_4 ty121 rf121_1 (by decide) ?_
      refine r_pushI a194_7 ?_
      refine r_iald a194_8 ty122 (by omega) ?_
      rw [e0]
      refine r_icge a194_9 (fun h_9 => ?_) (fun h_9 => ?_)
      · exfalso
        omega
      · refine r_loadA a194_12 rfl (by decide) ?_
        refine r_loadA a194_13 rfl (by decide) ?_
        refine r_getR a194_14 ty121 rf121_1 (by decide) ?_
        refine r_pushI a194_17 ?_
        refine r_loadI a194_19 rfl ?_
        refine r_add a194_20 (by omega) ?_
        refine r_iald a194_21 ty122 (by omega) ?_
        rw [e0]
        refine r_callI_2 a194_22 (Nat.le_of_ble_eq_true rfl) (le_mx mx166 (Nat.le_of_ble_eq_true rfl)) (Or.inr (recv_ok ty121 ow166 (by decide))) (c_Mo_nowQ e z m1 s cl (s (83 + j)) (by omega) hC1 ⟨hs.1, hs2⟩) (fun x_22 m_22 h_22 => ?_)
        obtain ⟨g1, q, _⟩ := h_22
        have q' : x_22 = tN s cl (s (83 + j)) := q
        rw [q']
        have f122 : m_22 122 = s := (CpM_K (FrL_KM g1) hC1).1
        refine r_loadA a194_25 rfl (by decide) ?_
        refine r_getR a194_26 ty121 rf121_1 (by decide) ?_
        refine r_pushI a194_29 ?_
        refine r_loadI a194_31 rfl ?_
        refine r_add a194_32 (by omega) ?_
        refine r_iald a194_33 ty122 (by omega) ?_
        rw [f122]
        refine r_iceq a194_34 (fun h_34 => ?_) (fun h_34 => ?_)
        · rw [if_neg (by rw [decide_eq_true_iff]; omega)] at hf2
          refine r_iinc_1 a194_39 rfl (by omega) ?_
          refine r_goto a194_42 ?_
          exact ih (j + 1) m_22 (by omega) (by omega) (KM.trans kc (FrL_KM g1)) hf2
        · refine r_loadI a194_37 rfl ?_
          refine r_retIq a194_38 ?_
          refine ⟨KM.trans kc (FrL_KM g1), ?_⟩
          rw [if_pos (by rw [decide_eq_true_iff]; exact h_34)] at hf2
          exact hf2
  refine r_entry mx194 rfl ?_
  refine r_pushI a194_0 ?_
  refine r_storeI_1 a194_1 rfl ?_
  exact loop (s 4).toNat 0 m (by omega) (by omega) (KM.refl m) rfl
