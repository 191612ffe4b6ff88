-- ===== searches that begin elsewhere alike =====
def simS (i N : Int) (x y : SS) : Prop := (∀ k, 0 ≤ k → k < i → sTr x k = sTr y k) ∧ sLt x = sLt y ∧ sMu x = sMu y ∧ sMa x = sMa y ∧ (0 < sMa x → ∀ k, 0 ≤ k → k < N → sBe x k = sBe y k)
theorem sGo_sim (O T B : TF) (N a lim lim' : Int) (seen : Int → Int → Prop) [∀ i t, Decidable (seen i t)] (hl : a = 2 → lim = lim') :
    ∀ (n : Nat) (i p time ups : Int) (x y : SS), i + n = N → 0 ≤ i → 0 ≤ sMa x → simS i N x y → simS i N (sGo O T B N a lim seen n i p time ups x) (sGo O T B N a lim' seen n i p time ups y) := by
  intro n
  induction n with
  | zero =>
    intro i p time ups x y hi h0 hm ⟨s1, s2, s3, s4, s5⟩
    have hi2 : i = N := by omega
    show simS i N (sEnd N a lim time ups x) (sEnd N a lim' time ups y)
    have hk : ∀ k, 0 ≤ k → k < N → keepR N (sTr x) (sBe x) k = keepR N (sTr y) (sBe y) k := fun k k1 k2 => by
      unfold keepR; rw [if_pos ⟨k1, k2⟩, if_pos ⟨k1, k2⟩]; exact s1 k k1 (by omega)
    unfold sEnd
    by_cases a2 : a = 2
    · rw [if_pos a2, if_pos a2, hl a2, s3]
      by_cases c : time ≤ lim' ∧ ups > sMu y
      · rw [if_pos c, if_pos c]
        exact ⟨s1, s2, rfl, by show sMa x + 1 = sMa y + 1; omega, fun _ => hk⟩
      · rw [if_neg c, if_neg c]; exact ⟨s1, s2, s3, s4, s5⟩
    · rw [if_neg a2, if_neg a2]
      by_cases a3 : a = 3
      · rw [if_pos a3, if_pos a3]
        by_cases c : sMa x = 0
        · rw [if_pos c, if_pos (by omega)]
          exact ⟨s1, s2, s3, by show sMa x + 1 = sMa y + 1; omega, fun _ => hk⟩
        · rw [if_neg c, if_neg (by omega)]
          exact ⟨s1, s2, s3, by show sMa x + 1 = sMa y + 1; omega, fun _ => s5 (by omega)⟩
      · rw [if_neg a3, if_neg a3, s2]
        by_cases c : time < sLt y
        · rw [if_pos c, if_pos c]
          exact ⟨s1, rfl, s3, by show sMa x + 1 = sMa y + 1; omega, fun _ => hk⟩
        · rw [if_neg c, if_neg c]; exact ⟨s1, s2, s3, s4, s5⟩
  | succ n ih =>
    intro i p time ups x y hi h0 hm hs
    have ma := fun (c : Int) (x : SS) => sGo_ma O T B N a lim seen n (i + 1) (B i p c) (time + T i p c) (ups * (20 - O i p c)) (sTry i c x)
    have br : ∀ (c : Int) (x y : SS), 0 ≤ sMa x → simS i N x y → 0 ≤ sMa (sBr O T B N a lim seen n i p time ups c x) ∧ simS i N (sBr O T B N a lim seen n i p time ups c x) (sBr O T B N a lim' seen n i p time ups c y) := by
      intro c x y hm ⟨s1, s2, s3, s4, s5⟩
      unfold sBr
      by_cases q : (a = 1 ∧ O i p c ≠ 0) ∨ (a = 3 ∧ ¬ seen i (time + T i p c))
      · rw [if_pos q, if_pos q]; exact ⟨hm, s1, s2, s3, s4, s5⟩
      · rw [if_neg q, if_neg q]
        have h1 := (ma c x).1
        have h2 : sMa (sTry i c x) = sMa x := rfl
        refine ⟨by omega, ?_⟩
        obtain ⟨t1, t2⟩ := ih (i + 1) (B i p c) (time + T i p c) (ups * (20 - O i p c)) (sTry i c x) (sTry i c y) (by omega) (by omega) (by omega) ⟨fun k k1 k2 => by
          show upi (sTr x) i c k = upi (sTr y) i c k
          by_cases e : k = i
          · rw [e, upi_s, upi_s]
          · rw [upi_n e, upi_n e]; exact s1 k k1 (by omega), s2, s3, s4, s5⟩
        exact ⟨fun k k1 k2 => t1 k k1 (by omega), t2⟩
    rw [sGo_succ, sGo_succ]
    obtain ⟨a0, b0⟩ := br 0 x y hm hs
    obtain ⟨a1, b1⟩ := br 1 _ _ a0 b0
    exact (br 2 _ _ a1 b1).2
-- ===== the class: the surest line =====
def SafR (m : XM) (N i : Int) (x : SS) : Prop :=
  (∀ k, 0 ≤ k → k < i → m 113 k = sTr x k) ∧ m 111 0 = sMu x ∧ -1 ≤ sMu x ∧ 0 ≤ sMa x ∧ (0 < sMa x ↔ 0 ≤ sMu x) ∧ (0 < sMa x → ∀ k, 0 ≤ k → k < N → m 112 k = sBe x k)
def FrS (m m' : XM) : Prop := (∀ c, c ≠ 111 → c ≠ 112 → c ≠ 113 → m' c = m c) ∧ m' 111 3 = m 111 3
theorem FrS.trans {a b c : XM} (h1 : FrS a b) (h2 : FrS b c) : FrS a c := ⟨fun x x1 x2 x3 => (h2.1 x x1 x2 x3).trans (h1.1 x x1 x2 x3), h2.2.trans h1.2⟩
theorem c_Sa_reach (O T B : TF) (N lim : Int) (seen : Int → Int → Prop) [∀ i t, Decidable (seen i t)] (hO : ∀ i p c, 0 ≤ O i p c ∧ O i p c ≤ 20) (hR : RgE O T B N) (hN : 0 ≤ N ∧ N ≤ 7) :
    ∀ (n : Nat) (d z : Nat) (m : XM) (i p time ups : Int) (x : SS), 2 * n + 3 ≤ d → i + n = N → 0 ≤ i → (0 ≤ p ∧ p < 10) → (0 ≤ time ∧ time + 21000 * n ≤ 150000) → (0 ≤ ups ∧ ups * p20 n ≤ 1280000000) →
      m 85 0 = N → TbE m 85 O T B N → SolP m 85 O T B ((0 : Int) = 1) N → m 111 3 = lim → SafR m N i x →
      CV d k_Sa_reach z m [vR 111, vR 85, vI i, vI p, vI time, vL ups] (fun m' => FrS m m' ∧ SafR m' N i (sGo O T B N 2 lim seen n i p time ups x)) := by
  intro n
  induction n with
  | zero =>
    intro d z m i p time ups x hd hi h0 hp ht hu e0 hT hS e3 hx
    obtain ⟨dd, rfl⟩ : ∃ dd, d = dd + 1 := ⟨d - 1, by omega⟩
    have hi2 : i = N := by omega
    have hL := (hS i p h0 (by omega) hp.1 hp.2).1
    have eN : (N - i).toNat = 0 := by omega
    rw [eN] at hL
    have hL0 : m 93 (i * 10 + p) = 0 := hL
    obtain ⟨x1, x2, x3, x4, x5, x6⟩ := hx
    have e7 : m 85 0 - i = 0 := by omega
    have hc := lCmp_le (a := ups * 1) (b := sMu x)
    have hz0 : zTab 3 0 = 1 := by decide
    have p200 : ups * p20 0 = ups * 1 := rfl
    have es : sGo O T B N 2 lim seen 0 i p time ups x = if time ≤ lim ∧ ups > sMu x then (sTr x, keepR N (sTr x) (sBe x), sLt x, ups, sMa x + 1) else x := by
      show sEnd N 2 lim time ups x = _
      unfold sEnd; rw [if_pos rfl]
    rw [es]
    refine r_entry mx59 rfl ?_
    refine r_loadA a59_0 rfl (by decide) ?_
    refine r_getI (ki := 0) a59_1 ty85 rfl ?_
    refine r_loadI a59_4 rfl ?_
    refine r_sub a59_5 (by omega) ?_
    rw [e7]
    refine r_storeI_7 a59_6 rfl ?_
    refine r_loadI a59_8 rfl ?_
    refine r_iflt a59_10 (fun h_10 => ?_) (fun h_10 => ?_)
    · refine r_retVq a59_46 ?_
      rw [if_neg (by omega)]
      exact ⟨⟨fun _ _ _ _ => rfl, rfl⟩, x1, x2, x3, x4, x5, x6⟩
    · refine r_loadI a59_13 rfl ?_
      refine r_loadA a59_15 rfl (by decide) ?_
      refine r_loadI a59_16 rfl ?_
      refine r_loadI a59_17 rfl ?_
      refine r_callI_3 a59_18 (Nat.le_of_ble_eq_true rfl) (le_mx mx37 (Nat.le_of_ble_eq_true rfl)) (Or.inr (recv_ok ty85 ow37 (by decide))) (c_Pa_leastFrom_85 dd z m i p ⟨h0, by omega⟩ hp) (fun x_18 m_18 h_18 => ?_)
      obtain ⟨hm_18, h_18⟩ := h_18
      rw [hm_18]
      have e18 : x_18 = 0 := by rw [h_18]; exact hL0
      rw [e18]
      refine r_add a59_21 (by omega) ?_
      refine r_loadA a59_22 rfl (by decide) ?_
      refine r_getI (ki := 3) a59_23 ty111 rfl ?_
      rw [e3]
      refine r_icgt a59_26 (fun h_26 => ?_) (fun h_26 => ?_)
      · refine r_retVq a59_46 ?_
        rw [if_neg (by omega)]
        exact ⟨⟨fun _ _ _ _ => rfl, rfl⟩, x1, x2, x3, x4, x5, x6⟩
      · refine r_loadL a59_29 rfl ?_
        refine r_statR a59_31 ?_
        refine r_loadI a59_34 rfl ?_
        refine r_lald a59_36 (by omega) ?_
        rw [hz0]
        refine r_lmul a59_37 (by omega) ?_
        refine r_loadA a59_38 rfl (by decide) ?_
        refine r_getL (ki := 0) a59_39 ty111 rfl ?_
        rw [x2]
        refine r_lcmp a59_42 ?_
        refine r_ifgt a59_43 (fun h_43 => ?_) (fun h_43 => ?_)
        · refine r_loadI a59_47 rfl ?_
          refine r_ifle a59_49 (fun h_49 => ?_) (fun h_49 => ?_)
          · refine r_loadA a59_64 rfl (by decide) ?_
            refine r_loadL a59_65 rfl ?_
            refine r_putL (ki := 0) a59_67 ty111 rfl ?_
            refine r_loadA a59_70 rfl (by decide) ?_
            refine r_getR a59_71 ty111 rf111_2 (by decide) ?_
            refine r_pushI a59_74 ?_
            refine r_loadA a59_75 rfl (by decide) ?_
            refine r_getR a59_76 ty111 rf111_1 (by decide) ?_
            refine r_pushI a59_79 ?_
            refine r_pushI a59_80 ?_
            refine r_copy a59_82 (by omega) ty113 ty112 (Or.inl rfl) (by decide) (by omega) ?_
            refine r_retVq a59_85 ?_
            rw [if_pos (by omega), upc_C]
            refine ⟨⟨fun c c1 c2 c3 => by rw [upC_n c2, up2_c c1], by rw [upC_n (by decide), up2_k (by decide)]⟩, fun k k1 k2 => ?_, ?_, ?_, ?_, ?_, fun _ k k1 k2 => ?_⟩
            · rw [upC_n (by decide), up2_c (by decide)]; exact x1 k k1 k2
            · rw [upC_n (by decide), up2_s]; rfl
            · show -1 ≤ ups
              omega
            · show 0 ≤ sMa x + 1
              omega
            · show 0 < sMa x + 1 ↔ 0 ≤ ups
              omega
            · rw [upC_s]
              show (if _ then _ else _) = keepR N (sTr x) (sBe x) k
              unfold keepR
              rw [if_pos (by omega), if_pos ⟨k1, k2⟩, up2_c (by decide)]
              rw [show (0 : Int) + (k - 0) = k by omega]
              exact x1 k k1 (by omega)
          · exfalso
            omega
        · refine r_retVq a59_46 ?_
          rw [if_neg (by omega)]
          exact ⟨⟨fun _ _ _ _ => rfl, rfl⟩, x1, x2, x3, x4, x5, x6⟩
  | succ n ih =>
    intro d z m i p time ups x hd hi h0 hp ht hu e0 hT hS e3 hx
    obtain ⟨dd, rfl⟩ : ∃ dd, d = dd + 1 := ⟨d - 1, by omega⟩
    push_cast at hi ht
    have hL := (hS i p h0 (by omega) hp.1 hp.2).1
    have eN : (N - i).toNat = n + 1 := by omega
    rw [eN] at hL
    have hLr := LC_r ((0 : Int) = 1) hR (n + 1) i p h0 (by push_cast; omega) hp.1 hp.2
    have e7 : m 85 0 - i = ((n + 1 : Nat) : Int) := by push_cast; omega
    have hc := lCmp_le (a := ups * p20 (n + 1)) (b := sMu x)
    have hz0 : zTab 3 ((n + 1 : Nat) : Int) = p20 (n + 1) := zTab3 (n + 1) (by omega)
    have p20p := p20_pos n
    have p20s : ups * p20 (n + 1) = ups * 20 * p20 n := by show ups * (20 * p20 n) = _; rw [Int.mul_assoc]
    have hpos : 0 ≤ ups * p20 (n + 1) := Int.mul_nonneg hu.1 (by have := p20_pos (n + 1); omega)
    have hups20 : ups * 20 ≤ 1280000000 := by
      have := Int.mul_le_mul_of_nonneg_left p20p (show 0 ≤ ups * 20 by omega)
      omega
    have idl : (time + (LC O T B ((0 : Int) = 1) (n + 1) i p).1 > lim ∨ ups * p20 (n + 1) ≤ sMu x) → FrS m m ∧ SafR m N i (sGo O T B N 2 lim seen (n + 1) i p time ups x) := by
      intro h
      obtain ⟨x1, x2, x3, x4, x5, x6⟩ := hx
      obtain ⟨i1, i2, i3, i4, i5⟩ := sGo_idle O T B N lim seen hO (n + 1) i p time ups x hu.1 h
      refine ⟨⟨fun _ _ _ _ => rfl, rfl⟩, fun k k1 k2 => by rw [i1 k k2]; exact x1 k k1 k2, by rw [i4]; exact x2, by rw [i4]; exact x3, by rw [i5]; exact x4, by rw [i4, i5]; exact x5, fun q k k1 k2 => ?_⟩
      rw [i2]; rw [i5] at q; exact x6 q k k1 k2
    have e2 : m 111 0 = sMu x := hx.2.1
    have pass : CV dd k_Sa_passBy z m [vR 111, vR 85, vI i, vI p, vI time, vL ups] (fun m' => FrS m m' ∧ SafR m' N i (sGo O T B N 2 lim seen (n + 1) i p time ups x)) := by
      obtain ⟨ee, rfl⟩ : ∃ ee, dd = ee + 1 := ⟨dd - 1, by omega⟩
      have step : ∀ (c : Int) (x : SS) (m1 : XM) (Q : Option XV → XH → Prop), 0 ≤ c → c < 3 → FrS m m1 → SafR m1 N i x →
          (∀ m2, FrS m m2 → SafR m2 N i (sBr O T B N 2 lim seen n i p time ups c x) →
            RZ (ee + 1) k_Sa_passBy 3 [vR 111, vR 85, vI i, vI p, vI time, vL ups, vR 0, vI (c + 1)] [] (zH z m2) Q) →
          RZ (ee + 1) k_Sa_passBy 3 [vR 111, vR 85, vI i, vI p, vI time, vL ups, vR 0, vI c] [] (zH z m1) Q := by
        intro c x m1 Q c1 c2 hF ⟨x1, x2, x3, x4, x5, x6⟩ kk
        obtain ⟨ro, rt, rb⟩ := hR i p c h0 (by omega) hp.1 hp.2 c1 c2
        have tab := TbE_cong (m' := m1) (hF.1 87 (by decide) (by decide) (by decide)) (hF.1 88 (by decide) (by decide) (by decide)) (hF.1 89 (by decide) (by decide) (by decide)) hT
        obtain ⟨t1, t2, t3⟩ := tab i p c h0 (by omega) hp.1 hp.2 c1 c2
        have sol : SolP m1 85 O T B ((0 : Int) = 1) N := by
          unfold SolP; rw [hF.1 (85 + 8) (by decide) (by decide) (by decide), hF.1 (85 + 9) (by decide) (by decide) (by decide)]; exact hS
        have hu2 : 0 ≤ ups * (20 - O i p c) ∧ ups * (20 - O i p c) ≤ 1280000000 := by
          have a1 := Int.mul_le_mul_of_nonneg_left (show 20 - O i p c ≤ 20 by omega) hu.1
          exact ⟨Int.mul_nonneg hu.1 (by omega), by omega⟩
        have hu3 : ups * (20 - O i p c) * p20 n ≤ 1280000000 := by
          have a1 := Int.mul_le_mul_of_nonneg_left (show 20 - O i p c ≤ 20 by omega) hu.1
          have a2 := Int.mul_le_mul_of_nonneg_right a1 (show 0 ≤ p20 n by omega)
          omega
        have es : sBr O T B N 2 lim seen n i p time ups c x = sGo O T B N 2 lim seen n (i + 1) (B i p c) (time + T i p c) (ups * (20 - O i p c)) (sTry i c x) := by
          unfold sBr; rw [if_neg (by omega)]
        rw [es] at kk
        refine r_loadI a60_3 rfl ?_
        refine r_pushI a60_5 ?_
        refine r_icge a60_6 (fun h_6 => ?_) (fun h_6 => ?_)
        · exfalso
          omega
        · refine r_loadA a60_9 rfl (by decide) ?_
          refine r_getR a60_10 ty111 rf111_2 (by decide) ?_
          refine r_loadI a60_13 rfl ?_
          refine r_loadI a60_14 rfl ?_
          refine r_iast a60_16 ty113 (by omega) ?_
          refine r_loadA a60_17 rfl (by decide) ?_
          refine r_loadA a60_18 rfl (by decide) ?_
          refine r_loadI a60_19 rfl ?_
          refine r_pushI a60_20 ?_
          refine r_add a60_21 (by omega) ?_
          refine r_loadA a60_22 rfl (by decide) ?_
          refine r_loadI a60_23 rfl ?_
          refine r_loadI a60_24 rfl ?_
          refine r_loadI a60_25 rfl ?_
          refine r_callI_4 a60_27 (Nat.le_of_ble_eq_true rfl) (le_mx mx35 (Nat.le_of_ble_eq_true rfl)) (Or.inr (recv_ok ty85 ow35 (by decide))) (c_Pa_paceAfter_85 ee z (up2 m1 113 i c) i p c (by omega) ⟨h0, by omega⟩ hp ⟨c1, c2⟩) (fun x_27 m_27 h_27 => ?_)
          obtain ⟨hm_27, h_27⟩ := h_27
          rw [hm_27]
          have e27 : x_27 = B i p c := by rw [h_27, up2_c (by decide)]; exact t3
          rw [e27]
          refine r_loadI a60_30 rfl ?_
          refine r_loadA a60_32 rfl (by decide) ?_
          refine r_loadI a60_33 rfl ?_
          refine r_loadI a60_34 rfl ?_
          refine r_loadI a60_35 rfl ?_
          refine r_callI_4 a60_37 (Nat.le_of_ble_eq_true rfl) (le_mx mx33 (Nat.le_of_ble_eq_true rfl)) (Or.inr (recv_ok ty85 ow33 (by decide))) (c_Pa_timeAt_85 ee z (up2 m1 113 i c) i p c (by omega) ⟨h0, by omega⟩ hp ⟨c1, c2⟩) (fun x_37 m_37 h_37 => ?_)
          obtain ⟨hm_37, h_37⟩ := h_37
          rw [hm_37]
          have e37 : x_37 = T i p c := by rw [h_37, up2_c (by decide)]; exact t2
          rw [e37]
          refine r_add a60_40 (by omega) ?_
          refine r_loadL a60_41 rfl ?_
          refine r_pushI a60_43 ?_
          refine r_loadA a60_45 rfl (by decide) ?_
          refine r_loadI a60_46 rfl ?_
          refine r_loadI a60_47 rfl ?_
          refine r_loadI a60_48 rfl ?_
          refine r_callI_4 a60_50 (Nat.le_of_ble_eq_true rfl) (le_mx mx34 (Nat.le_of_ble_eq_true rfl)) (Or.inr (recv_ok ty85 ow34 (by decide))) (c_Pa_overAt_85 ee z (up2 m1 113 i c) i p c (by omega) ⟨h0, by omega⟩ hp ⟨c1, c2⟩) (fun x_50 m_50 h_50 => ?_)
          obtain ⟨hm_50, h_50⟩ := h_50
          rw [hm_50]
          have e50 : x_50 = O i p c := by rw [h_50, up2_c (by decide)]; exact t1
          rw [e50]
          refine r_sub a60_53 (by omega) ?_
          refine r_i2l a60_54 ?_
          refine r_lmul a60_55 (by omega) ?_
          refine r_callV_6 a60_56 (Nat.le_of_ble_eq_true rfl) (le_mx mx59 (Nat.le_of_ble_eq_true rfl)) (Or.inr (recv_ok ty111 ow59 (by decide))) (ih ee z (up2 m1 113 i c) (i + 1) (B i p c) (time + T i p c) (ups * (20 - O i p c)) (sTry i c x) (by omega) (by omega) (by omega) (by omega) (by omega) ⟨hu2.1, hu3⟩ (by rw [up2_c (by decide), hF.1 85 (by decide) (by decide) (by decide)]; exact e0) (TbE_cong (up2_c (by decide)) (up2_c (by decide)) (up2_c (by decide)) tab) (by unfold SolP; rw [up2_c (by decide), up2_c (by decide)]; exact sol) (by rw [up2_c (by decide), hF.2]; exact e3) ⟨fun k k1 k2 => (by
            show up2 m1 113 i c 113 k = upi (sTr x) i c k
            by_cases e : k = i
            · rw [e, up2_s, upi_s]
            · rw [up2_k e, upi_n e]; exact x1 k k1 (by omega)), by rw [up2_c (by decide)]; exact x2, x3, x4, x5, fun q k k1 k2 => by rw [up2_c (by decide)]; exact x6 q k k1 k2⟩) (fun m_56 h_56 => ?_)
          obtain ⟨r1, r2, r3⟩ := h_56
          refine r_iinc_7 a60_59 rfl (by omega) ?_
          refine r_goto a60_62 ?_
          refine kk m_56 (FrS.trans hF (FrS.trans ⟨fun c c1 c2 c3 => up2_c c3, by rw [up2_c (by decide)]⟩ r1)) ⟨fun k k1 k2 => r2 k k1 (by omega), r3⟩
      refine r_entry mx60 rfl ?_
      refine r_pushI a60_0 ?_
      refine r_storeI_7 a60_1 rfl ?_
      rw [sGo_succ]
      refine step 0 x m _ (by omega) (by omega) ⟨fun _ _ _ _ => rfl, rfl⟩ hx (fun m2 f2 h2 => ?_)
      refine step 1 _ m2 _ (by omega) (by omega) f2 h2 (fun m3 f3 h3 => ?_)
      refine step 2 _ m3 _ (by omega) (by omega) f3 h3 (fun m4 f4 h4 => ?_)
      refine r_loadI a60_3 rfl ?_
      refine r_pushI a60_5 ?_
      refine r_icge a60_6 (fun _ => ?_) (fun h => absurd h (by decide))
      refine r_retVq a60_65 ?_
      exact ⟨f4, h4⟩
    refine r_entry mx59 rfl ?_
    refine r_loadA a59_0 rfl (by decide) ?_
    refine r_getI (ki := 0) a59_1 ty85 rfl ?_
    refine r_loadI a59_4 rfl ?_
    refine r_sub a59_5 (by omega) ?_
    rw [e7]
    refine r_storeI_7 a59_6 rfl ?_
    refine r_loadI a59_8 rfl ?_
    refine r_iflt a59_10 (fun h_10 => ?_) (fun h_10 => ?_)
    · exfalso
      omega
    · refine r_loadI a59_13 rfl ?_
      refine r_loadA a59_15 rfl (by decide) ?_
      refine r_loadI a59_16 rfl ?_
      refine r_loadI a59_17 rfl ?_
      refine r_callI_3 a59_18 (Nat.le_of_ble_eq_true rfl) (le_mx mx37 (Nat.le_of_ble_eq_true rfl)) (Or.inr (recv_ok ty85 ow37 (by decide))) (c_Pa_leastFrom_85 dd z m i p ⟨h0, by omega⟩ hp) (fun x_18 m_18 h_18 => ?_)
      obtain ⟨hm_18, h_18⟩ := h_18
      rw [hm_18]
      have e18 : x_18 = (LC O T B ((0 : Int) = 1) (n + 1) i p).1 := by rw [h_18]; exact hL
      rw [e18]
      refine r_add a59_21 (by omega) ?_
      refine r_loadA a59_22 rfl (by decide) ?_
      refine r_getI (ki := 3) a59_23 ty111 rfl ?_
      rw [e3]
      refine r_icgt a59_26 (fun h_26 => ?_) (fun h_26 => ?_)
      · refine r_retVq a59_46 ?_
        exact idl (by omega)
      · refine r_loadL a59_29 rfl ?_
        refine r_statR a59_31 ?_
        refine r_loadI a59_34 rfl ?_
        refine r_lald a59_36 (by omega) ?_
        rw [hz0]
        refine r_lmul a59_37 (by omega) ?_
        refine r_loadA a59_38 rfl (by decide) ?_
        refine r_getL (ki := 0) a59_39 ty111 rfl ?_
        rw [e2]
        refine r_lcmp a59_42 ?_
        refine r_ifgt a59_43 (fun h_43 => ?_) (fun h_43 => ?_)
        · refine r_loadI a59_47 rfl ?_
          refine r_ifle a59_49 (fun h_49 => ?_) (fun h_49 => ?_)
          · exfalso
            omega
          · refine r_loadA a59_52 rfl (by decide) ?_
            refine r_loadA a59_53 rfl (by decide) ?_
            refine r_loadI a59_54 rfl ?_
            refine r_loadI a59_55 rfl ?_
            refine r_loadI a59_56 rfl ?_
            refine r_loadL a59_58 rfl ?_
            refine r_callV_6 a59_60 (Nat.le_of_ble_eq_true rfl) (le_mx mx60 (Nat.le_of_ble_eq_true rfl)) (Or.inr (recv_ok ty111 ow60 (by decide))) (pass) (fun m_60 h_60 => ?_)
            refine r_retVq a59_63 ?_
            exact h_60
        · refine r_retVq a59_46 ?_
          exact idl (by omega)
/-- no search yet -/
abbrev x00 : SS := (fun _ => 0, fun _ => 0, 1000000, -1, 0)
theorem c_Sa_search (d z : Nat) (m : XM) (O T B : TF) (N lim : Int) (seen : Int → Int → Prop) [∀ i t, Decidable (seen i t)] (hd : 18 ≤ d) (hO : ∀ i p c, 0 ≤ O i p c ∧ O i p c ≤ 20) (hR : RgE O T B N) (hN : 0 ≤ N ∧ N ≤ 7)
    (e0 : m 85 0 = N) (hT : TbE m 85 O T B N) (hS : SolP m 85 O T B ((0 : Int) = 1) N) :
    CV d k_Sa_search z m [vR 111, vR 85, vI lim] (fun m' => (∀ c, c ≠ 111 → c ≠ 112 → c ≠ 113 → m' c = m c) ∧ SafR m' N 0 (sGo O T B N 2 lim seen N.toNat 0 3 0 1 x00)) := by
  obtain ⟨dd, rfl⟩ : ∃ dd, d = dd + 1 := ⟨d - 1, by omega⟩
  have b20 := p20_le N.toNat (by omega)
  refine r_entry mx58 rfl ?_
  refine r_loadA a58_0 rfl (by decide) ?_
  refine r_loadI a58_1 rfl ?_
  refine r_putI (ki := 3) a58_2 ty111 rfl ?_
  refine r_loadA a58_5 rfl (by decide) ?_
  refine r_pushL a58_6 ?_
  refine r_putL (ki := 0) a58_9 ty111 rfl ?_
  refine r_loadA a58_12 rfl (by decide) ?_
  refine r_loadA a58_13 rfl (by decide) ?_
  refine r_pushI a58_14 ?_
  refine r_pushI a58_15 ?_
  refine r_pushI a58_16 ?_
  refine r_pushL a58_17 ?_
  refine r_callV_6 a58_18 (Nat.le_of_ble_eq_true rfl) (le_mx mx59 (Nat.le_of_ble_eq_true rfl)) (Or.inr (recv_ok ty111 ow59 (by decide))) (c_Sa_reach O T B N lim seen hO hR hN N.toNat dd z _ 0 3 0 1 x00 (by omega) (by omega) (by omega) (by omega) (by omega) (by omega) (by rw [up2_c (by decide), up2_c (by decide)]; exact e0) (TbE_cong (by rw [up2_c (by decide), up2_c (by decide)]) (by rw [up2_c (by decide), up2_c (by decide)]) (by rw [up2_c (by decide), up2_c (by decide)]) hT) (by unfold SolP; rw [up2_c (by decide), up2_c (by decide), up2_c (by decide), up2_c (by decide)]; exact hS) (by rw [up2_k (by decide), up2_s]) ⟨fun k k1 k2 => by omega, by rw [up2_s]; rfl, by decide, by decide, by decide, fun q => absurd q (by decide)⟩) (fun m_18 h_18 => ?_)
  refine r_retVq a58_21 ?_
  exact ⟨fun c c1 c2 c3 => by rw [h_18.1.1 c c1 c2 c3, up2_c c1, up2_c c1], h_18.2⟩
-- ===== the class: lines that fit =====
def MatR (m : XM) (N i : Int) (x : SS) : Prop :=
  (∀ k, 0 ≤ k → k < i → m 116 k = sTr x k) ∧ m 114 3 = sMa x ∧ 0 ≤ sMa x ∧ (0 < sMa x → ∀ k, 0 ≤ k → k < N → m 115 k = sBe x k)
def FrM (m m' : XM) : Prop := (∀ c, c ≠ 114 → c ≠ 115 → c ≠ 116 → m' c = m c)
theorem FrM.trans {a b c : XM} (h1 : FrM a b) (h2 : FrM b c) : FrM a c := fun x x1 x2 x3 => (h2 x x1 x2 x3).trans (h1 x x1 x2 x3)
theorem c_Ma_reach (O T B : TF) (N lim : Int) (seen : Int → Int → Prop) [∀ i t, Decidable (seen i t)] (due : Int → Int) (hdue : ∀ i t, 0 ≤ i → i < N → 0 ≤ t → (seen i t ↔ (due i = -1 ∨ due i = t))) (hR : RgE O T B N) (hN : 0 ≤ N ∧ N ≤ 7) :
    ∀ (n : Nat) (d z : Nat) (m : XM) (i p time ups : Int) (x : SS), 2 * n + 3 ≤ d → i + n = N → 0 ≤ i → (0 ≤ p ∧ p < 10) → (0 ≤ time ∧ time + 21000 * n ≤ 150000) →
      m 85 0 = N → TbE m 85 O T B N → m 117 = due → MatR m N i x → sMa x + p3 n ≤ 3000 →
      CV d k_Ma_reach z m [vR 114, vR 85, vI i, vI p, vI time] (fun m' => FrM m m' ∧ MatR m' N i (sGo O T B N 3 lim seen n i p time ups x)) := by
  intro n
  induction n with
  | zero =>
    intro d z m i p time ups x hd hi h0 hp ht e0 hT eD hx hma
    obtain ⟨dd, rfl⟩ : ∃ dd, d = dd + 1 := ⟨d - 1, by omega⟩
    have hi2 : i = N := by omega
    have p31 : p3 0 = 1 := rfl
    obtain ⟨x1, x2, x3, x4⟩ := hx
    have es : sGo O T B N 3 lim seen 0 i p time ups x = if sMa x = 0 then (sTr x, keepR N (sTr x) (sBe x), sLt x, sMu x, sMa x + 1) else (sTr x, sBe x, sLt x, sMu x, sMa x + 1) := by
      show sEnd N 3 lim time ups x = _
      unfold sEnd; rw [if_neg (by decide), if_pos rfl]
    rw [es]
    refine r_entry mx18 rfl ?_
    refine r_loadI a18_0 rfl ?_
    refine r_loadA a18_1 rfl (by decide) ?_
    refine r_getI (ki := 0) a18_2 ty85 rfl ?_
    rw [e0]
    refine r_icge a18_5 (fun h_5 => ?_) (fun h_5 => ?_)
    · refine r_loadA a18_18 rfl (by decide) ?_
      refine r_getI (ki := 3) a18_19 ty114 rfl ?_
      rw [x2]
      refine r_ifne a18_22 (fun h_22 => ?_) (fun h_22 => ?_)
      · refine r_loadA a18_40 rfl (by decide) ?_
        refine r_dup a18_41 rfl ?_
        refine r_getI (ki := 3) a18_42 ty114 rfl ?_
        first | rw [upc_C, upC_n (by decide), x2] | rw [x2]
        refine r_pushI a18_45 ?_
        refine r_add a18_46 (by omega) ?_
        refine r_putI (ki := 3) a18_47 ty114 rfl ?_
        refine r_retVq a18_50 ?_
        first
          | (rw [if_pos (by omega), ← upc_C]
             refine ⟨fun c c1 c2 c3 => by rw [up2_c c1, upc_C, upC_n c2], fun k k1 k2 => ?_, ?_, ?_, fun _ k k1 k2 => ?_⟩
             · rw [up2_c (by decide), upc_C, upC_n (by decide)]; exact x1 k k1 k2
             · rw [up2_s]; rfl
             · show 0 ≤ sMa x + 1
               omega
             · rw [up2_c (by decide), upc_C, upC_s]
               show (if _ then _ else _) = keepR N (sTr x) (sBe x) k
               unfold keepR
               rw [if_pos (by omega), if_pos ⟨k1, k2⟩]
               rw [show (0 : Int) + (k - 0) = k by omega]
               exact x1 k k1 (by omega))
          | (rw [if_neg (by omega)]
             refine ⟨fun c c1 c2 c3 => by rw [up2_c c1], fun k k1 k2 => ?_, ?_, ?_, fun _ k k1 k2 => ?_⟩
             · rw [up2_c (by decide)]; exact x1 k k1 k2
             · rw [up2_s]; rfl
             · show 0 ≤ sMa x + 1
               omega
             · rw [up2_c (by decide)]; exact x4 (by omega) k k1 k2)
      · refine r_loadA a18_25 rfl (by decide) ?_
        refine r_getR a18_26 ty114 rf114_1 (by decide) ?_
        refine r_pushI a18_29 ?_
        refine r_loadA a18_30 rfl (by decide) ?_
        refine r_getR a18_31 ty114 rf114_0 (by decide) ?_
        refine r_pushI a18_34 ?_
        refine r_pushI a18_35 ?_
        refine r_copy a18_37 (by omega) ty116 ty115 (Or.inl rfl) (by decide) (by omega) ?_
        refine r_loadA a18_40 rfl (by decide) ?_
        refine r_dup a18_41 rfl ?_
        refine r_getI (ki := 3) a18_42 ty114 rfl ?_
        first | rw [upc_C, upC_n (by decide), x2] | rw [x2]
        refine r_pushI a18_45 ?_
        refine r_add a18_46 (by omega) ?_
        refine r_putI (ki := 3) a18_47 ty114 rfl ?_
        refine r_retVq a18_50 ?_
        first
          | (rw [if_pos (by omega), ← upc_C]
             refine ⟨fun c c1 c2 c3 => by rw [up2_c c1, upc_C, upC_n c2], fun k k1 k2 => ?_, ?_, ?_, fun _ k k1 k2 => ?_⟩
             · rw [up2_c (by decide), upc_C, upC_n (by decide)]; exact x1 k k1 k2
             · rw [up2_s]; rfl
             · show 0 ≤ sMa x + 1
               omega
             · rw [up2_c (by decide), upc_C, upC_s]
               show (if _ then _ else _) = keepR N (sTr x) (sBe x) k
               unfold keepR
               rw [if_pos (by omega), if_pos ⟨k1, k2⟩]
               rw [show (0 : Int) + (k - 0) = k by omega]
               exact x1 k k1 (by omega))
          | (rw [if_neg (by omega)]
             refine ⟨fun c c1 c2 c3 => by rw [up2_c c1], fun k k1 k2 => ?_, ?_, ?_, fun _ k k1 k2 => ?_⟩
             · rw [up2_c (by decide)]; exact x1 k k1 k2
             · rw [up2_s]; rfl
             · show 0 ≤ sMa x + 1
               omega
             · rw [up2_c (by decide)]; exact x4 (by omega) k k1 k2)
    · exfalso
      omega
  | succ n ih =>
    intro d z m i p time ups x hd hi h0 hp ht e0 hT eD hx hma
    obtain ⟨dd, rfl⟩ : ∃ dd, d = dd + 1 := ⟨d - 1, by omega⟩
    push_cast at hi ht
    have p3s : p3 (n + 1) = 3 * p3 n := rfl
    have p3p := p3_pos n
    have pass : CV dd k_Ma_passBy z m [vR 114, vR 85, vI i, vI p, vI time] (fun m' => FrM m m' ∧ MatR m' N i (sGo O T B N 3 lim seen (n + 1) i p time ups x)) := by
      obtain ⟨ee, rfl⟩ : ∃ ee, dd = ee + 1 := ⟨dd - 1, by omega⟩
      have step : ∀ (c : Int) (x : SS) (m1 : XM) (y6 : XV) (Q : Option XV → XH → Prop), 0 ≤ c → c < 3 → FrM m m1 → MatR m1 N i x → sMa x + p3 n ≤ 3000 →
          (∀ m2 y6, FrM m m2 → MatR m2 N i (sBr O T B N 3 lim seen n i p time ups c x) →
            RZ (ee + 1) k_Ma_passBy 3 [vR 114, vR 85, vI i, vI p, vI time, vI (c + 1), y6] [] (zH z m2) Q) →
          RZ (ee + 1) k_Ma_passBy 3 [vR 114, vR 85, vI i, vI p, vI time, vI c, y6] [] (zH z m1) Q := by
        intro c x m1 y6 Q c1 c2 hF ⟨x1, x2, x3, x4⟩ hma kk
        obtain ⟨ro, rt, rb⟩ := hR i p c h0 (by omega) hp.1 hp.2 c1 c2
        have tab := TbE_cong (m' := m1) (hF 87 (by decide) (by decide) (by decide)) (hF 88 (by decide) (by decide) (by decide)) (hF 89 (by decide) (by decide) (by decide)) hT
        obtain ⟨t1, t2, t3⟩ := tab i p c h0 (by omega) hp.1 hp.2 c1 c2
        have eD1 : m1 117 = due := by rw [hF 117 (by decide) (by decide) (by decide)]; exact eD
        have hd2 := hdue i (time + T i p c) h0 (by omega) (by omega)
        refine r_loadI a19_3 rfl ?_
        refine r_pushI a19_5 ?_
        refine r_icge a19_6 (fun h_6 => ?_) (fun h_6 => ?_)
        · exfalso
          omega
        · refine r_loadI a19_9 rfl ?_
          refine r_loadA a19_11 rfl (by decide) ?_
          refine r_loadI a19_12 rfl ?_
          refine r_loadI a19_13 rfl ?_
          refine r_loadI a19_14 rfl ?_
          refine r_callI_4 a19_16 (Nat.le_of_ble_eq_true rfl) (le_mx mx33 (Nat.le_of_ble_eq_true rfl)) (Or.inr (recv_ok ty85 ow33 (by decide))) (c_Pa_timeAt_85 ee z m1 i p c (by omega) ⟨h0, by omega⟩ hp ⟨c1, c2⟩) (fun x_16 m_16 h_16 => ?_)
          obtain ⟨hm_16, h_16⟩ := h_16
          rw [hm_16]
          have e16 : x_16 = T i p c := by rw [h_16]; exact t2
          rw [e16]
          refine r_add a19_19 (by omega) ?_
          refine r_storeI_6 a19_20 rfl ?_
          refine r_loadA a19_22 rfl (by decide) ?_
          refine r_getR a19_23 ty114 rf114_2 (by decide) ?_
          refine r_loadI a19_26 rfl ?_
          refine r_iald a19_27 ty117 (by omega) ?_
          refine r_pushI a19_28 ?_
          rw [eD1]
          refine r_iceq a19_29 (fun h_29 => ?_) (fun h_29 => ?_)
          · have es : sBr O T B N 3 lim seen n i p time ups c x = sGo O T B N 3 lim seen n (i + 1) (B i p c) (time + T i p c) (ups * (20 - O i p c)) (sTry i c x) := by
              unfold sBr; rw [if_neg]
              rintro (⟨q, _⟩ | ⟨_, q⟩)
              · exact absurd q (by decide)
              · exact q (hd2.2 (by omega))
            rw [es] at kk
            refine r_loadA a19_43 rfl (by decide) ?_
            refine r_getR a19_44 ty114 rf114_1 (by decide) ?_
            refine r_loadI a19_47 rfl ?_
            refine r_loadI a19_48 rfl ?_
            refine r_iast a19_50 ty116 (by omega) ?_
            refine r_loadA a19_51 rfl (by decide) ?_
            refine r_loadA a19_52 rfl (by decide) ?_
            refine r_loadI a19_53 rfl ?_
            refine r_pushI a19_54 ?_
            refine r_add a19_55 (by omega) ?_
            refine r_loadA a19_56 rfl (by decide) ?_
            refine r_loadI a19_57 rfl ?_
            refine r_loadI a19_58 rfl ?_
            refine r_loadI a19_59 rfl ?_
            refine r_callI_4 a19_61 (Nat.le_of_ble_eq_true rfl) (le_mx mx35 (Nat.le_of_ble_eq_true rfl)) (Or.inr (recv_ok ty85 ow35 (by decide))) (c_Pa_paceAfter_85 ee z (up2 m1 116 i c) i p c (by omega) ⟨h0, by omega⟩ hp ⟨c1, c2⟩) (fun x_61 m_61 h_61 => ?_)
            obtain ⟨hm_61, h_61⟩ := h_61
            rw [hm_61]
            have e61 : x_61 = B i p c := by rw [h_61, up2_c (by decide)]; exact t3
            rw [e61]
            refine r_loadI a19_64 rfl ?_
            refine r_callV_5 a19_66 (Nat.le_of_ble_eq_true rfl) (le_mx mx18 (Nat.le_of_ble_eq_true rfl)) (Or.inr (recv_ok ty114 ow18 (by decide))) (ih ee z (up2 m1 116 i c) (i + 1) (B i p c) (time + T i p c) (ups * (20 - O i p c)) (sTry i c x) (by omega) (by omega) (by omega) (by omega) (by omega) (by rw [up2_c (by decide), hF 85 (by decide) (by decide) (by decide)]; exact e0) (TbE_cong (up2_c (by decide)) (up2_c (by decide)) (up2_c (by decide)) tab) (by rw [up2_c (by decide)]; exact eD1) ⟨fun k k1 k2 => (by
              show up2 m1 116 i c 116 k = upi (sTr x) i c k
              by_cases e : k = i
              · rw [e, up2_s, upi_s]
              · rw [up2_k e, upi_n e]; exact x1 k k1 (by omega)), by rw [up2_c (by decide)]; exact x2, x3, fun q k k1 k2 => by rw [up2_c (by decide)]; exact x4 q k k1 k2⟩ hma) (fun m_66 h_66 => ?_)
            obtain ⟨r1, r2, r3⟩ := h_66
            refine r_iinc_5 a19_69 rfl (by omega) ?_
            refine r_goto a19_72 ?_
            exact kk m_66 _ (FrM.trans hF (FrM.trans (fun c c1 c2 c3 => up2_c c3) r1)) ⟨fun k k1 k2 => r2 k k1 (by omega), r3⟩
          · refine r_loadA a19_32 rfl (by decide) ?_
            refine r_getR a19_33 ty114 rf114_2 (by decide) ?_
            refine r_loadI a19_36 rfl ?_
            refine r_iald a19_37 ty117 (by omega) ?_
            refine r_loadI a19_38 rfl ?_
            rw [eD1]
            refine r_icne a19_40 (fun h_40 => ?_) (fun h_40 => ?_)
            · refine r_iinc_5 a19_69 rfl (by omega) ?_
              refine r_goto a19_72 ?_
              have es : sBr O T B N 3 lim seen n i p time ups c x = x := by
                unfold sBr; rw [if_pos (Or.inr ⟨rfl, fun q => by have := hd2.1 q; omega⟩)]
              rw [es] at kk
              exact kk m1 _ hF ⟨x1, x2, x3, x4⟩
            · have es : sBr O T B N 3 lim seen n i p time ups c x = sGo O T B N 3 lim seen n (i + 1) (B i p c) (time + T i p c) (ups * (20 - O i p c)) (sTry i c x) := by
                unfold sBr; rw [if_neg]
                rintro (⟨q, _⟩ | ⟨_, q⟩)
                · exact absurd q (by decide)
                · exact q (hd2.2 (by omega))
              rw [es] at kk
              refine r_loadA a19_43 rfl (by decide) ?_
              refine r_getR a19_44 ty114 rf114_1 (by decide) ?_
              refine r_loadI a19_47 rfl ?_
              refine r_loadI a19_48 rfl ?_
              refine r_iast a19_50 ty116 (by omega) ?_
              refine r_loadA a19_51 rfl (by decide) ?_
              refine r_loadA a19_52 rfl (by decide) ?_
              refine r_loadI a19_53 rfl ?_
              refine r_pushI a19_54 ?_
              refine r_add a19_55 (by omega) ?_
              refine r_loadA a19_56 rfl (by decide) ?_
              refine r_loadI a19_57 rfl ?_
              refine r_loadI a19_58 rfl ?_
              refine r_loadI a19_59 rfl ?_
              refine r_callI_4 a19_61 (Nat.le_of_ble_eq_true rfl) (le_mx mx35 (Nat.le_of_ble_eq_true rfl)) (Or.inr (recv_ok ty85 ow35 (by decide))) (c_Pa_paceAfter_85 ee z (up2 m1 116 i c) i p c (by omega) ⟨h0, by omega⟩ hp ⟨c1, c2⟩) (fun x_61 m_61 h_61 => ?_)
              obtain ⟨hm_61, h_61⟩ := h_61
              rw [hm_61]
              have e61 : x_61 = B i p c := by rw [h_61, up2_c (by decide)]; exact t3
              rw [e61]
              refine r_loadI a19_64 rfl ?_
              refine r_callV_5 a19_66 (Nat.le_of_ble_eq_true rfl) (le_mx mx18 (Nat.le_of_ble_eq_true rfl)) (Or.inr (recv_ok ty114 ow18 (by decide))) (ih ee z (up2 m1 116 i c) (i + 1) (B i p c) (time + T i p c) (ups * (20 - O i p c)) (sTry i c x) (by omega) (by omega) (by omega) (by omega) (by omega) (by rw [up2_c (by decide), hF 85 (by decide) (by decide) (by decide)]; exact e0) (TbE_cong (up2_c (by decide)) (up2_c (by decide)) (up2_c (by decide)) tab) (by rw [up2_c (by decide)]; exact eD1) ⟨fun k k1 k2 => (by
                show up2 m1 116 i c 116 k = upi (sTr x) i c k
                by_cases e : k = i
                · rw [e, up2_s, upi_s]
                · rw [up2_k e, upi_n e]; exact x1 k k1 (by omega)), by rw [up2_c (by decide)]; exact x2, x3, fun q k k1 k2 => by rw [up2_c (by decide)]; exact x4 q k k1 k2⟩ hma) (fun m_66 h_66 => ?_)
              obtain ⟨r1, r2, r3⟩ := h_66
              refine r_iinc_5 a19_69 rfl (by omega) ?_
              refine r_goto a19_72 ?_
              exact kk m_66 _ (FrM.trans hF (FrM.trans (fun c c1 c2 c3 => up2_c c3) r1)) ⟨fun k k1 k2 => r2 k k1 (by omega), r3⟩
      have b0 := sGo_ma O T B N 3 lim seen n
      have brm : ∀ (c : Int) (y : SS), sMa (sBr O T B N 3 lim seen n i p time ups c y) ≤ sMa y + p3 n := by
        intro c y
        unfold sBr
        split
        · omega
        · exact (b0 _ _ _ _ _).2
      have m0 := brm 0 x
      have m1 := brm 1 (sBr O T B N 3 lim seen n i p time ups 0 x)
      refine r_entry mx19 rfl ?_
      refine r_pushI a19_0 ?_
      refine r_storeI_5 a19_1 rfl ?_
      rw [sGo_succ]
      refine step 0 x m _ _ (by omega) (by omega) (fun _ _ _ _ => rfl) hx (by omega) (fun m2 _ f2 h2 => ?_)
      refine step 1 _ m2 _ _ (by omega) (by omega) f2 h2 (by omega) (fun m3 _ f3 h3 => ?_)
      refine step 2 _ m3 _ _ (by omega) (by omega) f3 h3 (by omega) (fun m4 _ f4 h4 => ?_)
      refine r_loadI a19_3 rfl ?_
      refine r_pushI a19_5 ?_
      refine r_icge a19_6 (fun _ => ?_) (fun h => absurd h (by decide))
      refine r_retVq a19_75 ?_
      exact ⟨f4, h4⟩
    refine r_entry mx18 rfl ?_
    refine r_loadI a18_0 rfl ?_
    refine r_loadA a18_1 rfl (by decide) ?_
    refine r_getI (ki := 0) a18_2 ty85 rfl ?_
    rw [e0]
    refine r_icge a18_5 (fun h_5 => ?_) (fun h_5 => ?_)
    · exfalso
      omega
    · refine r_loadA a18_8 rfl (by decide) ?_
      refine r_loadA a18_9 rfl (by decide) ?_
      refine r_loadI a18_10 rfl ?_
      refine r_loadI a18_11 rfl ?_
      refine r_loadI a18_12 rfl ?_
      refine r_callV_5 a18_14 (Nat.le_of_ble_eq_true rfl) (le_mx mx19 (Nat.le_of_ble_eq_true rfl)) (Or.inr (recv_ok ty114 ow19 (by decide))) (pass) (fun m_14 h_14 => ?_)
      refine r_retVq a18_17 ?_
      exact h_14
/-- when a skier is due at gates, as seen -/
def dueS (s : Int → Int) : Nat → Int → Int
  | 0, _ => -1
  | n + 1, i => if s (69 + n) = i then (if dueS s n i = -1 ∨ dueS s n i = s (76 + n) then s (76 + n) else -2) else dueS s n i
theorem dueS_seen {s : Int → Int} (hS : okS s) : ∀ (n : Nat), n ≤ 7 → ∀ i t : Int, 0 ≤ t → (seenS s n i t = true ↔ (dueS s n i = -1 ∨ dueS s n i = t)) := by
  intro n
  induction n with
  | zero => intro _ i t _; exact ⟨fun _ => Or.inl rfl, fun _ => rfl⟩
  | succ n ih =>
    intro hn i t ht
    have h1 := ih (by omega) i t ht
    have h2 := (hS.2.2.2.2.1 n (by omega) (by omega)).2.1
    show (seenS s n i t && (decide (s (69 + n) ≠ i) || decide (s (76 + n) = t))) = true ↔ ((if s (69 + n) = i then (if dueS s n i = -1 ∨ dueS s n i = s (76 + n) then s (76 + n) else -2) else dueS s n i) = -1 ∨ (if s (69 + n) = i then (if dueS s n i = -1 ∨ dueS s n i = s (76 + n) then s (76 + n) else -2) else dueS s n i) = t)
    rw [Bool.and_eq_true, Bool.or_eq_true, decide_eq_true_iff, decide_eq_true_iff, h1]
    by_cases e : s (69 + n) = i
    · rw [if_pos e]
      by_cases q : dueS s n i = -1 ∨ dueS s n i = s (76 + n)
      · rw [if_pos q]; omega
      · rw [if_neg q]; omega
    · rw [if_neg e]; omega
theorem c_Ma_search (d z : Nat) (m : XM) (s : Int → Int) (O T B : TF) (lim : Int) (hd : 18 ≤ d) (hS : okS s) (hR : RgE O T B (s 0))
    (e0 : m 85 0 = s 0) (hT : TbE m 85 O T B (s 0)) (h49 : m 49 0 = s 3) (hk : ∀ k, 0 ≤ k → k < 7 → m 50 k = s (69 + k) ∧ m 51 k = s (76 + k)) :
    CI d k_Ma_search z m [vR 114, vR 85, vR 49] (fun x m' => (∀ c, c ≠ 114 → c ≠ 115 → c ≠ 116 → c ≠ 117 → m' c = m c) ∧ MatR m' (s 0) 0 (sGo O T B (s 0) 3 lim (seenP s) (s 0).toNat 0 3 0 1 x00) ∧ x = sMa (sGo O T B (s 0) 3 lim (seenP s) (s 0).toNat 0 3 0 1 x00)) := by
  obtain ⟨dd, rfl⟩ : ∃ dd, d = dd + 1 := ⟨d - 1, by omega⟩
  have hN := hS.1.1
  have h3 := hS.1.2.2.2.1
  have b3 : p3 (s 0).toNat ≤ 2187 := by
    have : (s 0).toNat = 0 ∨ (s 0).toNat = 1 ∨ (s 0).toNat = 2 ∨ (s 0).toNat = 3 ∨ (s 0).toNat = 4 ∨ (s 0).toNat = 5 ∨ (s 0).toNat = 6 ∨ (s 0).toNat = 7 := by omega
    rcases this with h | h | h | h | h | h | h | h <;> rw [h] <;> decide
  obtain ⟨PO, hPO⟩ : ∃ PO : Int → XM → Prop, (fun x m' => (∀ c, c ≠ 114 → c ≠ 115 → c ≠ 116 → c ≠ 117 → m' c = m c) ∧ MatR m' (s 0) 0 (sGo O T B (s 0) 3 lim (seenP s) (s 0).toNat 0 3 0 1 x00) ∧ x = sMa (sGo O T B (s 0) 3 lim (seenP s) (s 0).toNat 0 3 0 1 x00)) = PO := ⟨_, rfl⟩
  rw [hPO]
  have loop : ∀ (c j : Nat) (m1 : XM) (y4 : XV), (j : Int) + c = s 3 → (∀ c, c ≠ 114 → c ≠ 117 → m1 c = m c) → m1 114 3 = 0 → (∀ i, 0 ≤ i → i < 7 → m1 117 i = dueS s j i) →
      RZ (dd + 1) k_Ma_search 28 [vR 114, vR 85, vR 49, vI (j : Int), y4] [] (zH z m1) (qz z (qi PO)) := by
    intro c
    induction c with
    | zero =>
      intro j m1 y4 hj fr f3 hdu
      have ej : (s 3).toNat = j := by omega
      refine r_loadI a17_28 rfl ?_
      refine r_loadA a17_29 rfl (by decide) ?_
      refine r_getI (ki := 0) a17_30 ty49 rfl ?_
      rw [fr 49 (by decide) (by decide), h49]
      refine r_icge a17_33 (fun h_33 => ?_) (fun h_33 => ?_)
      · refine r_loadA a17_95 rfl (by decide) ?_
        refine r_loadA a17_96 rfl (by decide) ?_
        refine r_pushI a17_97 ?_
        refine r_pushI a17_98 ?_
        refine r_pushI a17_99 ?_
        refine r_callV_5 a17_100 (Nat.le_of_ble_eq_true rfl) (le_mx mx18 (Nat.le_of_ble_eq_true rfl)) (Or.inr (recv_ok ty114 ow18 (by decide))) (c_Ma_reach O T B (s 0) lim (seenP s) (m1 117) (fun i t i1 i2 t1 => by
          rw [hdu i i1 (by omega)]
          have := dueS_seen hS (s 3).toNat (by omega) i t t1
          rw [ej] at this
          rw [← this]
          show seenS s (s 3).toNat i t = true ↔ _
          rw [ej]) hR hN (s 0).toNat dd z m1 0 3 0 1 x00 (by omega) (by omega) (by omega) (by omega) (by omega) (by rw [fr 85 (by decide) (by decide)]; exact e0) (TbE_cong (fr 87 (by decide) (by decide)) (fr 88 (by decide) (by decide)) (fr 89 (by decide) (by decide)) hT) rfl ⟨fun k k1 k2 => by omega, by rw [f3]; rfl, by decide, fun q => absurd q (by decide)⟩ (by show (0 : Int) + _ ≤ 3000; omega)) (fun m_100 h_100 => ?_)
        refine r_loadA a17_103 rfl (by decide) ?_
        refine r_getI (ki := 3) a17_104 ty114 rfl ?_
        refine r_retIq a17_107 ?_
        rw [← hPO]
        exact ⟨fun c c1 c2 c3 c4 => by rw [h_100.1 c c1 c2 c3]; exact fr c c1 c4, h_100.2, h_100.2.2.1⟩
      · exfalso
        omega
    | succ c ih =>
      intro j m1 y4 hj fr f3 hdu
      have hjn : j < 7 := by omega
      obtain ⟨k1, k2⟩ := hk j (by omega) (by omega)
      obtain ⟨o1, o2⟩ := hS.2.2.2.2.1 j (by omega) (by omega)
      have o3 := o1.2 (by omega)
      have eD : m1 117 (s (69 + j)) = dueS s j (s (69 + j)) := hdu _ o1.1 (by omega)
      have eS : ∀ i, dueS s (j + 1) i = if s (69 + j) = i then (if dueS s j i = -1 ∨ dueS s j i = s (76 + j) then s (76 + j) else -2) else dueS s j i := fun i => rfl
      have fin : ∀ (v : Int) (y4 : XV), v = dueS s (j + 1) (s (69 + j)) → RZ (dd + 1) k_Ma_search 88 [vR 114, vR 85, vR 49, vI (j : Int), y4] [vI v, vI (s (69 + j)), vR 117] (zH z m1) (qz z (qi PO)) := by
        intro v y4 hv
        refine r_iast a17_88 ty117 (by omega) ?_
        refine r_iinc_3 a17_89 rfl (by omega) ?_
        refine r_goto a17_92 ?_
        refine ih (j + 1) _ y4 (by push_cast; omega) (fun c c1 c2 => by rw [up2_c c2]; exact fr c c1 c2) (by rw [up2_c (by decide)]; exact f3) (fun i i1 i2 => ?_)
        by_cases e : i = s (69 + j)
        · rw [e, up2_s]; exact hv
        · rw [up2_k e, eS, if_neg (fun q => e q.symm)]; exact hdu i i1 i2
      rw [eS, if_pos rfl] at fin
      refine r_loadI a17_28 rfl ?_
      refine r_loadA a17_29 rfl (by decide) ?_
      refine r_getI (ki := 0) a17_30 ty49 rfl ?_
      rw [fr 49 (by decide) (by decide), h49]
      refine r_icge a17_33 (fun h_33 => ?_) (fun h_33 => ?_)
      · exfalso
        omega
      · refine r_loadA a17_36 rfl (by decide) ?_
        refine r_getR a17_37 ty49 rf49_1 (by decide) ?_
        refine r_loadI a17_40 rfl ?_
        refine r_iald a17_41 ty50 (by omega) ?_
        rw [fr 50 (by decide) (by decide), k1]
        refine r_storeI_4 a17_42 rfl ?_
        refine r_loadA a17_44 rfl (by decide) ?_
        refine r_getR a17_45 ty114 rf114_2 (by decide) ?_
        refine r_loadI a17_48 rfl ?_
        refine r_loadA a17_50 rfl (by decide) ?_
        refine r_getR a17_51 ty114 rf114_2 (by decide) ?_
        refine r_loadI a17_54 rfl ?_
        refine r_iald a17_56 ty117 (by omega) ?_
        rw [eD]
        refine r_pushI a17_57 ?_
        refine r_iceq a17_58 (fun h_58 => ?_) (fun h_58 => ?_)
        · refine r_loadA a17_77 rfl (by decide) ?_
          refine r_getR a17_78 ty49 rf49_2 (by decide) ?_
          refine r_loadI a17_81 rfl ?_
          refine r_iald a17_82 ty51 (by omega) ?_
          rw [fr 51 (by decide) (by decide), k2]
          refine r_goto a17_83 ?_
          exact fin _ _ (by first | rw [if_pos (by omega)] | rw [if_neg (by omega)])
        · refine r_loadA a17_61 rfl (by decide) ?_
          refine r_getR a17_62 ty114 rf114_2 (by decide) ?_
          refine r_loadI a17_65 rfl ?_
          refine r_iald a17_67 ty117 (by omega) ?_
          rw [eD]
          refine r_loadA a17_68 rfl (by decide) ?_
          refine r_getR a17_69 ty49 rf49_2 (by decide) ?_
          refine r_loadI a17_72 rfl ?_
          refine r_iald a17_73 ty51 (by omega) ?_
          rw [fr 51 (by decide) (by decide), k2]
          refine r_icne a17_74 (fun h_74 => ?_) (fun h_74 => ?_)
          · refine r_pushI a17_86 ?_
            exact fin _ _ (by first | rw [if_pos (by omega)] | rw [if_neg (by omega)])
          · refine r_loadA a17_77 rfl (by decide) ?_
            refine r_getR a17_78 ty49 rf49_2 (by decide) ?_
            refine r_loadI a17_81 rfl ?_
            refine r_iald a17_82 ty51 (by omega) ?_
            rw [fr 51 (by decide) (by decide), k2]
            refine r_goto a17_83 ?_
            exact fin _ _ (by first | rw [if_pos (by omega)] | rw [if_neg (by omega)])
  have zero : ∀ (c : Nat) (j : Int) (m1 : XM) (y4 : XV), 7 < j + c → 0 ≤ j → j ≤ 7 → (∀ c, c ≠ 114 → c ≠ 117 → m1 c = m c) → m1 114 3 = 0 → (∀ i, 0 ≤ i → i < j → m1 117 i = -1) →
      RZ (dd + 1) k_Ma_search 7 [vR 114, vR 85, vR 49, vI j, y4] [] (zH z m1) (qz z (qi PO)) := by
    intro c
    induction c with
    | zero => intro j m1 y4 q1 q2 q3; exfalso; omega
    | succ c ih =>
      intro j m1 y4 q1 q2 q3 fr f3 hz
      refine r_loadI a17_7 rfl ?_
      refine r_pushI a17_8 ?_
      refine r_icge a17_10 (fun h_10 => ?_) (fun h_10 => ?_)
      · refine r_pushI a17_26 ?_
        refine r_storeI_3 a17_27 rfl ?_
        exact loop (s 3).toNat 0 m1 _ (by omega) fr f3 (fun i i1 i2 => hz i i1 (by omega))
      · refine r_loadA a17_13 rfl (by decide) ?_
        refine r_getR a17_14 ty114 rf114_2 (by decide) ?_
        refine r_loadI a17_17 rfl ?_
        refine r_pushI a17_18 ?_
        refine r_iast a17_19 ty117 (by omega) ?_
        refine r_iinc_3 a17_20 rfl (by omega) ?_
        refine r_goto a17_23 ?_
        refine ih (j + 1) _ y4 (by omega) (by omega) (by omega) (fun c c1 c2 => by rw [up2_c c2]; exact fr c c1 c2) (by rw [up2_c (by decide)]; exact f3) (fun i i1 i2 => ?_)
        by_cases e : i = j
        · rw [e, up2_s]
        · rw [up2_k e]; exact hz i i1 (by omega)
  refine r_entry mx17 rfl ?_
  refine r_loadA a17_0 rfl (by decide) ?_
  refine r_pushI a17_1 ?_
  refine r_putI (ki := 3) a17_2 ty114 rfl ?_
  refine r_pushI a17_5 ?_
  refine r_storeI_3 a17_6 rfl ?_
  exact zero 8 0 _ _ (by omega) (by omega) (by omega) (fun c c1 _ => up2_c c1) (up2_s _ _ _ _) (fun i i1 i2 => by omega)
