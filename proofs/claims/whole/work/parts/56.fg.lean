-- ===== the answers, by definition =====
abbrev MINL : Int := -9223372036854775808
/-- from lo on, n times -/
def foldI {α : Type} (f : Int → α → α) (lo : Int) : Nat → α → α
  | 0, x => x
  | n + 1, x => f (lo + n) (foldI f lo n x)
abbrev sk (s : Int → Int) (k : Int) : Prop := 0 ≤ k ∧ k < s 1
abbrev gt (s : Int → Int) (g : Int) : Prop := 0 ≤ g ∧ g < s 0
def qT (s : Int → Int) (cl : CLs) (k : Int) (l : Int → Int) (n : Nat) : Int := rnT (eT s cl k (s 7) 1) (eB s cl k (s 7)) l n
def qP (s : Int → Int) (cl : CLs) (k : Int) (l : Int → Int) (n : Nat) : Int := rnP (eB s cl k (s 7)) l n
def qZ (s : Int → Int) (cl : CLs) (k : Int) (l : Int → Int) (n : Nat) : Int := rnZ (eO s cl k (s 7)) (eB s cl k (s 7)) l n
def qU (s : Int → Int) (cl : CLs) (k : Int) (l : Int → Int) (n : Nat) : Int := rnU (eO s cl k (s 7)) (eB s cl k (s 7)) l n
def qTk (s : Int → Int) (cl : CLs) (k : Int) (l : Int → Int) (i : Int) : Int := eT s cl k (s 7) 1 i (qP s cl k l i.toNat) (l i)
def qOv (s : Int → Int) (cl : CLs) (k : Int) (l : Int → Int) (i : Int) : Int := eO s cl k (s 7) i (qP s cl k l i.toNat) (l i)
/-- the class's state is right -/
def CpC (m : XM) (s : Int → Int) (cl : CLs) : Prop := okS s ∧ RepB m s 33 ∧ ClB m 33 cl ∧ m 90 3 = 0 ∧ m 103 3 = 0
/-- what queries of the class may change -/
def KC (m m' : XM) : Prop := (∀ c, ¬ (85 ≤ c ∧ c ≤ 117) → c ≠ 48 → c ≠ 120 → m' c = m c) ∧ m' 90 3 = m 90 3 ∧ m' 103 3 = m 103 3
theorem KC.refl (m : XM) : KC m m := ⟨fun _ _ _ _ => rfl, rfl, rfl⟩
theorem KC.trans {a b c : XM} (h1 : KC a b) (h2 : KC b c) : KC a c := ⟨fun x x1 x2 x3 => (h2.1 x x1 x2 x3).trans (h1.1 x x1 x2 x3), h2.2.1.trans h1.2.1, h2.2.2.trans h1.2.2⟩
theorem CpC_K {m m' : XM} {s : Int → Int} {cl : CLs} (h : KC m m') (hC : CpC m s cl) : CpC m' s cl := by
  obtain ⟨h1, h2, h3, h4, h5⟩ := hC
  exact ⟨h1, RepB_cong (fun x a b c => h.1 x (by omega) (by omega) (by omega)) h2, ClB_cong (fun x a b => h.1 x (by omega) (by omega) (by omega)) h3, by rw [h.2.1]; exact h4, by rw [h.2.2]; exact h5⟩
theorem c_Fg_outside (d z : Nat) (m : XM) (v lo hi : Int) : CI d k_Fg_outside z m [vI v, vI lo, vI hi] (fun x m' => m' = m ∧ ((x = 1 ∧ ¬ (lo ≤ v ∧ v ≤ hi)) ∨ (x = 0 ∧ lo ≤ v ∧ v ≤ hi))) := by
  refine r_entry mx106 rfl ?_
  refine r_loadI a106_0 rfl ?_
  refine r_loadI a106_1 rfl ?_
  refine r_iclt a106_2 (fun h_2 => ?_) (fun h_2 => ?_)
  · refine r_pushI a106_10 ?_
    refine r_goto a106_11 ?_
    refine r_retZq a106_15 (by omega) ?_
    exact ⟨rfl, by omega⟩
  · refine r_loadI a106_5 rfl ?_
    refine r_loadI a106_6 rfl ?_
    refine r_icle a106_7 (fun h_7 => ?_) (fun h_7 => ?_)
    · refine r_pushI a106_14 ?_
      refine r_retZq a106_15 (by omega) ?_
      exact ⟨rfl, by omega⟩
    · refine r_pushI a106_10 ?_
      refine r_goto a106_11 ?_
      refine r_retZq a106_15 (by omega) ?_
      exact ⟨rfl, by omega⟩
theorem c_Fg_noPart (d z : Nat) (m : XM) (p : Int) (hd : 1 ≤ d) : CI d k_Fg_noPart z m [vI p] (fun x m' => m' = m ∧ ((x = 1 ∧ ¬ (0 ≤ p ∧ p ≤ 1)) ∨ (x = 0 ∧ 0 ≤ p ∧ p ≤ 1))) := by
  obtain ⟨e, rfl⟩ : ∃ e, d = e + 1 := ⟨d - 1, by omega⟩
  refine r_entry mx105 rfl ?_
  refine r_loadI a105_0 rfl ?_
  refine r_pushI a105_1 ?_
  refine r_pushI a105_2 ?_
  refine r_callI_3 a105_3 (Nat.le_of_ble_eq_true rfl) (le_mx mx106 (Nat.le_of_ble_eq_true rfl)) (Or.inl rfl) (c_Fg_outside e z m p 0 1) (fun x_3 m_3 h_3 => ?_)
  obtain ⟨hm_3, h_3⟩ := h_3
  rw [hm_3]
  refine r_retZq a105_6 (by omega) ?_
  exact ⟨rfl, h_3⟩
theorem c_Fg_noGate (d z : Nat) (m : XM) (s : Int → Int) (cl : CLs) (hC : CpC m s cl) (g : Int) : CI d k_Fg_noGate z m [vR 32, vI g] (fun x m' => m' = m ∧ ((x = 1 ∧ ¬ gt s g) ∨ (x = 0 ∧ gt s g))) := by
  have h1 : m 34 0 = s 0 := hC.2.1.1.1
  unfold gt
  refine r_entry mx103 rfl ?_
  refine r_loadI a103_0 rfl ?_
  refine r_iflt a103_1 (fun h_1 => ?_) (fun h_1 => ?_)
  · refine r_pushI a103_18 ?_
    refine r_goto a103_19 ?_
    refine r_retZq a103_23 (by omega) ?_
    exact ⟨rfl, by omega⟩
  · refine r_loadI a103_4 rfl ?_
    refine r_loadA a103_5 rfl (by decide) ?_
    refine r_getR a103_6 ty32 rf32_0 (by decide) ?_
    refine r_getR a103_9 ty33 rf33_0 (by decide) ?_
    refine r_getI (ki := 0) a103_12 ty34 rfl ?_
    rw [h1]
    refine r_iclt a103_15 (fun h_15 => ?_) (fun h_15 => ?_)
    · refine r_pushI a103_22 ?_
      refine r_retZq a103_23 (by omega) ?_
      exact ⟨rfl, by omega⟩
    · refine r_pushI a103_18 ?_
      refine r_goto a103_19 ?_
      refine r_retZq a103_23 (by omega) ?_
      exact ⟨rfl, by omega⟩
theorem c_Fg_noSkier (d z : Nat) (m : XM) (s : Int → Int) (cl : CLs) (hC : CpC m s cl) (g : Int) : CI d k_Fg_noSkier z m [vR 32, vI g] (fun x m' => m' = m ∧ ((x = 1 ∧ ¬ sk s g) ∨ (x = 0 ∧ sk s g))) := by
  have h1 : m 33 2 = s 1 := hC.2.1.2.2.1.1
  unfold sk
  refine r_entry mx104 rfl ?_
  refine r_loadI a104_0 rfl ?_
  refine r_iflt a104_1 (fun h_1 => ?_) (fun h_1 => ?_)
  · refine r_pushI a104_15 ?_
    refine r_goto a104_16 ?_
    refine r_retZq a104_20 (by omega) ?_
    exact ⟨rfl, by omega⟩
  · refine r_loadI a104_4 rfl ?_
    refine r_loadA a104_5 rfl (by decide) ?_
    refine r_getR a104_6 ty32 rf32_0 (by decide) ?_
    refine r_getI (ki := 2) a104_9 ty33 rfl ?_
    rw [h1]
    refine r_iclt a104_12 (fun h_12 => ?_) (fun h_12 => ?_)
    · refine r_pushI a104_19 ?_
      refine r_retZq a104_20 (by omega) ?_
      exact ⟨rfl, by omega⟩
    · refine r_pushI a104_15 ?_
      refine r_goto a104_16 ?_
      refine r_retZq a104_20 (by omega) ?_
      exact ⟨rfl, by omega⟩
-- ===== the class: a skier's tables, least times, runs =====
/-- a passage is prepared and solved -/
def FrT (P : Nat) (m m' : XM) : Prop := (∀ x, ¬ (P ≤ x ∧ x ≤ P + 9) → x ≠ 48 → m' x = m x) ∧ m' (P + 5) 3 = m (P + 5) 3
theorem FrT.trans {P : Nat} {a b c : XM} (h1 : FrT P a b) (h2 : FrT P b c) : FrT P a c := ⟨fun x x1 x2 => (h2.1 x x1 x2).trans (h1.1 x x1 x2), h2.2.trans h1.2⟩
theorem FrT_85 {m m' : XM} (h : FrT 85 m m') : KC m m' := ⟨fun c a b _ => h.1 c (by omega) b, h.2, by rw [h.1 103 (by decide) (by decide)]⟩
theorem FrT_98 {m m' : XM} (h : FrT 98 m m') : KC m m' := ⟨fun c a b _ => h.1 c (by omega) b, by rw [h.1 90 (by decide) (by decide)], h.2⟩
/-- a passage stands prepared -/
def Rdy (m : XM) (P : Nat) (s : Int → Int) (cl : CLs) (k n w : Int) : Prop :=
  m P 0 = s 0 ∧ TbE m P (eO s cl k n) (eT s cl k n w) (eB s cl k n) (s 0) ∧ ∀ j, 0 ≤ j → j < s 0 → m (P + 1) j = j
theorem eRg {s : Int → Int} {cl : CLs} {k n w : Int} (hS : okS s) (hc : ∀ c ∈ cl, okC c) (hl : cl.length ≤ 10) (hn : 0 ≤ n ∧ n ≤ 9999) : RgE (eO s cl k n) (eT s cl k n w) (eB s cl k n) (s 0) := by
  have hN := hS.1.1
  intro g p c g1 g2 p1 p2 c1 c2
  exact ⟨eO_r s cl k n g p c, eT_r hS hc hl ⟨g1, by omega⟩ hn ⟨p1, p2⟩ ⟨c1, c2⟩, eB_r s cl k n g p c⟩
theorem c_Pa_ready_85 (d z : Nat) (m : XM) (s : Int → Int) (cl : CLs) (k n w : Int) (hd : 5 ≤ d) (hC : CpC m s cl) (hk : sk s k) (hn : 0 ≤ n ∧ n ≤ 9999) (hw : w = 0 ∨ w = 1) :
    CV d k_Pa_prepare z m [vR 85, vR 33, vI k, vI n, vI w] (fun m' => FrT 85 m m' ∧ Rdy m' 85 s cl k n w) :=
  (c_Pa_prepare_85 d z m s cl k n w hd hC.1 hC.2.1 hC.2.2.1 (by have := hC.2.2.2.1; omega) hk hn hw).imp fun m' ⟨f, p1, p2, p3⟩ => ⟨⟨fun x a b => f.1 x (by omega) b, f.2⟩, p1, p3, p2⟩
theorem c_Pa_ready_98 (d z : Nat) (m : XM) (s : Int → Int) (cl : CLs) (k n w : Int) (hd : 5 ≤ d) (hC : CpC m s cl) (hk : sk s k) (hn : 0 ≤ n ∧ n ≤ 9999) (hw : w = 0 ∨ w = 1) :
    CV d k_Pa_prepare z m [vR 98, vR 33, vI k, vI n, vI w] (fun m' => FrT 98 m m' ∧ Rdy m' 98 s cl k n w) :=
  (c_Pa_prepare_98 d z m s cl k n w hd hC.1 hC.2.1 hC.2.2.1 (by have := hC.2.2.2.2; omega) hk hn hw).imp fun m' ⟨f, p1, p2, p3⟩ => ⟨⟨fun x a b => f.1 x (by omega) b, f.2⟩, p1, p3, p2⟩
theorem c_Pa_least_85 (d z : Nat) (m : XM) (s : Int → Int) (cl : CLs) (k n w f : Int) (hd : 3 ≤ d) (hC : CpC m s cl) (hn : 0 ≤ n ∧ n ≤ 9999) (hf : f = 0 ∨ f = 1) (hR : Rdy m 85 s cl k n w) :
    CI d k_Pa_solve z m [vR 85, vI f] (fun x m' => FrT 85 m m' ∧ Rdy m' 85 s cl k n w ∧ SolP m' 85 (eO s cl k n) (eT s cl k n w) (eB s cl k n) (f = 1) (s 0) ∧
      x = (LC (eO s cl k n) (eT s cl k n w) (eB s cl k n) (f = 1) (s 0).toNat 0 3).1) :=
  (c_Pa_solve_85 d z m (eO s cl k n) (eT s cl k n w) (eB s cl k n) idn (s 0) f hd hC.1.1.1 hf hR.1 hR.2.1 (eRg hC.1 hC.2.2.1.2.1 hC.2.2.1.2.2 hn) (fun j a b => ⟨hR.2.2 j a b, a, b⟩)).imp
    fun x m' ⟨h1, h2, h3⟩ => ⟨⟨fun c a b => h1 c (by omega) (by omega), by rw [h1 (85 + 5) (by decide) (by decide)]⟩,
      ⟨by rw [h1 85 (by decide) (by decide)]; exact hR.1, TbE_cong (h1 (85 + 2) (by decide) (by decide)) (h1 (85 + 3) (by decide) (by decide)) (h1 (85 + 4) (by decide) (by decide)) hR.2.1, by rw [h1 (85 + 1) (by decide) (by decide)]; exact hR.2.2⟩, h2, h3⟩
theorem c_Fg_leastTime_85 (d z : Nat) (m : XM) (s : Int → Int) (cl : CLs) (k : Int) (hd : 6 ≤ d) (hC : CpC m s cl) (hk : sk s k) :
    CI d k_Fg_leastTime z m [vR 32, vR 85, vI k] (fun x m' => FrT 85 m m' ∧ Rdy m' 85 s cl k (s 7) 1 ∧ SolP m' 85 (eO s cl k (s 7)) (eT s cl k (s 7) 1) (eB s cl k (s 7)) ((0 : Int) = 1) (s 0) ∧ x = tQ s cl k (s 7) 1) := by
  obtain ⟨e, rfl⟩ : ∃ e, d = e + 1 := ⟨d - 1, by omega⟩
  have h7 : m 33 3 = s 7 := hC.2.1.2.2.1.2.1
  have r7 := hC.1.1.2.2.2.2.2.2.2
  refine r_entry mx110 rfl ?_
  refine r_loadA a110_0 rfl (by decide) ?_
  refine r_loadA a110_1 rfl (by decide) ?_
  refine r_getR a110_2 ty32 rf32_0 (by decide) ?_
  refine r_loadI a110_5 rfl ?_
  refine r_loadA a110_6 rfl (by decide) ?_
  refine r_getR a110_7 ty32 rf32_0 (by decide) ?_
  refine r_getI (ki := 3) a110_10 ty33 rfl ?_
  refine r_pushI a110_13 ?_
  rw [h7]
  refine r_callV_5 a110_14 (Nat.le_of_ble_eq_true rfl) (le_mx mx25 (Nat.le_of_ble_eq_true rfl)) (Or.inr (recv_ok ty85 ow25 (by decide))) (c_Pa_ready_85 e z m s cl k (s 7) 1 (by omega) hC hk r7 (by omega)) (fun m_14 h_14 => ?_)
  obtain ⟨f1, q1⟩ := h_14
  have hC2 := CpC_K (FrT_85 f1) hC
  refine r_loadA a110_17 rfl (by decide) ?_
  refine r_pushI a110_18 ?_
  refine r_callI_2 a110_19 (Nat.le_of_ble_eq_true rfl) (le_mx mx38 (Nat.le_of_ble_eq_true rfl)) (Or.inr (recv_ok ty85 ow38 (by decide))) (c_Pa_least_85 e z m_14 s cl k (s 7) 1 0 (by omega) hC2 r7 (by omega) q1) (fun x_19 m_19 h_19 => ?_)
  refine r_retIq a110_22 ?_
  obtain ⟨f2, q2, q3, q4⟩ := h_19
  exact ⟨FrT.trans f1 f2, q2, q3, q4⟩
theorem c_Pa_least_98 (d z : Nat) (m : XM) (s : Int → Int) (cl : CLs) (k n w f : Int) (hd : 3 ≤ d) (hC : CpC m s cl) (hn : 0 ≤ n ∧ n ≤ 9999) (hf : f = 0 ∨ f = 1) (hR : Rdy m 98 s cl k n w) :
    CI d k_Pa_solve z m [vR 98, vI f] (fun x m' => FrT 98 m m' ∧ Rdy m' 98 s cl k n w ∧ SolP m' 98 (eO s cl k n) (eT s cl k n w) (eB s cl k n) (f = 1) (s 0) ∧
      x = (LC (eO s cl k n) (eT s cl k n w) (eB s cl k n) (f = 1) (s 0).toNat 0 3).1) :=
  (c_Pa_solve_98 d z m (eO s cl k n) (eT s cl k n w) (eB s cl k n) idn (s 0) f hd hC.1.1.1 hf hR.1 hR.2.1 (eRg hC.1 hC.2.2.1.2.1 hC.2.2.1.2.2 hn) (fun j a b => ⟨hR.2.2 j a b, a, b⟩)).imp
    fun x m' ⟨h1, h2, h3⟩ => ⟨⟨fun c a b => h1 c (by omega) (by omega), by rw [h1 (98 + 5) (by decide) (by decide)]⟩,
      ⟨by rw [h1 98 (by decide) (by decide)]; exact hR.1, TbE_cong (h1 (98 + 2) (by decide) (by decide)) (h1 (98 + 3) (by decide) (by decide)) (h1 (98 + 4) (by decide) (by decide)) hR.2.1, by rw [h1 (98 + 1) (by decide) (by decide)]; exact hR.2.2⟩, h2, h3⟩
theorem c_Fg_leastTime_98 (d z : Nat) (m : XM) (s : Int → Int) (cl : CLs) (k : Int) (hd : 6 ≤ d) (hC : CpC m s cl) (hk : sk s k) :
    CI d k_Fg_leastTime z m [vR 32, vR 98, vI k] (fun x m' => FrT 98 m m' ∧ Rdy m' 98 s cl k (s 7) 1 ∧ SolP m' 98 (eO s cl k (s 7)) (eT s cl k (s 7) 1) (eB s cl k (s 7)) ((0 : Int) = 1) (s 0) ∧ x = tQ s cl k (s 7) 1) := by
  obtain ⟨e, rfl⟩ : ∃ e, d = e + 1 := ⟨d - 1, by omega⟩
  have h7 : m 33 3 = s 7 := hC.2.1.2.2.1.2.1
  have r7 := hC.1.1.2.2.2.2.2.2.2
  refine r_entry mx110 rfl ?_
  refine r_loadA a110_0 rfl (by decide) ?_
  refine r_loadA a110_1 rfl (by decide) ?_
  refine r_getR a110_2 ty32 rf32_0 (by decide) ?_
  refine r_loadI a110_5 rfl ?_
  refine r_loadA a110_6 rfl (by decide) ?_
  refine r_getR a110_7 ty32 rf32_0 (by decide) ?_
  refine r_getI (ki := 3) a110_10 ty33 rfl ?_
  refine r_pushI a110_13 ?_
  rw [h7]
  refine r_callV_5 a110_14 (Nat.le_of_ble_eq_true rfl) (le_mx mx25 (Nat.le_of_ble_eq_true rfl)) (Or.inr (recv_ok ty98 ow25 (by decide))) (c_Pa_ready_98 e z m s cl k (s 7) 1 (by omega) hC hk r7 (by omega)) (fun m_14 h_14 => ?_)
  obtain ⟨f1, q1⟩ := h_14
  have hC2 := CpC_K (FrT_98 f1) hC
  refine r_loadA a110_17 rfl (by decide) ?_
  refine r_pushI a110_18 ?_
  refine r_callI_2 a110_19 (Nat.le_of_ble_eq_true rfl) (le_mx mx38 (Nat.le_of_ble_eq_true rfl)) (Or.inr (recv_ok ty98 ow38 (by decide))) (c_Pa_least_98 e z m_14 s cl k (s 7) 1 0 (by omega) hC2 r7 (by omega) q1) (fun x_19 m_19 h_19 => ?_)
  refine r_retIq a110_22 ?_
  obtain ⟨f2, q2, q3, q4⟩ := h_19
  exact ⟨FrT.trans f1 f2, q2, q3, q4⟩
theorem GoP_cong {m : XM} {P : Nat} {O T B : TF} {l l' : Int → Int} {N : Int} (h : ∀ i, 0 ≤ i → i < N → l i = l' i) (hG : GoP m P O T B l N) : GoP m P O T B l' N := by
  obtain ⟨g1, g2, g3, g4, g5⟩ := hG
  have cg := rn_cong (O := O) (T := T) (B := B) (l := l) (l' := l')
  obtain ⟨q1, q2, q3, q4⟩ := cg N.toNat (fun i hi => h i (by omega) (by omega))
  refine ⟨by rw [g1, q2], by rw [g2, q1], by rw [g3, q4], by rw [g4, q3], fun i hi => ?_⟩
  obtain ⟨w1, w2⟩ := g5 i hi
  rw [w1, w2, (cg i (fun j hj => h j (by omega) (by omega))).1, h i (by omega) hi]
  exact ⟨rfl, rfl⟩
theorem GoP_mem {m m' : XM} {P : Nat} {O T B : TF} {l : Int → Int} {N : Int} (h0 : m' P = m P) (h1 : m' (P + 11) = m (P + 11)) (h2 : m' (P + 12) = m (P + 12)) (h : GoP m P O T B l N) : GoP m' P O T B l N := by
  unfold GoP; rw [h0, h1, h2]; exact h
theorem c_Fg_goByTheLine (d z : Nat) (m : XM) (s : Int → Int) (cl : CLs) (k : Int) (hd : 6 ≤ d) (hC : CpC m s cl) (hk : sk s k) :
    CV d k_Fg_goByTheLine z m [vR 32, vI k] (fun m' => KC m m' ∧ m' 85 0 = s 0 ∧ GoP m' 85 (eO s cl k (s 7)) (eT s cl k (s 7) 1) (eB s cl k (s 7)) (lnS s) (s 0)) := by
  obtain ⟨e, rfl⟩ : ∃ e, d = e + 1 := ⟨d - 1, by omega⟩
  have hN := hC.1.1.1
  have h7 : m 33 3 = s 7 := hC.2.1.2.2.1.2.1
  have r7 := hC.1.1.2.2.2.2.2.2.2
  have hl : ∀ i, 0 ≤ i → i < s 0 → m 38 i = lnS s i := fun i a b => (hC.2.1.1.2 i a (by omega)).2.2.2
  refine r_entry mx109 rfl ?_
  refine r_loadA a109_0 rfl (by decide) ?_
  refine r_getR a109_1 ty32 rf32_4 (by decide) ?_
  refine r_loadA a109_4 rfl (by decide) ?_
  refine r_getR a109_5 ty32 rf32_0 (by decide) ?_
  refine r_loadI a109_8 rfl ?_
  refine r_loadA a109_9 rfl (by decide) ?_
  refine r_getR a109_10 ty32 rf32_0 (by decide) ?_
  refine r_getI (ki := 3) a109_13 ty33 rfl ?_
  refine r_pushI a109_16 ?_
  rw [h7]
  refine r_callV_5 a109_17 (Nat.le_of_ble_eq_true rfl) (le_mx mx25 (Nat.le_of_ble_eq_true rfl)) (Or.inr (recv_ok ty85 ow25 (by decide))) (c_Pa_ready_85 e z m s cl k (s 7) 1 (by omega) hC hk r7 (by omega)) (fun m_17 h_17 => ?_)
  obtain ⟨f1, q1⟩ := h_17
  have hC2 := CpC_K (FrT_85 f1) hC
  have e38 : m_17 38 = m 38 := f1.1 38 (by decide) (by decide)
  refine r_loadA a109_20 rfl (by decide) ?_
  refine r_getR a109_21 ty32 rf32_4 (by decide) ?_
  refine r_loadA a109_24 rfl (by decide) ?_
  refine r_getR a109_25 ty32 rf32_0 (by decide) ?_
  refine r_getR a109_28 ty33 rf33_0 (by decide) ?_
  refine r_getR a109_31 ty34 rf34_4 (by decide) ?_
  refine r_callV_2 a109_34 (Nat.le_of_ble_eq_true rfl) (le_mx mx41 (Nat.le_of_ble_eq_true rfl)) (Or.inr (recv_ok ty85 ow41 (by decide))) (c_Pa_go_85_38 e z m_17 (eO s cl k (s 7)) (eT s cl k (s 7) 1) (eB s cl k (s 7)) (s 0) (by omega) hN q1.1 q1.2.1 (eRg hC.1 hC.2.2.1.2.1 hC.2.2.1.2.2 r7) (fun i a b => by rw [e38, hl i a b]; exact lnS_r hC.1 i a b)) (fun m_34 h_34 => ?_)
  refine r_retVq a109_37 ?_
  obtain ⟨g1, g2, g3⟩ := h_34
  refine ⟨KC.trans (FrT_85 f1) ⟨fun c a b _ => g1 c (by omega) (by omega) (by omega), by rw [g1 90 (by decide) (by decide) (by decide)], by rw [g1 103 (by decide) (by decide) (by decide)]⟩, g2, GoP_cong (fun i a b => by rw [e38]; exact hl i a b) g3⟩
/-- a passage's best line is gone -/
def FrB (P : Nat) (m m' : XM) : Prop := (∀ x, ¬ (P ≤ x ∧ x ≤ P + 12) → x ≠ 48 → m' x = m x) ∧ m' (P + 5) 3 = m (P + 5) 3
theorem FrB_85 {m m' : XM} (h : FrB 85 m m') : KC m m' := ⟨fun c a b _ => h.1 c (by omega) b, h.2, by rw [h.1 103 (by decide) (by decide)]⟩
theorem FrB_98 {m m' : XM} (h : FrB 98 m m') : KC m m' := ⟨fun c a b _ => h.1 c (by omega) b, by rw [h.1 90 (by decide) (by decide)], h.2⟩
theorem FrB.trans {P : Nat} {a b c : XM} (h1 : FrB P a b) (h2 : FrB P b c) : FrB P a c := ⟨fun x x1 x2 => (h2.1 x x1 x2).trans (h1.1 x x1 x2), h2.2.trans h1.2⟩
theorem FrT_B {P : Nat} {m m' : XM} (h : FrT P m m') : FrB P m m' := ⟨fun x a b => h.1 x (by omega) b, h.2⟩
theorem c_Pa_best_85 (d z : Nat) (m : XM) (s : Int → Int) (cl : CLs) (k n w f : Int) (hd : 3 ≤ d) (hC : CpC m s cl) (hn : 0 ≤ n ∧ n ≤ 9999) (hR : Rdy m 85 s cl k n w)
    (hS : SolP m 85 (eO s cl k n) (eT s cl k n w) (eB s cl k n) (f = 1) (s 0)) :
    CV d k_Pa_goByBest z m [vR 85] (fun m' => FrB 85 m m' ∧ m' 85 0 = s 0 ∧ (∀ i, 0 ≤ i → i < s 0 → m' 95 i = pathL (eO s cl k n) (eT s cl k n w) (eB s cl k n) (f = 1) (s 0).toNat 0 3 i) ∧
      GoP m' 85 (eO s cl k n) (eT s cl k n w) (eB s cl k n) (pathL (eO s cl k n) (eT s cl k n w) (eB s cl k n) (f = 1) (s 0).toNat 0 3) (s 0)) :=
  (c_Pa_goByBest_85 d z m (eO s cl k n) (eT s cl k n w) (eB s cl k n) (s 0) f hd hC.1.1.1 hR.1 hR.2.1 (eRg hC.1 hC.2.2.1.2.1 hC.2.2.1.2.2 hn) hS).imp
    fun m' ⟨h1, h2, h3, h4⟩ => ⟨⟨fun c a b => h1 c (by omega) (by omega) (by omega) (by omega), by rw [h1 (85 + 5) (by decide) (by decide) (by decide) (by decide)]⟩, h2, h3, h4⟩
theorem c_Pa_best_98 (d z : Nat) (m : XM) (s : Int → Int) (cl : CLs) (k n w f : Int) (hd : 3 ≤ d) (hC : CpC m s cl) (hn : 0 ≤ n ∧ n ≤ 9999) (hR : Rdy m 98 s cl k n w)
    (hS : SolP m 98 (eO s cl k n) (eT s cl k n w) (eB s cl k n) (f = 1) (s 0)) :
    CV d k_Pa_goByBest z m [vR 98] (fun m' => FrB 98 m m' ∧ m' 98 0 = s 0 ∧ (∀ i, 0 ≤ i → i < s 0 → m' 108 i = pathL (eO s cl k n) (eT s cl k n w) (eB s cl k n) (f = 1) (s 0).toNat 0 3 i) ∧
      GoP m' 98 (eO s cl k n) (eT s cl k n w) (eB s cl k n) (pathL (eO s cl k n) (eT s cl k n w) (eB s cl k n) (f = 1) (s 0).toNat 0 3) (s 0)) :=
  (c_Pa_goByBest_98 d z m (eO s cl k n) (eT s cl k n w) (eB s cl k n) (s 0) f hd hC.1.1.1 hR.1 hR.2.1 (eRg hC.1 hC.2.2.1.2.1 hC.2.2.1.2.2 hn) hS).imp
    fun m' ⟨h1, h2, h3, h4⟩ => ⟨⟨fun c a b => h1 c (by omega) (by omega) (by omega) (by omega), by rw [h1 (98 + 5) (by decide) (by decide) (by decide) (by decide)]⟩, h2, h3, h4⟩
theorem c_Fg_goBothByBest (d z : Nat) (m : XM) (s : Int → Int) (cl : CLs) (a b : Int) (hd : 7 ≤ d) (hC : CpC m s cl) (ha : sk s a) (hb : sk s b) :
    CV d k_Fg_goBothByBest z m [vR 32, vI a, vI b] (fun m' => KC m m' ∧ m' 85 0 = s 0 ∧ m' 98 0 = s 0 ∧ GoP m' 85 (eO s cl a (s 7)) (eT s cl a (s 7) 1) (eB s cl a (s 7)) (lQ s cl a (s 7) 1) (s 0) ∧
      GoP m' 98 (eO s cl b (s 7)) (eT s cl b (s 7) 1) (eB s cl b (s 7)) (lQ s cl b (s 7) 1) (s 0)) := by
  obtain ⟨e, rfl⟩ : ∃ e, d = e + 1 := ⟨d - 1, by omega⟩
  have r7 := hC.1.1.2.2.2.2.2.2.2
  refine r_entry mx111 rfl ?_
  refine r_loadA a111_0 rfl (by decide) ?_
  refine r_loadA a111_1 rfl (by decide) ?_
  refine r_getR a111_2 ty32 rf32_4 (by decide) ?_
  refine r_loadI a111_5 rfl ?_
  refine r_callI_3 a111_6 (Nat.le_of_ble_eq_true rfl) (le_mx mx110 (Nat.le_of_ble_eq_true rfl)) (Or.inr (recv_ok ty32 ow110 (by decide))) (c_Fg_leastTime_85 e z m s cl a (by omega) hC ha) (fun x_6 m_6 h_6 => ?_)
  obtain ⟨f1, q1, p1, _⟩ := h_6
  have hC1 := CpC_K (FrT_85 f1) hC
  refine r_pop a111_9 rfl ?_
  refine r_loadA a111_10 rfl (by decide) ?_
  refine r_getR a111_11 ty32 rf32_4 (by decide) ?_
  refine r_callV_1 a111_14 (Nat.le_of_ble_eq_true rfl) (le_mx mx40 (Nat.le_of_ble_eq_true rfl)) (Or.inr (recv_ok ty85 ow40 (by decide))) (c_Pa_best_85 e z m_6 s cl a (s 7) 1 0 (by omega) hC1 r7 q1 p1) (fun m_14 h_14 => ?_)
  obtain ⟨f2, q2, _, p2⟩ := h_14
  have hC2 := CpC_K (FrB_85 f2) hC1
  refine r_loadA a111_17 rfl (by decide) ?_
  refine r_loadA a111_18 rfl (by decide) ?_
  refine r_getR a111_19 ty32 rf32_5 (by decide) ?_
  refine r_loadI a111_22 rfl ?_
  refine r_callI_3 a111_23 (Nat.le_of_ble_eq_true rfl) (le_mx mx110 (Nat.le_of_ble_eq_true rfl)) (Or.inr (recv_ok ty32 ow110 (by decide))) (c_Fg_leastTime_98 e z m_14 s cl b (by omega) hC2 hb) (fun x_23 m_23 h_23 => ?_)
  obtain ⟨f3, q3, p3, _⟩ := h_23
  have hC3 := CpC_K (FrT_98 f3) hC2
  refine r_pop a111_26 rfl ?_
  refine r_loadA a111_27 rfl (by decide) ?_
  refine r_getR a111_28 ty32 rf32_5 (by decide) ?_
  refine r_callV_1 a111_31 (Nat.le_of_ble_eq_true rfl) (le_mx mx40 (Nat.le_of_ble_eq_true rfl)) (Or.inr (recv_ok ty98 ow40 (by decide))) (c_Pa_best_98 e z m_23 s cl b (s 7) 1 0 (by omega) hC3 r7 q3 p3) (fun m_31 h_31 => ?_)
  refine r_retVq a111_34 ?_
  obtain ⟨f4, q4, _, p4⟩ := h_31
  have ff : ∀ x, ¬ (98 ≤ x ∧ x ≤ 110) → x ≠ 48 → m_31 x = m_14 x := fun x x1 x2 => by rw [f4.1 x (by omega) x2, f3.1 x (by omega) x2]
  refine ⟨KC.trans (FrT_85 f1) (KC.trans (FrB_85 f2) (KC.trans (FrT_98 f3) (FrB_98 f4))), by rw [ff 85 (by decide) (by decide)]; exact q2, q4, GoP_mem (ff 85 (by decide) (by decide)) (ff (85 + 11) (by decide) (by decide)) (ff (85 + 12) (by decide) (by decide)) p2, p4⟩
/-- the surest line within a time -/
def sQ (s : Int → Int) (cl : CLs) (k lim : Int) : SS := sGo (eO s cl k (s 7)) (eT s cl k (s 7) 1) (eB s cl k (s 7)) (s 0) 2 lim (seenP s) (s 0).toNat 0 3 0 1 x00
/-- lines that fit -/
def fQ (s : Int → Int) (cl : CLs) (k : Int) : SS := sGo (eO s cl k (s 7)) (eT s cl k (s 7) 1) (eB s cl k (s 7)) (s 0) 3 0 (seenP s) (s 0).toNat 0 3 0 1 x00
def qSur (s : Int → Int) (cl : CLs) (k lim p : Int) : Int := if sMa (sQ s cl k lim) = 0 then p else lowQ (sMu (sQ s cl k lim)) (p20 (s 0).toNat) p
theorem lowQ_0 {b p : Int} (hb : 0 < b) (hp : p = 0 ∨ p = 1) : lowQ 0 b p = p := by
  unfold lowQ
  have e : (Nat.gcd (0 : Int).toNat b.toNat : Int) = b := by
    have : (0 : Int).toNat = 0 := rfl
    rw [this, Nat.gcd_zero_left]; omega
  rw [e]
  rcases hp with h | h <;> rw [h]
  · rw [if_pos rfl]; exact Int.zero_ediv b
  · rw [if_neg (by decide)]; exact Int.ediv_self (by omega)
theorem sGo_mu (O T B : TF) (N lim : Int) (seen : Int → Int → Prop) [∀ i t, Decidable (seen i t)] (hO : ∀ i p c, 0 ≤ O i p c ∧ O i p c ≤ 20) :
    ∀ (n : Nat) (i p time ups : Int) (x : SS), 0 ≤ ups → sMu x ≤ 1280000000 → ups * p20 n ≤ 1280000000 → sMu (sGo O T B N 2 lim seen n i p time ups x) ≤ 1280000000 := by
  intro n
  induction n with
  | zero =>
    intro i p time ups x h0 hx hu
    show sMu (sEnd N 2 lim time ups x) ≤ _
    have e : ups * p20 0 = ups * 1 := rfl
    unfold sEnd; rw [if_pos rfl]
    split
    · show ups ≤ _
      omega
    · exact hx
  | succ n ih =>
    intro i p time ups x h0 hx hu
    have p20p := p20_pos n
    have p20s : ups * p20 (n + 1) = ups * 20 * p20 n := by show ups * (20 * p20 n) = _; rw [Int.mul_assoc]
    have br : ∀ (c : Int) (x : SS), sMu x ≤ 1280000000 → sMu (sBr O T B N 2 lim seen n i p time ups c x) ≤ 1280000000 := by
      intro c x hx
      have := hO i p c
      have a1 := Int.mul_le_mul_of_nonneg_left (show 20 - O i p c ≤ 20 by omega) h0
      have a2 := Int.mul_le_mul_of_nonneg_right a1 (show 0 ≤ p20 n by omega)
      unfold sBr; rw [if_neg (by omega)]
      exact ih (i + 1) (B i p c) (time + T i p c) (ups * (20 - O i p c)) (sTry i c x) (Int.mul_nonneg h0 (by omega)) hx (by omega)
    rw [sGo_succ]
    exact br 2 _ (br 1 _ (br 0 _ hx))
theorem sQ_mu {s : Int → Int} {cl : CLs} {k lim : Int} (hS : okS s) : sMu (sQ s cl k lim) ≤ 1280000000 := by
  have hN := hS.1.1
  have := p20_le (s 0).toNat (by omega)
  exact sGo_mu _ _ _ _ _ _ (fun i p c => eO_r s cl k (s 7) i p c) _ _ _ _ _ _ (by omega) (by decide) (by omega)
theorem c_Fg_surestWithin (d z : Nat) (m : XM) (s : Int → Int) (cl : CLs) (k lim p : Int) (hd : 20 ≤ d) (hC : CpC m s cl) (hk : sk s k) (hp : 0 ≤ p ∧ p ≤ 1) :
    CL d k_Fg_surestWithin z m [vR 32, vI k, vI lim, vI p] (fun x m' => KC m m' ∧ x = qSur s cl k lim p) := by
  obtain ⟨e, rfl⟩ : ∃ e, d = e + 1 := ⟨d - 1, by omega⟩
  have hN := hC.1.1.1
  have r7 := hC.1.1.2.2.2.2.2.2.2
  have hp20 := p20_pos (s 0).toNat
  have hp20b := p20_le (s 0).toNat (by omega)
  have hmu := sQ_mu (cl := cl) (k := k) (lim := lim) hC.1
  refine r_entry mx113 rfl ?_
  refine r_loadA a113_0 rfl (by decide) ?_
  refine r_loadA a113_1 rfl (by decide) ?_
  refine r_getR a113_2 ty32 rf32_4 (by decide) ?_
  refine r_loadI a113_5 rfl ?_
  refine r_callI_3 a113_6 (Nat.le_of_ble_eq_true rfl) (le_mx mx110 (Nat.le_of_ble_eq_true rfl)) (Or.inr (recv_ok ty32 ow110 (by decide))) (c_Fg_leastTime_85 e z m s cl k (by omega) hC hk) (fun x_6 m_6 h_6 => ?_)
  obtain ⟨f1, q1, p1, _⟩ := h_6
  refine r_pop a113_9 rfl ?_
  refine r_loadA a113_10 rfl (by decide) ?_
  refine r_getR a113_11 ty32 rf32_6 (by decide) ?_
  refine r_loadA a113_14 rfl (by decide) ?_
  refine r_getR a113_15 ty32 rf32_4 (by decide) ?_
  refine r_loadI a113_18 rfl ?_
  refine r_callV_3 a113_19 (Nat.le_of_ble_eq_true rfl) (le_mx mx58 (Nat.le_of_ble_eq_true rfl)) (Or.inr (recv_ok ty111 ow58 (by decide))) (c_Sa_search e z m_6 (eO s cl k (s 7)) (eT s cl k (s 7) 1) (eB s cl k (s 7)) (s 0) lim (seenP s) (by omega) (fun i p c => eO_r s cl k (s 7) i p c) (eRg hC.1 hC.2.2.1.2.1 hC.2.2.1.2.2 r7) hN q1.1 q1.2.1 p1) (fun m_19 h_19 => ?_)
  obtain ⟨f2, s1, s2, s3, s4, s5, s6⟩ := h_19
  have s2' : m_19 111 0 = sMu (sQ s cl k lim) := s2
  have e85 : m_19 85 0 = s 0 := by rw [f2 85 (by decide) (by decide) (by decide)]; exact q1.1
  refine r_loadA a113_22 rfl (by decide) ?_
  refine r_getR a113_23 ty32 rf32_6 (by decide) ?_
  refine r_getL (ki := 0) a113_26 ty111 rfl ?_
  refine r_pushL a113_29 ?_
  refine r_maxL a113_30 (by omega) (Nat.le_of_ble_eq_true rfl) ?_
  refine r_statR a113_33 ?_
  refine r_loadA a113_36 rfl (by decide) ?_
  refine r_getR a113_37 ty32 rf32_4 (by decide) ?_
  refine r_getI (ki := 0) a113_40 ty85 rfl ?_
  rw [s2', e85]
  refine r_lald a113_43 (by omega) ?_
  rw [zTab3i hN]
  obtain ⟨a, ha⟩ : ∃ a : Nat, lMax (sMu (sQ s cl k lim)) 0 = a := ⟨(lMax (sMu (sQ s cl k lim)) 0).toNat, by unfold lMax; split <;> omega⟩
  obtain ⟨b, hb⟩ : ∃ b : Nat, p20 (s 0).toNat = b := ⟨(p20 (s 0).toNat).toNat, by omega⟩
  have ha2 : (a : Int) ≤ 1280000000 := by rw [← ha]; unfold lMax; split <;> omega
  rw [ha, hb]
  refine r_loadI a113_44 rfl ?_
  refine r_callL_3 a113_45 (Nat.le_of_ble_eq_true rfl) (le_mx mx117 (Nat.le_of_ble_eq_true rfl)) (Or.inl rfl) (c_Fg_lowest e z m_19 a b p (by omega) (by omega)) (fun x_45 m_45 h_45 => ?_)
  obtain ⟨hm_45, h_45⟩ := h_45
  rw [hm_45]
  refine r_retLq a113_48 ?_
  refine ⟨KC.trans (FrT_85 f1) ⟨fun c c1 c2 c3 => f2 c (by omega) (by omega) (by omega), by rw [f2 90 (by decide) (by decide) (by decide)], by rw [f2 103 (by decide) (by decide) (by decide)]⟩, ?_⟩
  rw [h_45, ← ha, ← hb]
  have s3' : -1 ≤ sMu (sQ s cl k lim) := s3
  have s4' : 0 ≤ sMa (sQ s cl k lim) := s4
  have s5' : 0 < sMa (sQ s cl k lim) ↔ 0 ≤ sMu (sQ s cl k lim) := s5
  unfold qSur
  by_cases q : sMa (sQ s cl k lim) = 0
  · rw [if_pos q]
    have e0 : lMax (sMu (sQ s cl k lim)) 0 = 0 := by unfold lMax; split <;> omega
    rw [e0]; exact lowQ_0 (by omega) (by omega)
  · rw [if_neg q]
    have e0 : lMax (sMu (sQ s cl k lim)) 0 = sMu (sQ s cl k lim) := by unfold lMax; split <;> omega
    rw [e0]
