-- ===== tables of a passage, least times =====
abbrev TF : Type := Int → Int → Int → Int
def TbE (m : XM) (P : Nat) (O T B : TF) (N : Int) : Prop :=
  ∀ g p c, 0 ≤ g → g < N → 0 ≤ p → p < 10 → 0 ≤ c → c < 3 →
    m (P + 2) ((g * 10 + p) * 3 + c) = O g p c ∧ m (P + 3) ((g * 10 + p) * 3 + c) = T g p c ∧ m (P + 4) ((g * 10 + p) * 3 + c) = B g p c
def RgE (O T B : TF) (N : Int) : Prop :=
  ∀ g p c, 0 ≤ g → g < N → 0 ≤ p → p < 10 → 0 ≤ c → c < 3 → (0 ≤ O g p c ∧ O g p c ≤ 20) ∧ (1 ≤ T g p c ∧ T g p c ≤ 21000) ∧ (0 ≤ B g p c ∧ B g p c ≤ 9)
theorem TbE_cong {m m' : XM} {P : Nat} {O T B : TF} {N : Int} (h2 : m' (P + 2) = m (P + 2)) (h3 : m' (P + 3) = m (P + 3)) (h4 : m' (P + 4) = m (P + 4)) (h : TbE m P O T B N) : TbE m' P O T B N := by
  unfold TbE; rw [h2, h3, h4]; exact h
def oF (od : Int → Int) (F : TF) : TF := fun i p c => F (od i) p c
theorem RgE_o {O T B : TF} {N : Int} {od : Int → Int} (ho : ∀ i, 0 ≤ i → i < N → 0 ≤ od i ∧ od i < N) (h : RgE O T B N) : RgE (oF od O) (oF od T) (oF od B) N :=
  fun g p c g1 g2 p1 p2 c1 c2 => h (od g) p c (ho g g1 g2).1 (ho g g1 g2).2 p1 p2 c1 c2
theorem stp_r (x : Int × Int) (v : Int) (ok : Prop) [Decidable ok] (c : Int) (hx : 0 ≤ x.1 ∧ x.1 ≤ 100000000 ∧ 0 ≤ x.2 ∧ x.2 ≤ 2) (hv : 0 ≤ v) (hc : 0 ≤ c ∧ c ≤ 2) :
    0 ≤ (stp x v ok c).1 ∧ (stp x v ok c).1 ≤ 100000000 ∧ 0 ≤ (stp x v ok c).2 ∧ (stp x v ok c).2 ≤ 2 := by
  unfold stp
  split
  · rename_i h
    have := h.1
    refine ⟨hv, ?_, hc⟩
    show v ≤ _
    omega
  · exact hx
theorem LC_r {O T B : TF} {N : Int} (ns : Prop) [Decidable ns] (h : RgE O T B N) : ∀ (n : Nat) (i p : Int), 0 ≤ i → i + n ≤ N → 0 ≤ p → p < 10 →
    0 ≤ (LC O T B ns n i p).1 ∧ (LC O T B ns n i p).1 ≤ 100000000 ∧ 0 ≤ (LC O T B ns n i p).2 ∧ (LC O T B ns n i p).2 ≤ 2 := by
  intro n
  induction n with
  | zero => intro i p _ _ _ _; show 0 ≤ (0 : Int) ∧ (0 : Int) ≤ 100000000 ∧ 0 ≤ (0 : Int) ∧ (0 : Int) ≤ 2; omega
  | succ n ih =>
    intro i p hi hn p1 p2
    have hh : ∀ c, 0 ≤ c → c < 3 → 0 ≤ T i p c + (LC O T B ns n (i + 1) (B i p c)).1 := fun c c1 c2 => by
      obtain ⟨_, t, b⟩ := h i p c hi (by omega) p1 p2 c1 c2
      have := ih (i + 1) (B i p c) (by omega) (by omega) b.1 (by omega)
      omega
    show 0 ≤ (stp (stp (stp (100000000, 0) _ _ 0) _ _ 1) _ _ 2).1 ∧ _
    exact stp_r _ _ _ _ (stp_r _ _ _ _ (stp_r _ _ _ _ (by show 0 ≤ (100000000 : Int) ∧ (100000000 : Int) ≤ 100000000 ∧ 0 ≤ (0 : Int) ∧ (0 : Int) ≤ 2; omega) (hh 0 (by omega) (by omega)) (by omega)) (hh 1 (by omega) (by omega)) (by omega)) (hh 2 (by omega) (by omega)) (by omega)
/-- what a solve leaves: least times and lines by places -/
def SolP (m : XM) (P : Nat) (O T B : TF) (ns : Prop) [Decidable ns] (N : Int) : Prop :=
  ∀ j q, 0 ≤ j → j ≤ N → 0 ≤ q → q < 10 → m (P + 8) (j * 10 + q) = (LC O T B ns (N - j).toNat j q).1 ∧ (j < N → m (P + 9) (j * 10 + q) = (LC O T B ns (N - j).toNat j q).2)
theorem c_Pa_timeAt_85 (d z : Nat) (m : XM) (g p c : Int) (hd : 1 ≤ d) (hg : 0 ≤ g ∧ g < 7) (hp : 0 ≤ p ∧ p < 10) (hc : 0 ≤ c ∧ c < 3) :
    CI d k_Pa_timeAt z m [vR 85, vI g, vI p, vI c] (fun x m' => m' = m ∧ x = m 88 ((g * 10 + p) * 3 + c)) := by
  obtain ⟨e, rfl⟩ : ∃ e, d = e + 1 := ⟨d - 1, by omega⟩
  refine r_entry mx33 rfl ?_
  refine r_loadA a33_0 rfl (by decide) ?_
  refine r_getR a33_1 ty85 rf85_3 (by decide) ?_
  refine r_loadI a33_4 rfl ?_
  refine r_loadI a33_5 rfl ?_
  refine r_loadI a33_6 rfl ?_
  refine r_callI_3 a33_7 (Nat.le_of_ble_eq_true rfl) (le_mx mx31 (Nat.le_of_ble_eq_true rfl)) (Or.inl rfl) (c_Pa_cell e z m g p c hg hp hc) (fun x_7 m_7 h_7 => ?_)
  obtain ⟨hm_7, h_7⟩ := h_7
  rw [hm_7]
  refine r_iald a33_10 ty88 (by omega) ?_
  refine r_retIq a33_11 ?_
  exact ⟨rfl, by rw [h_7]⟩
theorem c_Pa_overAt_85 (d z : Nat) (m : XM) (g p c : Int) (hd : 1 ≤ d) (hg : 0 ≤ g ∧ g < 7) (hp : 0 ≤ p ∧ p < 10) (hc : 0 ≤ c ∧ c < 3) :
    CI d k_Pa_overAt z m [vR 85, vI g, vI p, vI c] (fun x m' => m' = m ∧ x = m 87 ((g * 10 + p) * 3 + c)) := by
  obtain ⟨e, rfl⟩ : ∃ e, d = e + 1 := ⟨d - 1, by omega⟩
  refine r_entry mx34 rfl ?_
  refine r_loadA a34_0 rfl (by decide) ?_
  refine r_getR a34_1 ty85 rf85_2 (by decide) ?_
  refine r_loadI a34_4 rfl ?_
  refine r_loadI a34_5 rfl ?_
  refine r_loadI a34_6 rfl ?_
  refine r_callI_3 a34_7 (Nat.le_of_ble_eq_true rfl) (le_mx mx31 (Nat.le_of_ble_eq_true rfl)) (Or.inl rfl) (c_Pa_cell e z m g p c hg hp hc) (fun x_7 m_7 h_7 => ?_)
  obtain ⟨hm_7, h_7⟩ := h_7
  rw [hm_7]
  refine r_iald a34_10 ty87 (by omega) ?_
  refine r_retIq a34_11 ?_
  exact ⟨rfl, by rw [h_7]⟩
theorem c_Pa_paceAfter_85 (d z : Nat) (m : XM) (g p c : Int) (hd : 1 ≤ d) (hg : 0 ≤ g ∧ g < 7) (hp : 0 ≤ p ∧ p < 10) (hc : 0 ≤ c ∧ c < 3) :
    CI d k_Pa_paceAfter z m [vR 85, vI g, vI p, vI c] (fun x m' => m' = m ∧ x = m 89 ((g * 10 + p) * 3 + c)) := by
  obtain ⟨e, rfl⟩ : ∃ e, d = e + 1 := ⟨d - 1, by omega⟩
  refine r_entry mx35 rfl ?_
  refine r_loadA a35_0 rfl (by decide) ?_
  refine r_getR a35_1 ty85 rf85_4 (by decide) ?_
  refine r_loadI a35_4 rfl ?_
  refine r_loadI a35_5 rfl ?_
  refine r_loadI a35_6 rfl ?_
  refine r_callI_3 a35_7 (Nat.le_of_ble_eq_true rfl) (le_mx mx31 (Nat.le_of_ble_eq_true rfl)) (Or.inl rfl) (c_Pa_cell e z m g p c hg hp hc) (fun x_7 m_7 h_7 => ?_)
  obtain ⟨hm_7, h_7⟩ := h_7
  rw [hm_7]
  refine r_iald a35_10 ty89 (by omega) ?_
  refine r_retIq a35_11 ?_
  exact ⟨rfl, by rw [h_7]⟩
theorem c_Pa_leastFrom_85 (d z : Nat) (m : XM) (i p : Int) (hi : 0 ≤ i ∧ i ≤ 7) (hp : 0 ≤ p ∧ p < 10) :
    CI d k_Pa_leastFrom z m [vR 85, vI i, vI p] (fun x m' => m' = m ∧ x = m 93 (i * 10 + p)) := by
  refine r_entry mx37 rfl ?_
  refine r_loadA a37_0 rfl (by decide) ?_
  refine r_getR a37_1 ty85 rf85_8 (by decide) ?_
  refine r_loadI a37_4 rfl ?_
  refine r_pushI a37_5 ?_
  refine r_mul a37_7 (by omega) ?_
  refine r_loadI a37_8 rfl ?_
  refine r_add a37_9 (by omega) ?_
  refine r_iald a37_10 ty93 (by omega) ?_
  refine r_retIq a37_11 ?_
  exact ⟨rfl, rfl⟩
theorem c_Pa_changePlaces_85 (d z : Nat) (m : XM) (a b : Int) (ha : 0 ≤ a ∧ a < 7) (hb : 0 ≤ b ∧ b < 7) :
    CV d k_Pa_changePlaces z m [vR 85, vI a, vI b] (fun m' => m' = upC m 86 (upi (upi (m 86) a (m 86 b)) b (m 86 a))) := by
  refine r_entry mx36 rfl ?_
  refine r_loadA a36_0 rfl (by decide) ?_
  refine r_getR a36_1 ty85 rf85_1 (by decide) ?_
  refine r_loadI a36_4 rfl ?_
  refine r_iald a36_5 ty86 (by omega) ?_
  refine r_storeI_3 a36_6 rfl ?_
  refine r_loadA a36_7 rfl (by decide) ?_
  refine r_getR a36_8 ty85 rf85_1 (by decide) ?_
  refine r_loadI a36_11 rfl ?_
  refine r_loadA a36_12 rfl (by decide) ?_
  refine r_getR a36_13 ty85 rf85_1 (by decide) ?_
  refine r_loadI a36_16 rfl ?_
  refine r_iald a36_17 ty86 (by omega) ?_
  refine r_iast a36_18 ty86 (by omega) ?_
  refine r_loadA a36_19 rfl (by decide) ?_
  refine r_getR a36_20 ty85 rf85_1 (by decide) ?_
  refine r_loadI a36_23 rfl ?_
  refine r_loadI a36_24 rfl ?_
  refine r_iast a36_25 ty86 (by omega) ?_
  refine r_retVq a36_26 ?_
  rw [up2_C, up2_C, upC_s, upC_upC]
theorem c_Pa_solveAt_85 (d z : Nat) (m : XM) (O T B : TF) (od : Int → Int) (N i p f : Int) (n : Nat) (hd : 2 ≤ d) (hN : N ≤ 7) (hi : 0 ≤ i ∧ i + n + 1 = N) (hp : 0 ≤ p ∧ p < 10) (hf : f = 0 ∨ f = 1)
    (hT : TbE m 85 O T B N) (hR : RgE O T B N) (ho : ∀ j, 0 ≤ j → j < N → m 86 j = od j ∧ 0 ≤ od j ∧ od j < N)
    (hL : ∀ q, 0 ≤ q → q < 10 → m 93 ((i + 1) * 10 + q) = (LC (oF od O) (oF od T) (oF od B) (f = 1) n (i + 1) q).1) :
    CV d k_Pa_solveAt z m [vR 85, vI i, vI p, vI f] (fun m' => m' = up2 (up2 m 93 (i * 10 + p) (LC (oF od O) (oF od T) (oF od B) (f = 1) (n + 1) i p).1) 94 (i * 10 + p) (LC (oF od O) (oF od T) (oF od B) (f = 1) (n + 1) i p).2) := by
  obtain ⟨dd, rfl⟩ : ∃ dd, d = dd + 1 := ⟨d - 1, by omega⟩
  obtain ⟨o1, o2, o3⟩ := ho i hi.1 (by omega)
  have hRo : RgE (oF od O) (oF od T) (oF od B) N := RgE_o (fun i a b => (ho i a b).2) hR
  have step : ∀ (c : Int) (x : Int × Int) (y7 y8 : XV) (Q : Option XV → XH → Prop), 0 ≤ c → c < 3 → x.1 ≤ 100000000 →
      (∀ y7 y8, RZ (dd + 1) k_Pa_solveAt 10 [vR 85, vI i, vI p, vI f, vI (stp x (oF od T i p c + (LC (oF od O) (oF od T) (oF od B) (f = 1) n (i + 1) (oF od B i p c)).1) (¬ ((f = 1) ∧ oF od O i p c > 0)) c).1, vI (stp x (oF od T i p c + (LC (oF od O) (oF od T) (oF od B) (f = 1) n (i + 1) (oF od B i p c)).1) (¬ ((f = 1) ∧ oF od O i p c > 0)) c).2, vI (c + 1), y7, y8] [] (zH z m) Q) →
      RZ (dd + 1) k_Pa_solveAt 10 [vR 85, vI i, vI p, vI f, vI x.1, vI x.2, vI c, y7, y8] [] (zH z m) Q := by
    intro c x y7 y8 Q c1 c2 hx k
    obtain ⟨e1, e2, e3⟩ := hT (od i) p c o2 o3 hp.1 hp.2 c1 c2
    obtain ⟨g1, g2, g3⟩ := hR (od i) p c o2 o3 hp.1 hp.2 c1 c2
    have hl := LC_r (f = 1) hRo n (i + 1) (B (od i) p c) (by omega) (by omega) g3.1 (by omega)
    generalize hv : oF od T i p c + (LC (oF od O) (oF od T) (oF od B) (f = 1) n (i + 1) (oF od B i p c)).1 = v at k
    have hv' : T (od i) p c + (LC (oF od O) (oF od T) (oF od B) (f = 1) n (i + 1) (B (od i) p c)).1 = v := hv
    have ko : oF od O i p c = O (od i) p c := rfl
    rw [ko] at k
    refine r_loadI a39_10 rfl ?_
    refine r_pushI a39_12 ?_
    refine r_icge a39_13 (fun h_13 => ?_) (fun h_13 => ?_)
    · exfalso
      omega
    · refine r_loadA a39_16 rfl (by decide) ?_
      refine r_getR a39_17 ty85 rf85_1 (by decide) ?_
      refine r_loadI a39_20 rfl ?_
      refine r_iald a39_21 ty86 (by omega) ?_
      rw [o1]
      refine r_loadI a39_22 rfl ?_
      refine r_loadI a39_23 rfl ?_
      refine r_callI_3 a39_25 (Nat.le_of_ble_eq_true rfl) (le_mx mx31 (Nat.le_of_ble_eq_true rfl)) (Or.inl rfl) (c_Pa_cell dd z m (od i) p c ⟨o2, by omega⟩ hp ⟨c1, c2⟩) (fun x_25 m_25 h_25 => ?_)
      obtain ⟨hm_25, h_25⟩ := h_25
      rw [hm_25]
      rw [h_25]
      refine r_storeI_7 a39_28 rfl ?_
      refine r_loadA a39_30 rfl (by decide) ?_
      refine r_getR a39_31 ty85 rf85_3 (by decide) ?_
      refine r_loadI a39_34 rfl ?_
      refine r_iald a39_36 ty88 (by omega) ?_
      rw [e2]
      refine r_loadA a39_37 rfl (by decide) ?_
      refine r_loadI a39_38 rfl ?_
      refine r_pushI a39_39 ?_
      refine r_add a39_40 (by omega) ?_
      refine r_loadA a39_41 rfl (by decide) ?_
      refine r_getR a39_42 ty85 rf85_4 (by decide) ?_
      refine r_loadI a39_45 rfl ?_
      refine r_iald a39_47 ty89 (by omega) ?_
      rw [e3]
      refine r_callI_3 a39_48 (Nat.le_of_ble_eq_true rfl) (le_mx mx37 (Nat.le_of_ble_eq_true rfl)) (Or.inr (recv_ok ty85 ow37 (by decide))) (c_Pa_leastFrom_85 dd z m (i + 1) (B (od i) p c) (by omega) ⟨g3.1, by omega⟩) (fun x_48 m_48 h_48 => ?_)
      obtain ⟨hm_48, h_48⟩ := h_48
      rw [hm_48]
      have hx48 : x_48 = (LC (oF od O) (oF od T) (oF od B) (f = 1) n (i + 1) (B (od i) p c)).1 := by rw [h_48, hL _ g3.1 (by omega)]
      rw [hx48]
      refine r_add a39_51 (by omega) ?_
      rw [hv']
      refine r_storeI_8 a39_52 rfl ?_
      refine r_loadI a39_54 rfl ?_
      refine r_loadI a39_56 rfl ?_
      refine r_icge a39_58 (fun h_58 => ?_) (fun h_58 => ?_)
      · refine r_iinc_6 a39_83 rfl (by omega) ?_
        refine r_goto a39_86 ?_
        first
          | (have q : stp x v (¬ (f = 1 ∧ O (od i) p c > 0)) c = (v, c) := if_pos ⟨by omega, by omega⟩
             rw [q] at k; exact k _ _)
          | (have q : stp x v (¬ (f = 1 ∧ O (od i) p c > 0)) c = x := if_neg (by omega)
             rw [q] at k; exact k _ _)
      · refine r_loadI a39_61 rfl ?_
        refine r_ifeq a39_62 (fun h_62 => ?_) (fun h_62 => ?_)
        · refine r_loadI a39_75 rfl ?_
          refine r_storeI_4 a39_77 rfl ?_
          refine r_loadI a39_79 rfl ?_
          refine r_storeI_5 a39_81 rfl ?_
          refine r_iinc_6 a39_83 rfl (by omega) ?_
          refine r_goto a39_86 ?_
          first
            | (have q : stp x v (¬ (f = 1 ∧ O (od i) p c > 0)) c = (v, c) := if_pos ⟨by omega, by omega⟩
               rw [q] at k; exact k _ _)
            | (have q : stp x v (¬ (f = 1 ∧ O (od i) p c > 0)) c = x := if_neg (by omega)
               rw [q] at k; exact k _ _)
        · refine r_loadA a39_65 rfl (by decide) ?_
          refine r_getR a39_66 ty85 rf85_2 (by decide) ?_
          refine r_loadI a39_69 rfl ?_
          refine r_iald a39_71 ty87 (by omega) ?_
          rw [e1]
          refine r_ifgt a39_72 (fun h_72 => ?_) (fun h_72 => ?_)
          · refine r_iinc_6 a39_83 rfl (by omega) ?_
            refine r_goto a39_86 ?_
            first
              | (have q : stp x v (¬ (f = 1 ∧ O (od i) p c > 0)) c = (v, c) := if_pos ⟨by omega, by omega⟩
                 rw [q] at k; exact k _ _)
              | (have q : stp x v (¬ (f = 1 ∧ O (od i) p c > 0)) c = x := if_neg (by omega)
                 rw [q] at k; exact k _ _)
          · refine r_loadI a39_75 rfl ?_
            refine r_storeI_4 a39_77 rfl ?_
            refine r_loadI a39_79 rfl ?_
            refine r_storeI_5 a39_81 rfl ?_
            refine r_iinc_6 a39_83 rfl (by omega) ?_
            refine r_goto a39_86 ?_
            first
              | (have q : stp x v (¬ (f = 1 ∧ O (od i) p c > 0)) c = (v, c) := if_pos ⟨by omega, by omega⟩
                 rw [q] at k; exact k _ _)
              | (have q : stp x v (¬ (f = 1 ∧ O (od i) p c > 0)) c = x := if_neg (by omega)
                 rw [q] at k; exact k _ _)
  refine r_entry mx39 rfl ?_
  have fin : ∀ y7 y8, RZ (dd + 1) k_Pa_solveAt 10 [vR 85, vI i, vI p, vI f, vI (LC (oF od O) (oF od T) (oF od B) (f = 1) (n + 1) i p).1, vI (LC (oF od O) (oF od T) (oF od B) (f = 1) (n + 1) i p).2, vI 3, y7, y8] [] (zH z m) (qz z (qv fun m' => m' = up2 (up2 m 93 (i * 10 + p) (LC (oF od O) (oF od T) (oF od B) (f = 1) (n + 1) i p).1) 94 (i * 10 + p) (LC (oF od O) (oF od T) (oF od B) (f = 1) (n + 1) i p).2)) := by
    intro y7 y8
    refine r_loadI a39_10 rfl ?_
    refine r_pushI a39_12 ?_
    refine r_icge a39_13 (fun _ => ?_) (fun h => absurd h (by decide))
    refine r_loadA a39_89 rfl (by decide) ?_
    refine r_getR a39_90 ty85 rf85_8 (by decide) ?_
    refine r_loadI a39_93 rfl ?_
    refine r_pushI a39_94 ?_
    refine r_mul a39_96 (by omega) ?_
    refine r_loadI a39_97 rfl ?_
    refine r_add a39_98 (by omega) ?_
    refine r_loadI a39_99 rfl ?_
    refine r_iast a39_101 ty93 (by omega) ?_
    refine r_loadA a39_102 rfl (by decide) ?_
    refine r_getR a39_103 ty85 rf85_9 (by decide) ?_
    refine r_loadI a39_106 rfl ?_
    refine r_pushI a39_107 ?_
    refine r_mul a39_109 (by omega) ?_
    refine r_loadI a39_110 rfl ?_
    refine r_add a39_111 (by omega) ?_
    refine r_loadI a39_112 rfl ?_
    refine r_iast a39_114 ty94 (by omega) ?_
    refine r_retVq a39_115 ?_
    rfl
  refine r_pushI a39_0 ?_
  refine r_storeI_4 a39_2 rfl ?_
  refine r_pushI a39_4 ?_
  refine r_storeI_5 a39_5 rfl ?_
  refine r_pushI a39_7 ?_
  refine r_storeI_6 a39_8 rfl ?_
  have b0 : 0 ≤ ((100000000, 0) : Int × Int).1 ∧ ((100000000, 0) : Int × Int).1 ≤ 100000000 ∧ 0 ≤ ((100000000, 0) : Int × Int).2 ∧ ((100000000, 0) : Int × Int).2 ≤ 2 := ⟨by decide, by decide, by decide, by decide⟩
  have hh : ∀ c, 0 ≤ c → c < 3 → 0 ≤ oF od T i p c + (LC (oF od O) (oF od T) (oF od B) (f = 1) n (i + 1) (oF od B i p c)).1 := fun c c1 c2 => by
    obtain ⟨_, t, b⟩ := hRo i p c hi.1 (by omega) hp.1 hp.2 c1 c2
    have := LC_r (f = 1) hRo n (i + 1) (oF od B i p c) (by omega) (by omega) b.1 (by omega)
    omega
  have s1 := stp_r _ _ (¬ ((f = 1) ∧ oF od O i p 0 > 0)) 0 b0 (hh 0 (by omega) (by omega)) (by omega)
  have s2 := stp_r _ _ (¬ ((f = 1) ∧ oF od O i p 1 > 0)) 1 s1 (hh 1 (by omega) (by omega)) (by omega)
  refine step 0 (100000000, 0) _ _ _ (by omega) (by omega) b0.2.1 (fun y7 y8 => ?_)
  refine step 1 _ _ _ _ (by omega) (by omega) s1.2.1 (fun y7 y8 => ?_)
  refine step 2 _ _ _ _ (by omega) (by omega) s2.2.1 (fun y7 y8 => ?_)
  have eL : stp (stp (stp (100000000, 0) (oF od T i p 0 + (LC (oF od O) (oF od T) (oF od B) (f = 1) n (i + 1) (oF od B i p 0)).1) (¬ ((f = 1) ∧ oF od O i p 0 > 0)) 0) (oF od T i p 1 + (LC (oF od O) (oF od T) (oF od B) (f = 1) n (i + 1) (oF od B i p 1)).1) (¬ ((f = 1) ∧ oF od O i p 1 > 0)) 1) (oF od T i p 2 + (LC (oF od O) (oF od T) (oF od B) (f = 1) n (i + 1) (oF od B i p 2)).1) (¬ ((f = 1) ∧ oF od O i p 2 > 0)) 2 = LC (oF od O) (oF od T) (oF od B) (f = 1) (n + 1) i p := rfl
  rw [eL]
  exact fin _ _
theorem c_Pa_solve_85 (d z : Nat) (m : XM) (O T B : TF) (od : Int → Int) (N f : Int) (hd : 3 ≤ d) (hN : 0 ≤ N ∧ N ≤ 7) (hf : f = 0 ∨ f = 1) (hm : m 85 0 = N)
    (hT : TbE m 85 O T B N) (hR : RgE O T B N) (ho : ∀ j, 0 ≤ j → j < N → m 86 j = od j ∧ 0 ≤ od j ∧ od j < N) :
    CI d k_Pa_solve z m [vR 85, vI f] (fun x m' => (∀ c, c ≠ 93 → c ≠ 94 → m' c = m c) ∧ SolP m' 85 (oF od O) (oF od T) (oF od B) (f = 1) N ∧ x = (LC (oF od O) (oF od T) (oF od B) (f = 1) N.toNat 0 3).1) := by
  obtain ⟨dd, rfl⟩ : ∃ dd, d = dd + 1 := ⟨d - 1, by omega⟩
  let PO := fun (x : Int) (m' : XM) => (∀ c, c ≠ 93 → c ≠ 94 → m' c = m c) ∧ SolP m' 85 (oF od O) (oF od T) (oF od B) (f = 1) N ∧ x = (LC (oF od O) (oF od T) (oF od B) (f = 1) N.toNat 0 3).1
  let Inv := fun (m1 : XM) (i : Int) => (∀ c, c ≠ 93 → c ≠ 94 → m1 c = m c) ∧ ∀ j q, i < j → j ≤ N → 0 ≤ q → q < 10 → m1 93 (j * 10 + q) = (LC (oF od O) (oF od T) (oF od B) (f = 1) (N - j).toNat j q).1 ∧ (j < N → m1 94 (j * 10 + q) = (LC (oF od O) (oF od T) (oF od B) (f = 1) (N - j).toNat j q).2)
  have main : ∀ (c : Nat) (i : Int) (m1 : XM) (y3 : XV), i + 1 ≤ c → -1 ≤ i → i < N → Inv m1 i →
      RZ (dd + 1) k_Pa_solve 36 [vR 85, vI f, vI i, y3] [] (zH z m1) (qz z (qi PO)) := by
    intro c
    induction c with
    | zero =>
      intro i m1 y3 h1 h2 h3 ⟨fr, hs⟩
      obtain rfl : i = -1 := by omega
      refine r_loadI a38_36 rfl ?_
      refine r_iflt a38_37 (fun h_37 => ?_) (fun h_37 => ?_)
      · refine r_loadA a38_67 rfl (by decide) ?_
        refine r_pushI a38_68 ?_
        refine r_pushI a38_69 ?_
        refine r_callI_3 a38_70 (Nat.le_of_ble_eq_true rfl) (le_mx mx37 (Nat.le_of_ble_eq_true rfl)) (Or.inr (recv_ok ty85 ow37 (by decide))) (c_Pa_leastFrom_85 dd z m1 0 3 (by omega) (by omega)) (fun x_70 m_70 h_70 => ?_)
        obtain ⟨hm_70, h_70⟩ := h_70
        rw [hm_70]
        refine r_retIq a38_73 ?_
        refine ⟨fr, fun j q a b c d => hs j q (by omega) b c d, ?_⟩
        have := (hs 0 3 (by omega) hN.1 (by omega) (by omega)).1
        rw [h_70]; rw [Int.sub_zero] at this; exact this
      · exfalso
        omega
    | succ c ih =>
      intro i m1 y3 h1 h2 h3 hI
      by_cases hneg : i < 0
      · obtain ⟨fr, hs⟩ := hI
        obtain rfl : i = -1 := by omega
        refine r_loadI a38_36 rfl ?_
        refine r_iflt a38_37 (fun h_37 => ?_) (fun h_37 => ?_)
        · refine r_loadA a38_67 rfl (by decide) ?_
          refine r_pushI a38_68 ?_
          refine r_pushI a38_69 ?_
          refine r_callI_3 a38_70 (Nat.le_of_ble_eq_true rfl) (le_mx mx37 (Nat.le_of_ble_eq_true rfl)) (Or.inr (recv_ok ty85 ow37 (by decide))) (c_Pa_leastFrom_85 dd z m1 0 3 (by omega) (by omega)) (fun x_70 m_70 h_70 => ?_)
          obtain ⟨hm_70, h_70⟩ := h_70
          rw [hm_70]
          refine r_retIq a38_73 ?_
          refine ⟨fr, fun j q a b c d => hs j q (by omega) b c d, ?_⟩
          have := (hs 0 3 (by omega) hN.1 (by omega) (by omega)).1
          rw [h_70]; rw [Int.sub_zero] at this; exact this
        · exfalso
          omega
      · have inner : ∀ (cc : Nat) (p : Int) (m2 : XM), 10 < p + cc → 0 ≤ p → p ≤ 10 → Inv m2 i →
            (∀ q, 0 ≤ q → q < p → m2 93 (i * 10 + q) = (LC (oF od O) (oF od T) (oF od B) (f = 1) (N - i).toNat i q).1 ∧ m2 94 (i * 10 + q) = (LC (oF od O) (oF od T) (oF od B) (f = 1) (N - i).toNat i q).2) →
            RZ (dd + 1) k_Pa_solve 42 [vR 85, vI f, vI i, vI p] [] (zH z m2) (qz z (qi PO)) := by
          intro cc
          induction cc with
          | zero => intro p m2 q1 q2 q3; exfalso; omega
          | succ cc ih2 =>
            intro p m2 q1 q2 q3 ⟨fr, hs⟩ hq
            have e1 : (N - i).toNat = (N - (i + 1)).toNat + 1 := by omega
            refine r_loadI a38_42 rfl ?_
            refine r_pushI a38_43 ?_
            refine r_icge a38_45 (fun h_45 => ?_) (fun h_45 => ?_)
            · refine r_iinc_2 a38_61 rfl (by omega) ?_
              refine r_goto a38_64 ?_
              refine ih (i + -1) m2 _ (by omega) (by omega) (by omega) ⟨fr, fun j q a b c d => ?_⟩
              by_cases hj : j = i
              · have := hq q c (by omega)
                rw [hj]; exact ⟨this.1, fun _ => this.2⟩
              · exact hs j q (by omega) b c d
            · refine r_loadA a38_48 rfl (by decide) ?_
              refine r_loadI a38_49 rfl ?_
              refine r_loadI a38_50 rfl ?_
              refine r_loadI a38_51 rfl ?_
              refine r_callV_4 a38_52 (Nat.le_of_ble_eq_true rfl) (le_mx mx39 (Nat.le_of_ble_eq_true rfl)) (Or.inr (recv_ok ty85 ow39 (by decide))) (c_Pa_solveAt_85 dd z m2 O T B od N i p f (N - (i + 1)).toNat (by omega) hN.2 (by omega) (by omega) hf (TbE_cong (fr 87 (by decide) (by decide)) (fr 88 (by decide) (by decide)) (fr 89 (by decide) (by decide)) hT) hR (fun j a b => by rw [fr 86 (by decide) (by decide)]; exact ho j a b) (fun q a b => (hs (i + 1) q (by omega) (by omega) a b).1)) (fun m_52 h_52 => ?_)
              rw [h_52]
              refine r_iinc_3 a38_55 rfl (by omega) ?_
              refine r_goto a38_58 ?_
              refine ih2 (p + 1) _ (by omega) (by omega) (by omega) ⟨fun c c1 c2 => by rw [up2_c c2, up2_c c1]; exact fr c c1 c2, fun j q a b c d => ?_⟩ (fun q a b => ?_)
              · rw [up2_c (show 93 ≠ 94 by decide), up2_k (show j * 10 + q ≠ i * 10 + p by omega), up2_k (show j * 10 + q ≠ i * 10 + p by omega), up2_c (show 94 ≠ 93 by decide)]
                exact hs j q a b c d
              · rw [up2_c (show 93 ≠ 94 by decide)]
                by_cases hqp : q = p
                · rw [hqp, up2_s, up2_s, e1]; exact ⟨rfl, rfl⟩
                · rw [up2_k (show i * 10 + q ≠ i * 10 + p by omega), up2_k (show i * 10 + q ≠ i * 10 + p by omega), up2_c (show 94 ≠ 93 by decide)]
                  exact hq q a (by omega)
        refine r_loadI a38_36 rfl ?_
        refine r_iflt a38_37 (fun h_37 => ?_) (fun h_37 => ?_)
        · exfalso
          omega
        · refine r_pushI a38_40 ?_
          refine r_storeI_3 a38_41 rfl ?_
          exact inner 11 0 m1 (by omega) (by omega) (by omega) hI (fun q a b => by omega)
  have zero : ∀ (c : Nat) (p : Int) (m1 : XM), 10 < p + c → 0 ≤ p → p ≤ 10 → (∀ c, c ≠ 93 → c ≠ 94 → m1 c = m c) → (∀ q, 0 ≤ q → q < p → m1 93 (N * 10 + q) = 0) →
      RZ (dd + 1) k_Pa_solve 2 [vR 85, vI f, vI p, vR 0] [] (zH z m1) (qz z (qi PO)) := by
    intro c
    induction c with
    | zero => intro p m1 q1 q2 q3; exfalso; omega
    | succ c ih =>
      intro p m1 q1 q2 q3 fr hz
      have eN : m1 85 0 = N := by rw [fr 85 (by decide) (by decide)]; exact hm
      refine r_loadI a38_2 rfl ?_
      refine r_pushI a38_3 ?_
      refine r_icge a38_5 (fun h_5 => ?_) (fun h_5 => ?_)
      · refine r_loadA a38_29 rfl (by decide) ?_
        refine r_getI (ki := 0) a38_30 ty85 rfl ?_
        rw [eN]
        refine r_pushI a38_33 ?_
        refine r_sub a38_34 (by omega) ?_
        refine r_storeI_2 a38_35 rfl ?_
        refine main 8 (N - 1) m1 _ (by omega) (by omega) (by omega) ⟨fr, fun j q a b c d => ?_⟩
        obtain rfl : j = N := by omega
        have e : (j - j).toNat = 0 := by omega
        rw [e]
        exact ⟨hz q c (by omega), fun h => by omega⟩
      · refine r_loadA a38_8 rfl (by decide) ?_
        refine r_getR a38_9 ty85 rf85_8 (by decide) ?_
        refine r_loadA a38_12 rfl (by decide) ?_
        refine r_getI (ki := 0) a38_13 ty85 rfl ?_
        rw [eN]
        refine r_pushI a38_16 ?_
        refine r_mul a38_18 (by omega) ?_
        refine r_loadI a38_19 rfl ?_
        refine r_add a38_20 (by omega) ?_
        refine r_pushI a38_21 ?_
        refine r_iast a38_22 ty93 (by omega) ?_
        refine r_iinc_2 a38_23 rfl (by omega) ?_
        refine r_goto a38_26 ?_
        refine ih (p + 1) _ (by omega) (by omega) (by omega) (fun c c1 c2 => by rw [up2_c c1]; exact fr c c1 c2) (fun q a b => ?_)
        by_cases hqp : q = p
        · rw [hqp, up2_s]
        · rw [up2_k (show N * 10 + q ≠ N * 10 + p by omega)]; exact hz q a (by omega)
  refine r_entry mx38 rfl ?_
  refine r_pushI a38_0 ?_
  refine r_storeI_2 a38_1 rfl ?_
  exact zero 11 0 m (by omega) (by omega) (by omega) (fun _ _ _ => rfl) (fun q a b => by omega)
theorem c_Pa_timeAt_98 (d z : Nat) (m : XM) (g p c : Int) (hd : 1 ≤ d) (hg : 0 ≤ g ∧ g < 7) (hp : 0 ≤ p ∧ p < 10) (hc : 0 ≤ c ∧ c < 3) :
    CI d k_Pa_timeAt z m [vR 98, vI g, vI p, vI c] (fun x m' => m' = m ∧ x = m 101 ((g * 10 + p) * 3 + c)) := by
  obtain ⟨e, rfl⟩ : ∃ e, d = e + 1 := ⟨d - 1, by omega⟩
  refine r_entry mx33 rfl ?_
  refine r_loadA a33_0 rfl (by decide) ?_
  refine r_getR a33_1 ty98 rf98_3 (by decide) ?_
  refine r_loadI a33_4 rfl ?_
  refine r_loadI a33_5 rfl ?_
  refine r_loadI a33_6 rfl ?_
  refine r_callI_3 a33_7 (Nat.le_of_ble_eq_true rfl) (le_mx mx31 (Nat.le_of_ble_eq_true rfl)) (Or.inl rfl) (c_Pa_cell e z m g p c hg hp hc) (fun x_7 m_7 h_7 => ?_)
  obtain ⟨hm_7, h_7⟩ := h_7
  rw [hm_7]
  refine r_iald a33_10 ty101 (by omega) ?_
  refine r_retIq a33_11 ?_
  exact ⟨rfl, by rw [h_7]⟩
theorem c_Pa_overAt_98 (d z : Nat) (m : XM) (g p c : Int) (hd : 1 ≤ d) (hg : 0 ≤ g ∧ g < 7) (hp : 0 ≤ p ∧ p < 10) (hc : 0 ≤ c ∧ c < 3) :
    CI d k_Pa_overAt z m [vR 98, vI g, vI p, vI c] (fun x m' => m' = m ∧ x = m 100 ((g * 10 + p) * 3 + c)) := by
  obtain ⟨e, rfl⟩ : ∃ e, d = e + 1 := ⟨d - 1, by omega⟩
  refine r_entry mx34 rfl ?_
  refine r_loadA a34_0 rfl (by decide) ?_
  refine r_getR a34_1 ty98 rf98_2 (by decide) ?_
  refine r_loadI a34_4 rfl ?_
  refine r_loadI a34_5 rfl ?_
  refine r_loadI a34_6 rfl ?_
  refine r_callI_3 a34_7 (Nat.le_of_ble_eq_true rfl) (le_mx mx31 (Nat.le_of_ble_eq_true rfl)) (Or.inl rfl) (c_Pa_cell e z m g p c hg hp hc) (fun x_7 m_7 h_7 => ?_)
  obtain ⟨hm_7, h_7⟩ := h_7
  rw [hm_7]
  refine r_iald a34_10 ty100 (by omega) ?_
  refine r_retIq a34_11 ?_
  exact ⟨rfl, by rw [h_7]⟩
theorem c_Pa_paceAfter_98 (d z : Nat) (m : XM) (g p c : Int) (hd : 1 ≤ d) (hg : 0 ≤ g ∧ g < 7) (hp : 0 ≤ p ∧ p < 10) (hc : 0 ≤ c ∧ c < 3) :
    CI d k_Pa_paceAfter z m [vR 98, vI g, vI p, vI c] (fun x m' => m' = m ∧ x = m 102 ((g * 10 + p) * 3 + c)) := by
  obtain ⟨e, rfl⟩ : ∃ e, d = e + 1 := ⟨d - 1, by omega⟩
  refine r_entry mx35 rfl ?_
  refine r_loadA a35_0 rfl (by decide) ?_
  refine r_getR a35_1 ty98 rf98_4 (by decide) ?_
  refine r_loadI a35_4 rfl ?_
  refine r_loadI a35_5 rfl ?_
  refine r_loadI a35_6 rfl ?_
  refine r_callI_3 a35_7 (Nat.le_of_ble_eq_true rfl) (le_mx mx31 (Nat.le_of_ble_eq_true rfl)) (Or.inl rfl) (c_Pa_cell e z m g p c hg hp hc) (fun x_7 m_7 h_7 => ?_)
  obtain ⟨hm_7, h_7⟩ := h_7
  rw [hm_7]
  refine r_iald a35_10 ty102 (by omega) ?_
  refine r_retIq a35_11 ?_
  exact ⟨rfl, by rw [h_7]⟩
theorem c_Pa_leastFrom_98 (d z : Nat) (m : XM) (i p : Int) (hi : 0 ≤ i ∧ i ≤ 7) (hp : 0 ≤ p ∧ p < 10) :
    CI d k_Pa_leastFrom z m [vR 98, vI i, vI p] (fun x m' => m' = m ∧ x = m 106 (i * 10 + p)) := by
  refine r_entry mx37 rfl ?_
  refine r_loadA a37_0 rfl (by decide) ?_
  refine r_getR a37_1 ty98 rf98_8 (by decide) ?_
  refine r_loadI a37_4 rfl ?_
  refine r_pushI a37_5 ?_
  refine r_mul a37_7 (by omega) ?_
  refine r_loadI a37_8 rfl ?_
  refine r_add a37_9 (by omega) ?_
  refine r_iald a37_10 ty106 (by omega) ?_
  refine r_retIq a37_11 ?_
  exact ⟨rfl, rfl⟩
theorem c_Pa_changePlaces_98 (d z : Nat) (m : XM) (a b : Int) (ha : 0 ≤ a ∧ a < 7) (hb : 0 ≤ b ∧ b < 7) :
    CV d k_Pa_changePlaces z m [vR 98, vI a, vI b] (fun m' => m' = upC m 99 (upi (upi (m 99) a (m 99 b)) b (m 99 a))) := by
  refine r_entry mx36 rfl ?_
  refine r_loadA a36_0 rfl (by decide) ?_
  refine r_getR a36_1 ty98 rf98_1 (by decide) ?_
  refine r_loadI a36_4 rfl ?_
  refine r_iald a36_5 ty99 (by omega) ?_
  refine r_storeI_3 a36_6 rfl ?_
  refine r_loadA a36_7 rfl (by decide) ?_
  refine r_getR a36_8 ty98 rf98_1 (by decide) ?_
  refine r_loadI a36_11 rfl ?_
  refine r_loadA a36_12 rfl (by decide) ?_
  refine r_getR a36_13 ty98 rf98_1 (by decide) ?_
  refine r_loadI a36_16 rfl ?_
  refine r_iald a36_17 ty99 (by omega) ?_
  refine r_iast a36_18 ty99 (by omega) ?_
  refine r_loadA a36_19 rfl (by decide) ?_
  refine r_getR a36_20 ty98 rf98_1 (by decide) ?_
  refine r_loadI a36_23 rfl ?_
  refine r_loadI a36_24 rfl ?_
  refine r_iast a36_25 ty99 (by omega) ?_
  refine r_retVq a36_26 ?_
  rw [up2_C, up2_C, upC_s, upC_upC]
theorem c_Pa_solveAt_98 (d z : Nat) (m : XM) (O T B : TF) (od : Int → Int) (N i p f : Int) (n : Nat) (hd : 2 ≤ d) (hN : N ≤ 7) (hi : 0 ≤ i ∧ i + n + 1 = N) (hp : 0 ≤ p ∧ p < 10) (hf : f = 0 ∨ f = 1)
    (hT : TbE m 98 O T B N) (hR : RgE O T B N) (ho : ∀ j, 0 ≤ j → j < N → m 99 j = od j ∧ 0 ≤ od j ∧ od j < N)
    (hL : ∀ q, 0 ≤ q → q < 10 → m 106 ((i + 1) * 10 + q) = (LC (oF od O) (oF od T) (oF od B) (f = 1) n (i + 1) q).1) :
    CV d k_Pa_solveAt z m [vR 98, vI i, vI p, vI f] (fun m' => m' = up2 (up2 m 106 (i * 10 + p) (LC (oF od O) (oF od T) (oF od B) (f = 1) (n + 1) i p).1) 107 (i * 10 + p) (LC (oF od O) (oF od T) (oF od B) (f = 1) (n + 1) i p).2) := by
  obtain ⟨dd, rfl⟩ : ∃ dd, d = dd + 1 := ⟨d - 1, by omega⟩
  obtain ⟨o1, o2, o3⟩ := ho i hi.1 (by omega)
  have hRo : RgE (oF od O) (oF od T) (oF od B) N := RgE_o (fun i a b => (ho i a b).2) hR
  have step : ∀ (c : Int) (x : Int × Int) (y7 y8 : XV) (Q : Option XV → XH → Prop), 0 ≤ c → c < 3 → x.1 ≤ 100000000 →
      (∀ y7 y8, RZ (dd + 1) k_Pa_solveAt 10 [vR 98, vI i, vI p, vI f, vI (stp x (oF od T i p c + (LC (oF od O) (oF od T) (oF od B) (f = 1) n (i + 1) (oF od B i p c)).1) (¬ ((f = 1) ∧ oF od O i p c > 0)) c).1, vI (stp x (oF od T i p c + (LC (oF od O) (oF od T) (oF od B) (f = 1) n (i + 1) (oF od B i p c)).1) (¬ ((f = 1) ∧ oF od O i p c > 0)) c).2, vI (c + 1), y7, y8] [] (zH z m) Q) →
      RZ (dd + 1) k_Pa_solveAt 10 [vR 98, vI i, vI p, vI f, vI x.1, vI x.2, vI c, y7, y8] [] (zH z m) Q := by
    intro c x y7 y8 Q c1 c2 hx k
    obtain ⟨e1, e2, e3⟩ := hT (od i) p c o2 o3 hp.1 hp.2 c1 c2
    obtain ⟨g1, g2, g3⟩ := hR (od i) p c o2 o3 hp.1 hp.2 c1 c2
    have hl := LC_r (f = 1) hRo n (i + 1) (B (od i) p c) (by omega) (by omega) g3.1 (by omega)
    generalize hv : oF od T i p c + (LC (oF od O) (oF od T) (oF od B) (f = 1) n (i + 1) (oF od B i p c)).1 = v at k
    have hv' : T (od i) p c + (LC (oF od O) (oF od T) (oF od B) (f = 1) n (i + 1) (B (od i) p c)).1 = v := hv
    have ko : oF od O i p c = O (od i) p c := rfl
    rw [ko] at k
    refine r_loadI a39_10 rfl ?_
    refine r_pushI a39_12 ?_
    refine r_icge a39_13 (fun h_13 => ?_) (fun h_13 => ?_)
    · exfalso
      omega
    · refine r_loadA a39_16 rfl (by decide) ?_
      refine r_getR a39_17 ty98 rf98_1 (by decide) ?_
      refine r_loadI a39_20 rfl ?_
      refine r_iald a39_21 ty99 (by omega) ?_
      rw [o1]
      refine r_loadI a39_22 rfl ?_
      refine r_loadI a39_23 rfl ?_
      refine r_callI_3 a39_25 (Nat.le_of_ble_eq_true rfl) (le_mx mx31 (Nat.le_of_ble_eq_true rfl)) (Or.inl rfl) (c_Pa_cell dd z m (od i) p c ⟨o2, by omega⟩ hp ⟨c1, c2⟩) (fun x_25 m_25 h_25 => ?_)
      obtain ⟨hm_25, h_25⟩ := h_25
      rw [hm_25]
      rw [h_25]
      refine r_storeI_7 a39_28 rfl ?_
      refine r_loadA a39_30 rfl (by decide) ?_
      refine r_getR a39_31 ty98 rf98_3 (by decide) ?_
      refine r_loadI a39_34 rfl ?_
      refine r_iald a39_36 ty101 (by omega) ?_
      rw [e2]
      refine r_loadA a39_37 rfl (by decide) ?_
      refine r_loadI a39_38 rfl ?_
      refine r_pushI a39_39 ?_
      refine r_add a39_40 (by omega) ?_
      refine r_loadA a39_41 rfl (by decide) ?_
      refine r_getR a39_42 ty98 rf98_4 (by decide) ?_
      refine r_loadI a39_45 rfl ?_
      refine r_iald a39_47 ty102 (by omega) ?_
      rw [e3]
      refine r_callI_3 a39_48 (Nat.le_of_ble_eq_true rfl) (le_mx mx37 (Nat.le_of_ble_eq_true rfl)) (Or.inr (recv_ok ty98 ow37 (by decide))) (c_Pa_leastFrom_98 dd z m (i + 1) (B (od i) p c) (by omega) ⟨g3.1, by omega⟩) (fun x_48 m_48 h_48 => ?_)
      obtain ⟨hm_48, h_48⟩ := h_48
      rw [hm_48]
      have hx48 : x_48 = (LC (oF od O) (oF od T) (oF od B) (f = 1) n (i + 1) (B (od i) p c)).1 := by rw [h_48, hL _ g3.1 (by omega)]
      rw [hx48]
      refine r_add a39_51 (by omega) ?_
      rw [hv']
      refine r_storeI_8 a39_52 rfl ?_
      refine r_loadI a39_54 rfl ?_
      refine r_loadI a39_56 rfl ?_
      refine r_icge a39_58 (fun h_58 => ?_) (fun h_58 => ?_)
      · refine r_iinc_6 a39_83 rfl (by omega) ?_
        refine r_goto a39_86 ?_
        first
          | (have q : stp x v (¬ (f = 1 ∧ O (od i) p c > 0)) c = (v, c) := if_pos ⟨by omega, by omega⟩
             rw [q] at k; exact k _ _)
          | (have q : stp x v (¬ (f = 1 ∧ O (od i) p c > 0)) c = x := if_neg (by omega)
             rw [q] at k; exact k _ _)
      · refine r_loadI a39_61 rfl ?_
        refine r_ifeq a39_62 (fun h_62 => ?_) (fun h_62 => ?_)
        · refine r_loadI a39_75 rfl ?_
          refine r_storeI_4 a39_77 rfl ?_
          refine r_loadI a39_79 rfl ?_
          refine r_storeI_5 a39_81 rfl ?_
          refine r_iinc_6 a39_83 rfl (by omega) ?_
          refine r_goto a39_86 ?_
          first
            | (have q : stp x v (¬ (f = 1 ∧ O (od i) p c > 0)) c = (v, c) := if_pos ⟨by omega, by omega⟩
               rw [q] at k; exact k _ _)
            | (have q : stp x v (¬ (f = 1 ∧ O (od i) p c > 0)) c = x := if_neg (by omega)
               rw [q] at k; exact k _ _)
        · refine r_loadA a39_65 rfl (by decide) ?_
          refine r_getR a39_66 ty98 rf98_2 (by decide) ?_
          refine r_loadI a39_69 rfl ?_
          refine r_iald a39_71 ty100 (by omega) ?_
          rw [e1]
          refine r_ifgt a39_72 (fun h_72 => ?_) (fun h_72 => ?_)
          · refine r_iinc_6 a39_83 rfl (by omega) ?_
            refine r_goto a39_86 ?_
            first
              | (have q : stp x v (¬ (f = 1 ∧ O (od i) p c > 0)) c = (v, c) := if_pos ⟨by omega, by omega⟩
                 rw [q] at k; exact k _ _)
              | (have q : stp x v (¬ (f = 1 ∧ O (od i) p c > 0)) c = x := if_neg (by omega)
                 rw [q] at k; exact k _ _)
          · refine r_loadI a39_75 rfl ?_
            refine r_storeI_4 a39_77 rfl ?_
            refine r_loadI a39_79 rfl ?_
            refine r_storeI_5 a39_81 rfl ?_
            refine r_iinc_6 a39_83 rfl (by omega) ?_
            refine r_goto a39_86 ?_
            first
              | (have q : stp x v (¬ (f = 1 ∧ O (od i) p c > 0)) c = (v, c) := if_pos ⟨by omega, by omega⟩
                 rw [q] at k; exact k _ _)
              | (have q : stp x v (¬ (f = 1 ∧ O (od i) p c > 0)) c = x := if_neg (by omega)
                 rw [q] at k; exact k _ _)
  refine r_entry mx39 rfl ?_
  have fin : ∀ y7 y8, RZ (dd + 1) k_Pa_solveAt 10 [vR 98, vI i, vI p, vI f, vI (LC (oF od O) (oF od T) (oF od B) (f = 1) (n + 1) i p).1, vI (LC (oF od O) (oF od T) (oF od B) (f = 1) (n + 1) i p).2, vI 3, y7, y8] [] (zH z m) (qz z (qv fun m' => m' = up2 (up2 m 106 (i * 10 + p) (LC (oF od O) (oF od T) (oF od B) (f = 1) (n + 1) i p).1) 107 (i * 10 + p) (LC (oF od O) (oF od T) (oF od B) (f = 1) (n + 1) i p).2)) := by
    intro y7 y8
    refine r_loadI a39_10 rfl ?_
    refine r_pushI a39_12 ?_
    refine r_icge a39_13 (fun _ => ?_) (fun h => absurd h (by decide))
    refine r_loadA a39_89 rfl (by decide) ?_
    refine r_getR a39_90 ty98 rf98_8 (by decide) ?_
    refine r_loadI a39_93 rfl ?_
    refine r_pushI a39_94 ?_
    refine r_mul a39_96 (by omega) ?_
    refine r_loadI a39_97 rfl ?_
    refine r_add a39_98 (by omega) ?_
    refine r_loadI a39_99 rfl ?_
    refine r_iast a39_101 ty106 (by omega) ?_
    refine r_loadA a39_102 rfl (by decide) ?_
    refine r_getR a39_103 ty98 rf98_9 (by decide) ?_
    refine r_loadI a39_106 rfl ?_
    refine r_pushI a39_107 ?_
    refine r_mul a39_109 (by omega) ?_
    refine r_loadI a39_110 rfl ?_
    refine r_add a39_111 (by omega) ?_
    refine r_loadI a39_112 rfl ?_
    refine r_iast a39_114 ty107 (by omega) ?_
    refine r_retVq a39_115 ?_
    rfl
  refine r_pushI a39_0 ?_
  refine r_storeI_4 a39_2 rfl ?_
  refine r_pushI a39_4 ?_
  refine r_storeI_5 a39_5 rfl ?_
  refine r_pushI a39_7 ?_
  refine r_storeI_6 a39_8 rfl ?_
  have b0 : 0 ≤ ((100000000, 0) : Int × Int).1 ∧ ((100000000, 0) : Int × Int).1 ≤ 100000000 ∧ 0 ≤ ((100000000, 0) : Int × Int).2 ∧ ((100000000, 0) : Int × Int).2 ≤ 2 := ⟨by decide, by decide, by decide, by decide⟩
  have hh : ∀ c, 0 ≤ c → c < 3 → 0 ≤ oF od T i p c + (LC (oF od O) (oF od T) (oF od B) (f = 1) n (i + 1) (oF od B i p c)).1 := fun c c1 c2 => by
    obtain ⟨_, t, b⟩ := hRo i p c hi.1 (by omega) hp.1 hp.2 c1 c2
    have := LC_r (f = 1) hRo n (i + 1) (oF od B i p c) (by omega) (by omega) b.1 (by omega)
    omega
  have s1 := stp_r _ _ (¬ ((f = 1) ∧ oF od O i p 0 > 0)) 0 b0 (hh 0 (by omega) (by omega)) (by omega)
  have s2 := stp_r _ _ (¬ ((f = 1) ∧ oF od O i p 1 > 0)) 1 s1 (hh 1 (by omega) (by omega)) (by omega)
  refine step 0 (100000000, 0) _ _ _ (by omega) (by omega) b0.2.1 (fun y7 y8 => ?_)
  refine step 1 _ _ _ _ (by omega) (by omega) s1.2.1 (fun y7 y8 => ?_)
  refine step 2 _ _ _ _ (by omega) (by omega) s2.2.1 (fun y7 y8 => ?_)
  have eL : stp (stp (stp (100000000, 0) (oF od T i p 0 + (LC (oF od O) (oF od T) (oF od B) (f = 1) n (i + 1) (oF od B i p 0)).1) (¬ ((f = 1) ∧ oF od O i p 0 > 0)) 0) (oF od T i p 1 + (LC (oF od O) (oF od T) (oF od B) (f = 1) n (i + 1) (oF od B i p 1)).1) (¬ ((f = 1) ∧ oF od O i p 1 > 0)) 1) (oF od T i p 2 + (LC (oF od O) (oF od T) (oF od B) (f = 1) n (i + 1) (oF od B i p 2)).1) (¬ ((f = 1) ∧ oF od O i p 2 > 0)) 2 = LC (oF od O) (oF od T) (oF od B) (f = 1) (n + 1) i p := rfl
  rw [eL]
  exact fin _ _
theorem c_Pa_solve_98 (d z : Nat) (m : XM) (O T B : TF) (od : Int → Int) (N f : Int) (hd : 3 ≤ d) (hN : 0 ≤ N ∧ N ≤ 7) (hf : f = 0 ∨ f = 1) (hm : m 98 0 = N)
    (hT : TbE m 98 O T B N) (hR : RgE O T B N) (ho : ∀ j, 0 ≤ j → j < N → m 99 j = od j ∧ 0 ≤ od j ∧ od j < N) :
    CI d k_Pa_solve z m [vR 98, vI f] (fun x m' => (∀ c, c ≠ 106 → c ≠ 107 → m' c = m c) ∧ SolP m' 98 (oF od O) (oF od T) (oF od B) (f = 1) N ∧ x = (LC (oF od O) (oF od T) (oF od B) (f = 1) N.toNat 0 3).1) := by
  obtain ⟨dd, rfl⟩ : ∃ dd, d = dd + 1 := ⟨d - 1, by omega⟩
  let PO := fun (x : Int) (m' : XM) => (∀ c, c ≠ 106 → c ≠ 107 → m' c = m c) ∧ SolP m' 98 (oF od O) (oF od T) (oF od B) (f = 1) N ∧ x = (LC (oF od O) (oF od T) (oF od B) (f = 1) N.toNat 0 3).1
  let Inv := fun (m1 : XM) (i : Int) => (∀ c, c ≠ 106 → c ≠ 107 → m1 c = m c) ∧ ∀ j q, i < j → j ≤ N → 0 ≤ q → q < 10 → m1 106 (j * 10 + q) = (LC (oF od O) (oF od T) (oF od B) (f = 1) (N - j).toNat j q).1 ∧ (j < N → m1 107 (j * 10 + q) = (LC (oF od O) (oF od T) (oF od B) (f = 1) (N - j).toNat j q).2)
  have main : ∀ (c : Nat) (i : Int) (m1 : XM) (y3 : XV), i + 1 ≤ c → -1 ≤ i → i < N → Inv m1 i →
      RZ (dd + 1) k_Pa_solve 36 [vR 98, vI f, vI i, y3] [] (zH z m1) (qz z (qi PO)) := by
    intro c
    induction c with
    | zero =>
      intro i m1 y3 h1 h2 h3 ⟨fr, hs⟩
      obtain rfl : i = -1 := by omega
      refine r_loadI a38_36 rfl ?_
      refine r_iflt a38_37 (fun h_37 => ?_) (fun h_37 => ?_)
      · refine r_loadA a38_67 rfl (by decide) ?_
        refine r_pushI a38_68 ?_
        refine r_pushI a38_69 ?_
        refine r_callI_3 a38_70 (Nat.le_of_ble_eq_true rfl) (le_mx mx37 (Nat.le_of_ble_eq_true rfl)) (Or.inr (recv_ok ty98 ow37 (by decide))) (c_Pa_leastFrom_98 dd z m1 0 3 (by omega) (by omega)) (fun x_70 m_70 h_70 => ?_)
        obtain ⟨hm_70, h_70⟩ := h_70
        rw [hm_70]
        refine r_retIq a38_73 ?_
        refine ⟨fr, fun j q a b c d => hs j q (by omega) b c d, ?_⟩
        have := (hs 0 3 (by omega) hN.1 (by omega) (by omega)).1
        rw [h_70]; rw [Int.sub_zero] at this; exact this
      · exfalso
        omega
    | succ c ih =>
      intro i m1 y3 h1 h2 h3 hI
      by_cases hneg : i < 0
      · obtain ⟨fr, hs⟩ := hI
        obtain rfl : i = -1 := by omega
        refine r_loadI a38_36 rfl ?_
        refine r_iflt a38_37 (fun h_37 => ?_) (fun h_37 => ?_)
        · refine r_loadA a38_67 rfl (by decide) ?_
          refine r_pushI a38_68 ?_
          refine r_pushI a38_69 ?_
          refine r_callI_3 a38_70 (Nat.le_of_ble_eq_true rfl) (le_mx mx37 (Nat.le_of_ble_eq_true rfl)) (Or.inr (recv_ok ty98 ow37 (by decide))) (c_Pa_leastFrom_98 dd z m1 0 3 (by omega) (by omega)) (fun x_70 m_70 h_70 => ?_)
          obtain ⟨hm_70, h_70⟩ := h_70
          rw [hm_70]
          refine r_retIq a38_73 ?_
          refine ⟨fr, fun j q a b c d => hs j q (by omega) b c d, ?_⟩
          have := (hs 0 3 (by omega) hN.1 (by omega) (by omega)).1
          rw [h_70]; rw [Int.sub_zero] at this; exact this
        · exfalso
          omega
      · have inner : ∀ (cc : Nat) (p : Int) (m2 : XM), 10 < p + cc → 0 ≤ p → p ≤ 10 → Inv m2 i →
            (∀ q, 0 ≤ q → q < p → m2 106 (i * 10 + q) = (LC (oF od O) (oF od T) (oF od B) (f = 1) (N - i).toNat i q).1 ∧ m2 107 (i * 10 + q) = (LC (oF od O) (oF od T) (oF od B) (f = 1) (N - i).toNat i q).2) →
            RZ (dd + 1) k_Pa_solve 42 [vR 98, vI f, vI i, vI p] [] (zH z m2) (qz z (qi PO)) := by
          intro cc
          induction cc with
          | zero => intro p m2 q1 q2 q3; exfalso; omega
          | succ cc ih2 =>
            intro p m2 q1 q2 q3 ⟨fr, hs⟩ hq
            have e1 : (N - i).toNat = (N - (i + 1)).toNat + 1 := by omega
            refine r_loadI a38_42 rfl ?_
            refine r_pushI a38_43 ?_
            refine r_icge a38_45 (fun h_45 => ?_) (fun h_45 => ?_)
            · refine r_iinc_2 a38_61 rfl (by omega) ?_
              refine r_goto a38_64 ?_
              refine ih (i + -1) m2 _ (by omega) (by omega) (by omega) ⟨fr, fun j q a b c d => ?_⟩
              by_cases hj : j = i
              · have := hq q c (by omega)
                rw [hj]; exact ⟨this.1, fun _ => this.2⟩
              · exact hs j q (by omega) b c d
            · refine r_loadA a38_48 rfl (by decide) ?_
              refine r_loadI a38_49 rfl ?_
              refine r_loadI a38_50 rfl ?_
              refine r_loadI a38_51 rfl ?_
              refine r_callV_4 a38_52 (Nat.le_of_ble_eq_true rfl) (le_mx mx39 (Nat.le_of_ble_eq_true rfl)) (Or.inr (recv_ok ty98 ow39 (by decide))) (c_Pa_solveAt_98 dd z m2 O T B od N i p f (N - (i + 1)).toNat (by omega) hN.2 (by omega) (by omega) hf (TbE_cong (fr 100 (by decide) (by decide)) (fr 101 (by decide) (by decide)) (fr 102 (by decide) (by decide)) hT) hR (fun j a b => by rw [fr 99 (by decide) (by decide)]; exact ho j a b) (fun q a b => (hs (i + 1) q (by omega) (by omega) a b).1)) (fun m_52 h_52 => ?_)
              rw [h_52]
              refine r_iinc_3 a38_55 rfl (by omega) ?_
              refine r_goto a38_58 ?_
              refine ih2 (p + 1) _ (by omega) (by omega) (by omega) ⟨fun c c1 c2 => by rw [up2_c c2, up2_c c1]; exact fr c c1 c2, fun j q a b c d => ?_⟩ (fun q a b => ?_)
              · rw [up2_c (show 106 ≠ 107 by decide), up2_k (show j * 10 + q ≠ i * 10 + p by omega), up2_k (show j * 10 + q ≠ i * 10 + p by omega), up2_c (show 107 ≠ 106 by decide)]
                exact hs j q a b c d
              · rw [up2_c (show 106 ≠ 107 by decide)]
                by_cases hqp : q = p
                · rw [hqp, up2_s, up2_s, e1]; exact ⟨rfl, rfl⟩
                · rw [up2_k (show i * 10 + q ≠ i * 10 + p by omega), up2_k (show i * 10 + q ≠ i * 10 + p by omega), up2_c (show 107 ≠ 106 by decide)]
                  exact hq q a (by omega)
        refine r_loadI a38_36 rfl ?_
        refine r_iflt a38_37 (fun h_37 => ?_) (fun h_37 => ?_)
        · exfalso
          omega
        · refine r_pushI a38_40 ?_
          refine r_storeI_3 a38_41 rfl ?_
          exact inner 11 0 m1 (by omega) (by omega) (by omega) hI (fun q a b => by omega)
  have zero : ∀ (c : Nat) (p : Int) (m1 : XM), 10 < p + c → 0 ≤ p → p ≤ 10 → (∀ c, c ≠ 106 → c ≠ 107 → m1 c = m c) → (∀ q, 0 ≤ q → q < p → m1 106 (N * 10 + q) = 0) →
      RZ (dd + 1) k_Pa_solve 2 [vR 98, vI f, vI p, vR 0] [] (zH z m1) (qz z (qi PO)) := by
    intro c
    induction c with
    | zero => intro p m1 q1 q2 q3; exfalso; omega
    | succ c ih =>
      intro p m1 q1 q2 q3 fr hz
      have eN : m1 98 0 = N := by rw [fr 98 (by decide) (by decide)]; exact hm
      refine r_loadI a38_2 rfl ?_
      refine r_pushI a38_3 ?_
      refine r_icge a38_5 (fun h_5 => ?_) (fun h_5 => ?_)
      · refine r_loadA a38_29 rfl (by decide) ?_
        refine r_getI (ki := 0) a38_30 ty98 rfl ?_
        rw [eN]
        refine r_pushI a38_33 ?_
        refine r_sub a38_34 (by omega) ?_
        refine r_storeI_2 a38_35 rfl ?_
        refine main 8 (N - 1) m1 _ (by omega) (by omega) (by omega) ⟨fr, fun j q a b c d => ?_⟩
        obtain rfl : j = N := by omega
        have e : (j - j).toNat = 0 := by omega
        rw [e]
        exact ⟨hz q c (by omega), fun h => by omega⟩
      · refine r_loadA a38_8 rfl (by decide) ?_
        refine r_getR a38_9 ty98 rf98_8 (by decide) ?_
        refine r_loadA a38_12 rfl (by decide) ?_
        refine r_getI (ki := 0) a38_13 ty98 rfl ?_
        rw [eN]
        refine r_pushI a38_16 ?_
        refine r_mul a38_18 (by omega) ?_
        refine r_loadI a38_19 rfl ?_
        refine r_add a38_20 (by omega) ?_
        refine r_pushI a38_21 ?_
        refine r_iast a38_22 ty106 (by omega) ?_
        refine r_iinc_2 a38_23 rfl (by omega) ?_
        refine r_goto a38_26 ?_
        refine ih (p + 1) _ (by omega) (by omega) (by omega) (fun c c1 c2 => by rw [up2_c c1]; exact fr c c1 c2) (fun q a b => ?_)
        by_cases hqp : q = p
        · rw [hqp, up2_s]
        · rw [up2_k (show N * 10 + q ≠ N * 10 + p by omega)]; exact hz q a (by omega)
  refine r_entry mx38 rfl ?_
  refine r_pushI a38_0 ?_
  refine r_storeI_2 a38_1 rfl ?_
  exact zero 11 0 m (by omega) (by omega) (by omega) (fun _ _ _ => rfl) (fun q a b => by omega)
