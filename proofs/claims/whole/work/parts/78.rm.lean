-- ===== the reference reads: clauses, a slope =====
theorem mSteps_app (c : Bool × Int × List Int) : ∀ cl : CLs, mSteps (cl ++ [c]) = mSteps cl ++ (c.2.2 ++ [mEnd c]) := by
  intro cl
  induction cl with
  | nil => rfl
  | cons x xs ih => show x.2.2 ++ mEnd x :: mSteps (xs ++ [c]) = (x.2.2 ++ mEnd x :: mSteps xs) ++ _; rw [ih, List.append_assoc]; rfl
def MdM (m : XM) (r fo : Int) (cl : CLs) (A : Int) : Prop := m 122 (199 + A) = r ∧ m 122 (204 + A) = fo ∧ m 122 (209 + A) = (mSteps cl).length ∧ Seg (m 122) (214 + 140 * A) (mSteps cl)
def MoK (m m' : XM) (A : Int) : Prop := (∀ x, x ≠ 121 → x ≠ 122 → m' x = m x) ∧ (∀ y, y ≠ 5 → y ≠ 7 → m' 121 y = m 121 y) ∧ (∀ y, y ≠ 199 + A → y ≠ 204 + A → y ≠ 209 + A → ¬ (214 + 140 * A ≤ y ∧ y < 214 + 140 * A + 140) → m' 122 y = m 122 y) ∧
  (m' 122 (199 + A) = m 122 (199 + A) ∨ (0 ≤ m' 122 (199 + A) ∧ m' 122 (199 + A) ≤ 99)) ∧ (m' 122 (204 + A) = m 122 (204 + A) ∨ (0 ≤ m' 122 (204 + A) ∧ m' 122 (204 + A) ≤ 99)) ∧ m 122 (209 + A) ≤ m' 122 (209 + A)
theorem MoF_K {m m' : XM} {A : Int} (hA : 0 ≤ A ∧ A < 5) (hc : 0 ≤ m 122 (209 + A)) (h : MoF m m' A) : MoK m m' A := by
  obtain ⟨a, b, c, d⟩ := h
  exact ⟨a, b, fun y y1 y2 y3 y4 => c y y3 (by omega), Or.inl (c _ (by omega) (by omega)), Or.inl (c _ (by omega) (by omega)), d⟩
def MoC (m m' : XM) (A : Int) (R : CRes) : Prop := MoK m m' A ∧ m' 121 5 = R.1 ∧ m' 122 (209 + A) ≤ R.1 ∧ ((∃ r fo cl, R.2 = some (r, fo, cl) ∧ m' 121 7 = 0 ∧ MdM m' r fo cl A) ∨ (R.2 = none ∧ m' 121 7 = 1))
theorem c_Mo_some_top (d z : Nat) (m : XM) (f : Int → Int) (E A : Int) (hd : 25 ≤ d) (hP : MoP m f E A) (ho : m 121 8 = 0) : CV d k_Mo_some z m [vR 121] (fun m' => MoR m m' A (soP (faP f E 5) f E (m 121 5))) := by
  have h := cal_some (evP (faP f E 5) f E) f E A 0 23 0 (cal_every (faP f E 5) f E A 0 22 0 (cal_factor f E A 5 (by omega)) (GoodF_mono (faP_good f E 5 (by omega)) (by omega))) (evP_good (A := 0) (GoodF_mono (faP_good f E 5 (by omega)) (by omega)))
  exact h d z m (by omega) hP ho
theorem c_Mo_much_15 (d z : Nat) (m : XM) (f : Int → Int) (E A p r fo : Int) (cl : CLs) (hd : 26 ≤ d) (hP : MoP m f E A) (ho : m 121 8 = 0) (hp5 : m 121 5 = p) (hM : MdM m r fo cl A) : CV d k_Mo_much z m [vR 121, vI (-10), vR 15] (fun m' => MoC m m' A (pMuch f E true wWax p r fo cl)) := by
  obtain ⟨e, rfl⟩ : ∃ e, d = e + 1 := ⟨d - 1, by omega⟩
  obtain ⟨hS, h7, hc1, hc2⟩ := hP
  rw [hp5] at hc2
  have hb := hS.2.1
  have hp := hS.2.2.1
  rw [hp5] at hp
  have hA := hS.2.2.2.2.2.2
  have wl := pWord_r (f := f) (E := E) wWax (by decide) p hp.1 hp.2
  obtain ⟨R, hR⟩ : ∃ R, pMuch f E true wWax p r fo cl = R := ⟨_, rfl⟩
  rw [hR]
  unfold pMuch at hR
  have e122 : ∀ w' q', mS m w' q' 122 = m 122 := fun w' q' => mS_c (by decide)
  have e4 : ∀ w' q', mS m w' q' 121 4 = A := fun w' q' => by rw [mS_k (by decide) (by decide)]; exact hS.2.2.2.2.2.1
  have fail : ∀ q : Int, p ≤ q → R = (q, none) → MoC m (mS m 1 q) A R := fun q hq hh => by
    rw [hh]
    exact ⟨MoF_K hA hc1 (MoF_mS m 1 q A), mS_5 m 1 q, by rw [e122]; show _ ≤ q; omega, Or.inr ⟨rfl, mS_7 m 1 q⟩⟩
  -- wrong from here on
  have bad16 : ∀ (q v3 : Int), p ≤ q → q ≤ E → (0 ≤ v3 ∧ v3 ≤ 99) → R = (q, none) → RZ (e + 1) k_Mo_much 16 [vR 121, vI (-10), vR 15, vI v3] [] (zH z (mS m 1 q)) (qz z (qv fun m' => MoC m m' A R)) := by
    intro q v3 hq hqE hv hh
    refine r_loadA a133_16 rfl (by decide) ?_
    refine r_callV_1 a133_17 (Nat.le_of_ble_eq_true rfl) (le_mx mx132 (Nat.le_of_ble_eq_true rfl)) (Or.inr (recv_ok ty121 ow132 (by decide))) (wrg_some 1 (wrg_every 0 wrg_factor) e z (mS m 1 q) (by omega) (mS_7 m 1 q)) (fun m_17 h_17 => ?_)
    rw [h_17]
    refine r_loadA a133_20 rfl (by decide) ?_
    refine r_loadI a133_21 rfl ?_
    refine r_loadI a133_22 rfl ?_
    refine r_sub a133_23 (by omega) ?_
    refine r_callV_2 a133_24 (Nat.le_of_ble_eq_true rfl) (le_mx mx129 (Nat.le_of_ble_eq_true rfl)) (Or.inr (recv_ok ty121 ow129 (by decide))) (c_Mo_emits e z (mS m 1 q) A _ (e4 1 q) hA (by rw [e122]; omega)) (fun m_24 h_24 => ?_)
    refine r_retVq a133_27 ?_
    rcases h_24 with ⟨b1, _⟩ | ⟨_, b2⟩
    · rw [mS_7] at b1; exact absurd b1 (by decide)
    · rw [b2]; exact fail q hq hh
  have bad5 : ∀ (q : Int) (y3 : XV), p ≤ q → q ≤ E → R = (q, none) → RZ (e + 1) k_Mo_much 5 [vR 121, vI (-10), vR 15, y3] [] (zH z (mS m 1 q)) (qz z (qv fun m' => MoC m m' A R)) := by
    intro q y3 hq hqE hh
    have t6 := c_Mo_figures e z (mS m 1 q) f E A 1 q (by omega) (MoS_mS hS (by omega)) (mS_7 m 1 q) (mS_5 m 1 q) (by omega)
    refine r_loadA a133_5 rfl (by decide) ?_
    refine r_callI_1 a133_6 (Nat.le_of_ble_eq_true rfl) (le_mx mx127 (Nat.le_of_ble_eq_true rfl)) (Or.inr (recv_ok ty121 ow127 (by decide))) (t6) (fun x_6 m_6 h_6 => ?_)
    have hm : x_6 = 0 ∧ m_6 = mS m 1 q := by
      rcases h_6 with ⟨b1, _⟩ | ⟨_, b2, b3⟩
      · exact absurd b1 (by decide)
      · exact ⟨b2, by rw [b3, mS_mS]⟩
    rw [hm.2]
    refine r_storeI_3 a133_9 rfl ?_
    refine r_loadA a133_10 rfl (by decide) ?_
    refine r_pushI a133_11 ?_
    refine r_callV_2 a133_13 (Nat.le_of_ble_eq_true rfl) (le_mx mx125 (Nat.le_of_ble_eq_true rfl)) (Or.inr (recv_ok ty121 ow125 (by decide))) (c_Mo_must e z (mS m 1 q) f E A 32 1 q (by omega) (MoS_mS hS (by omega)) (mS_7 m 1 q) (mS_5 m 1 q) (by omega)) (fun m_13 h_13 => ?_)
    rcases h_13 with ⟨b1, _⟩ | ⟨_, b3⟩
    · exact absurd b1 (by decide)
    · rw [b3, mS_mS]
      exact bad16 q x_6 hq hqE (by omega) hh
  have good16 : ∀ (q2 v : Int), p ≤ q2 → q2 + 1 ≤ E → (0 ≤ v ∧ v ≤ 99) → (match soP (faP f E 5) f E (q2 + 1) with | (q3, some t) => (q3, some (r, fo, cl ++ [(true, v, t)])) | (q3, none) => (q3, none)) = R → RZ (e + 1) k_Mo_much 16 [vR 121, vI (-10), vR 15, vI v] [] (zH z (mS m 0 (q2 + 1))) (qz z (qv fun m' => MoC m m' A R)) := by
    intro q2 v hq hqE hv hR2
    have hP2 : MoP (mS m 0 (q2 + 1)) f E A := ⟨MoS_mS hS (by omega), mS_7 m 0 (q2 + 1), by rw [e122]; exact hc1, by rw [e122, mS_5]; omega⟩
    have t17 := c_Mo_some_top e z (mS m 0 (q2 + 1)) f E A (by omega) hP2 (by rw [mS_k (by decide) (by decide)]; exact ho)
    rw [mS_5] at t17
    have gd := (soP_good (f := f) (A := 0) (GoodF_mono (faP_good f E 5 (by omega)) (by omega))) (q2 + 1) (by omega) (by omega)
    refine r_loadA a133_16 rfl (by decide) ?_
    refine r_callV_1 a133_17 (Nat.le_of_ble_eq_true rfl) (le_mx mx132 (Nat.le_of_ble_eq_true rfl)) (Or.inr (recv_ok ty121 ow132 (by decide))) (t17) (fun m_17 h_17 => ?_)
    obtain ⟨g1, g2, g3, g4⟩ := h_17
    rw [e122] at g4
    have fr : MoF m m_17 A := MoF.trans (MoF_mS m 0 (q2 + 1) A) g1
    have em4 : m_17 121 4 = A := by rw [fr.2.1 4 (by decide) (by decide)]; exact hS.2.2.2.2.2.1
    have hcm := fr.2.2.2
    have hcb : m_17 122 (209 + A) ≤ 100 := by
      rcases bnd_cases (soP (faP f E 5) f E (q2 + 1)) (fun q t => (q, some t)) with ⟨q3, t, u1, _⟩ | ⟨q3, u1, _⟩
      · have := (gd.1 q3 t u1).2.1
        rw [u1] at g3
        have g3' : m_17 122 (209 + A) ≤ q3 := g3
        omega
      · have := (gd.2 q3 u1).2
        rw [u1] at g3
        have g3' : m_17 122 (209 + A) ≤ q3 := g3
        omega
    refine r_loadA a133_20 rfl (by decide) ?_
    refine r_loadI a133_21 rfl ?_
    refine r_loadI a133_22 rfl ?_
    refine r_sub a133_23 (by omega) ?_
    refine r_callV_2 a133_24 (Nat.le_of_ble_eq_true rfl) (le_mx mx129 (Nat.le_of_ble_eq_true rfl)) (Or.inr (recv_ok ty121 ow129 (by decide))) (c_Mo_emits e z m_17 A _ em4 hA (by omega)) (fun m_24 h_24 => ?_)
    refine r_retVq a133_27 ?_
    rcases bnd_cases (soP (faP f E 5) f E (q2 + 1)) (fun q t => (q, some t)) with ⟨q3, t, u1, _⟩ | ⟨q3, u1, _⟩
    · obtain ⟨k1, k2, k3, _⟩ := gd.1 q3 t u1
      rw [u1] at hR2 g2 g4
      have hR3 : (q3, some (r, fo, cl ++ [(true, v, t)])) = R := hR2
      rcases g4 with ⟨t', x1, v1, v2, v3⟩ | ⟨x1, _⟩
      · have x1' : some t = some t' := x1
        rw [Option.some.injEq] at x1'
        rw [← x1'] at v2 v3
        have hm : m_24 = mE m_17 A (-10 - v) := by
          rcases h_24 with ⟨_, h⟩ | ⟨h, _⟩
          · exact h
          · exact absurd v1 h
        have hcr : 0 ≤ m_17 122 (209 + A) ∧ m_17 122 (209 + A) < 140 := by omega
        have g2' : m_17 121 5 = q3 := g2
        obtain ⟨d1, d2, d3, d4⟩ := hM
        rw [← hR3, hm]
        refine ⟨MoF_K hA hc1 (MoF.trans fr (MoF_E m_17 A _ hcr)), by rw [mE_x (by decide)]; exact g2', ?_, Or.inl ⟨r, fo, cl ++ [(true, v, t)], rfl, by rw [mE_x (by decide)]; exact v1, ?_, ?_, ?_, ?_⟩⟩
        · rw [mE_c m_17 A _ hcr.1, v2]; show _ ≤ q3; omega
        · rw [mE_y (by omega) (by omega), fr.2.2.1 (199 + A) (by omega) (by omega)]; exact d1
        · rw [mE_y (by omega) (by omega), fr.2.2.1 (204 + A) (by omega) (by omega)]; exact d2
        · rw [mE_c m_17 A _ hcr.1, v2, d3, mSteps_app, List.length_append, List.length_append]; push_cast; show _ = _ + (_ + ((1 : Nat) : Int)); omega
        · rw [mSteps_app, Seg_app, Seg_app]
          have v3' : Seg (m_17 122) (214 + 140 * A + ((mSteps cl).length : Int)) t := by rw [← d3]; exact v3
          refine ⟨Seg_le d4 (fun i i1 i2 => ?_), Seg_le v3' (fun i i1 i2 => ?_), ?_⟩
          · rw [mE_y (by omega) (by omega), fr.2.2.1 i (by omega) (by omega)]
          · have i2' : i < 214 + 140 * A + ((mSteps cl).length : Int) + (t.length : Int) := i2
            rw [mE_y (by omega) (by omega)]
          · rw [show 214 + 140 * A + ((mSteps cl).length : Int) + (t.length : Int) = 214 + 140 * A + m_17 122 (209 + A) by omega]
            exact ⟨mE_v m_17 A _ hA hcr.1, trivial⟩
      · exact absurd x1 (by simp)
    · rw [u1] at hR2 g2 g3 g4
      have hR3 : (q3, none) = R := hR2
      have o1 : m_17 121 7 = 1 := by
        rcases g4 with ⟨_, u, _⟩ | ⟨_, u⟩
        · exact absurd u (by simp)
        · exact u
      have hm : m_24 = m_17 := by
        rcases h_24 with ⟨h, _⟩ | ⟨_, h⟩
        · omega
        · exact h
      rw [← hR3, hm]
      exact ⟨MoF_K hA hc1 fr, g2, g3, Or.inr ⟨rfl, o1⟩⟩
  have at9 : ∀ (q2 v : Int), p ≤ q2 → q2 ≤ E → (0 ≤ v ∧ v ≤ 99) → (if atP f E q2 = 32 then (match soP (faP f E 5) f E (q2 + 1) with | (q3, some t) => (q3, some (r, fo, cl ++ [(true, v, t)])) | (q3, none) => (q3, none)) else (q2, none)) = R → ∀ y3, RZ (e + 1) k_Mo_much 9 [vR 121, vI (-10), vR 15, y3] [vI v] (zH z (mS m 0 q2)) (qz z (qv fun m' => MoC m m' A R)) := by
    intro q2 v hq hqE hv hR2 y3
    have t13 := c_Mo_must e z (mS m 0 q2) f E A 32 0 q2 (by omega) (MoS_mS hS (by omega)) (mS_7 m 0 q2) (mS_5 m 0 q2) (by omega)
    rw [mS_mS, mS_mS] at t13
    refine r_storeI_3 a133_9 rfl ?_
    refine r_loadA a133_10 rfl (by decide) ?_
    refine r_pushI a133_11 ?_
    refine r_callV_2 a133_13 (Nat.le_of_ble_eq_true rfl) (le_mx mx125 (Nat.le_of_ble_eq_true rfl)) (Or.inr (recv_ok ty121 ow125 (by decide))) (t13) (fun m_13 h_13 => ?_)
    rcases h_13 with ⟨_, c2, c3⟩ | ⟨c1, c3⟩
    · rw [if_pos c2] at hR2
      have hlt := @atP_lt f E q2 (by omega)
      rw [c3]
      exact good16 q2 v hq (by omega) hv hR2
    · rw [if_neg (fun x => c1 ⟨rfl, x⟩)] at hR2
      rw [c3]
      exact bad16 q2 v hq hqE hv hR2.symm
  have at9b : ∀ (q : Int), p ≤ q → q ≤ E → R = (q, none) → ∀ y3, RZ (e + 1) k_Mo_much 9 [vR 121, vI (-10), vR 15, y3] [vI 0] (zH z (mS m 1 q)) (qz z (qv fun m' => MoC m m' A R)) := by
    intro q hq hqE hh y3
    have t13 := c_Mo_must e z (mS m 1 q) f E A 32 1 q (by omega) (MoS_mS hS (by omega)) (mS_7 m 1 q) (mS_5 m 1 q) (by omega)
    refine r_storeI_3 a133_9 rfl ?_
    refine r_loadA a133_10 rfl (by decide) ?_
    refine r_pushI a133_11 ?_
    refine r_callV_2 a133_13 (Nat.le_of_ble_eq_true rfl) (le_mx mx125 (Nat.le_of_ble_eq_true rfl)) (Or.inr (recv_ok ty121 ow125 (by decide))) (t13) (fun m_13 h_13 => ?_)
    rcases h_13 with ⟨c1, _⟩ | ⟨_, c3⟩
    · exact absurd c1 (by decide)
    · rw [c3, mS_mS]
      exact bad16 q 0 hq hqE (by omega) hh
  have good5 : ∀ (q : Int), p ≤ q → q ≤ E → (match pNum f E q with | none => (q, none) | some (v, q2) => if atP f E q2 = 32 then (match soP (faP f E 5) f E (q2 + 1) with | (q3, some t) => (q3, some (r, fo, cl ++ [(true, v, t)])) | (q3, none) => (q3, none)) else (q2, none)) = R → ∀ y3, RZ (e + 1) k_Mo_much 5 [vR 121, vI (-10), vR 15, y3] [] (zH z (mS m 0 q)) (qz z (qv fun m' => MoC m m' A R)) := by
    intro q w1 w2 hR5 y3
    have t6 := c_Mo_figures e z (mS m 0 q) f E A 0 q (by omega) (MoS_mS hS (by omega)) (mS_7 m 0 q) (mS_5 m 0 q) (by omega)
    refine r_loadA a133_5 rfl (by decide) ?_
    refine r_callI_1 a133_6 (Nat.le_of_ble_eq_true rfl) (le_mx mx127 (Nat.le_of_ble_eq_true rfl)) (Or.inr (recv_ok ty121 ow127 (by decide))) (t6) (fun x_6 m_6 h_6 => ?_)
    rcases h_6 with ⟨_, v, q2, b1, b2, b3⟩ | ⟨b1, b2, b3⟩
    · have hr := pNum_r b1
      rw [b1] at hR5
      rw [b3, mS_mS, b2]
      exact at9 q2 v (by omega) (by omega) (by omega) hR5 _
    · have hn : pNum f E q = none := by
        rcases b1 with b1 | b1
        · exact absurd b1 (by decide)
        · exact b1
      rw [hn] at hR5
      have hR2 : (q, none) = R := hR5
      rw [b3, mS_mS, b2]
      exact at9b q w1 w2 hR2.symm _
  refine r_entry mx133 rfl ?_
  refine r_loadA a133_0 rfl (by decide) ?_
  refine r_loadA a133_1 rfl (by decide) ?_
  refine r_callV_2 a133_2 (Nat.le_of_ble_eq_true rfl) (le_mx mx126 (Nat.le_of_ble_eq_true rfl)) (Or.inr (recv_ok ty121 ow126 (by decide))) (c_Mo_spells_15 e z m f E A p (by omega) hS h7 hp5) (fun m_2 h_2 => ?_)
  have hcs : (∃ q, (pWord f E wWax p).1 = q ∧ p ≤ q ∧ q ≤ E ∧ (pWord f E wWax p).2 = true ∧ m_2 = mS m 0 q) ∨ (∃ q, (pWord f E wWax p).1 = q ∧ p ≤ q ∧ q ≤ E ∧ (pWord f E wWax p).2 = false ∧ m_2 = mS m 1 q) := by
    rcases h_2 with ⟨b1, b2⟩ | ⟨b1, b2⟩
    · exact Or.inl ⟨_, rfl, wl.1, wl.2.1, b1, b2⟩
    · exact Or.inr ⟨_, rfl, wl.1, wl.2.1, b1, b2⟩
  rcases hcs with ⟨q, w0, w1, w2, w3, w5⟩ | ⟨q, w0, w1, w2, w3, w5⟩
  · rw [w5]
    rw [if_pos w3, w0] at hR
    exact good5 q w1 w2 hR _
  · rw [w5]
    rw [if_neg (by rw [w3]; decide), w0] at hR
    exact bad5 q _ w1 w2 hR.symm
theorem c_Mo_much_18 (d z : Nat) (m : XM) (f : Int → Int) (E A p r fo : Int) (cl : CLs) (hd : 26 ≤ d) (hP : MoP m f E A) (ho : m 121 8 = 0) (hp5 : m 121 5 = p) (hM : MdM m r fo cl A) : CV d k_Mo_much z m [vR 121, vI (-200), vR 18] (fun m' => MoC m m' A (pMuch f E false wIce p r fo cl)) := by
  obtain ⟨e, rfl⟩ : ∃ e, d = e + 1 := ⟨d - 1, by omega⟩
  obtain ⟨hS, h7, hc1, hc2⟩ := hP
  rw [hp5] at hc2
  have hb := hS.2.1
  have hp := hS.2.2.1
  rw [hp5] at hp
  have hA := hS.2.2.2.2.2.2
  have wl := pWord_r (f := f) (E := E) wIce (by decide) p hp.1 hp.2
  obtain ⟨R, hR⟩ : ∃ R, pMuch f E false wIce p r fo cl = R := ⟨_, rfl⟩
  rw [hR]
  unfold pMuch at hR
  have e122 : ∀ w' q', mS m w' q' 122 = m 122 := fun w' q' => mS_c (by decide)
  have e4 : ∀ w' q', mS m w' q' 121 4 = A := fun w' q' => by rw [mS_k (by decide) (by decide)]; exact hS.2.2.2.2.2.1
  have fail : ∀ q : Int, p ≤ q → R = (q, none) → MoC m (mS m 1 q) A R := fun q hq hh => by
    rw [hh]
    exact ⟨MoF_K hA hc1 (MoF_mS m 1 q A), mS_5 m 1 q, by rw [e122]; show _ ≤ q; omega, Or.inr ⟨rfl, mS_7 m 1 q⟩⟩
  -- wrong from here on
  have bad16 : ∀ (q v3 : Int), p ≤ q → q ≤ E → (0 ≤ v3 ∧ v3 ≤ 99) → R = (q, none) → RZ (e + 1) k_Mo_much 16 [vR 121, vI (-200), vR 18, vI v3] [] (zH z (mS m 1 q)) (qz z (qv fun m' => MoC m m' A R)) := by
    intro q v3 hq hqE hv hh
    refine r_loadA a133_16 rfl (by decide) ?_
    refine r_callV_1 a133_17 (Nat.le_of_ble_eq_true rfl) (le_mx mx132 (Nat.le_of_ble_eq_true rfl)) (Or.inr (recv_ok ty121 ow132 (by decide))) (wrg_some 1 (wrg_every 0 wrg_factor) e z (mS m 1 q) (by omega) (mS_7 m 1 q)) (fun m_17 h_17 => ?_)
    rw [h_17]
    refine r_loadA a133_20 rfl (by decide) ?_
    refine r_loadI a133_21 rfl ?_
    refine r_loadI a133_22 rfl ?_
    refine r_sub a133_23 (by omega) ?_
    refine r_callV_2 a133_24 (Nat.le_of_ble_eq_true rfl) (le_mx mx129 (Nat.le_of_ble_eq_true rfl)) (Or.inr (recv_ok ty121 ow129 (by decide))) (c_Mo_emits e z (mS m 1 q) A _ (e4 1 q) hA (by rw [e122]; omega)) (fun m_24 h_24 => ?_)
    refine r_retVq a133_27 ?_
    rcases h_24 with ⟨b1, _⟩ | ⟨_, b2⟩
    · rw [mS_7] at b1; exact absurd b1 (by decide)
    · rw [b2]; exact fail q hq hh
  have bad5 : ∀ (q : Int) (y3 : XV), p ≤ q → q ≤ E → R = (q, none) → RZ (e + 1) k_Mo_much 5 [vR 121, vI (-200), vR 18, y3] [] (zH z (mS m 1 q)) (qz z (qv fun m' => MoC m m' A R)) := by
    intro q y3 hq hqE hh
    have t6 := c_Mo_figures e z (mS m 1 q) f E A 1 q (by omega) (MoS_mS hS (by omega)) (mS_7 m 1 q) (mS_5 m 1 q) (by omega)
    refine r_loadA a133_5 rfl (by decide) ?_
    refine r_callI_1 a133_6 (Nat.le_of_ble_eq_true rfl) (le_mx mx127 (Nat.le_of_ble_eq_true rfl)) (Or.inr (recv_ok ty121 ow127 (by decide))) (t6) (fun x_6 m_6 h_6 => ?_)
    have hm : x_6 = 0 ∧ m_6 = mS m 1 q := by
      rcases h_6 with ⟨b1, _⟩ | ⟨_, b2, b3⟩
      · exact absurd b1 (by decide)
      · exact ⟨b2, by rw [b3, mS_mS]⟩
    rw [hm.2]
    refine r_storeI_3 a133_9 rfl ?_
    refine r_loadA a133_10 rfl (by decide) ?_
    refine r_pushI a133_11 ?_
    refine r_callV_2 a133_13 (Nat.le_of_ble_eq_true rfl) (le_mx mx125 (Nat.le_of_ble_eq_true rfl)) (Or.inr (recv_ok ty121 ow125 (by decide))) (c_Mo_must e z (mS m 1 q) f E A 32 1 q (by omega) (MoS_mS hS (by omega)) (mS_7 m 1 q) (mS_5 m 1 q) (by omega)) (fun m_13 h_13 => ?_)
    rcases h_13 with ⟨b1, _⟩ | ⟨_, b3⟩
    · exact absurd b1 (by decide)
    · rw [b3, mS_mS]
      exact bad16 q x_6 hq hqE (by omega) hh
  have good16 : ∀ (q2 v : Int), p ≤ q2 → q2 + 1 ≤ E → (0 ≤ v ∧ v ≤ 99) → (match soP (faP f E 5) f E (q2 + 1) with | (q3, some t) => (q3, some (r, fo, cl ++ [(false, v, t)])) | (q3, none) => (q3, none)) = R → RZ (e + 1) k_Mo_much 16 [vR 121, vI (-200), vR 18, vI v] [] (zH z (mS m 0 (q2 + 1))) (qz z (qv fun m' => MoC m m' A R)) := by
    intro q2 v hq hqE hv hR2
    have hP2 : MoP (mS m 0 (q2 + 1)) f E A := ⟨MoS_mS hS (by omega), mS_7 m 0 (q2 + 1), by rw [e122]; exact hc1, by rw [e122, mS_5]; omega⟩
    have t17 := c_Mo_some_top e z (mS m 0 (q2 + 1)) f E A (by omega) hP2 (by rw [mS_k (by decide) (by decide)]; exact ho)
    rw [mS_5] at t17
    have gd := (soP_good (f := f) (A := 0) (GoodF_mono (faP_good f E 5 (by omega)) (by omega))) (q2 + 1) (by omega) (by omega)
    refine r_loadA a133_16 rfl (by decide) ?_
    refine r_callV_1 a133_17 (Nat.le_of_ble_eq_true rfl) (le_mx mx132 (Nat.le_of_ble_eq_true rfl)) (Or.inr (recv_ok ty121 ow132 (by decide))) (t17) (fun m_17 h_17 => ?_)
    obtain ⟨g1, g2, g3, g4⟩ := h_17
    rw [e122] at g4
    have fr : MoF m m_17 A := MoF.trans (MoF_mS m 0 (q2 + 1) A) g1
    have em4 : m_17 121 4 = A := by rw [fr.2.1 4 (by decide) (by decide)]; exact hS.2.2.2.2.2.1
    have hcm := fr.2.2.2
    have hcb : m_17 122 (209 + A) ≤ 100 := by
      rcases bnd_cases (soP (faP f E 5) f E (q2 + 1)) (fun q t => (q, some t)) with ⟨q3, t, u1, _⟩ | ⟨q3, u1, _⟩
      · have := (gd.1 q3 t u1).2.1
        rw [u1] at g3
        have g3' : m_17 122 (209 + A) ≤ q3 := g3
        omega
      · have := (gd.2 q3 u1).2
        rw [u1] at g3
        have g3' : m_17 122 (209 + A) ≤ q3 := g3
        omega
    refine r_loadA a133_20 rfl (by decide) ?_
    refine r_loadI a133_21 rfl ?_
    refine r_loadI a133_22 rfl ?_
    refine r_sub a133_23 (by omega) ?_
    refine r_callV_2 a133_24 (Nat.le_of_ble_eq_true rfl) (le_mx mx129 (Nat.le_of_ble_eq_true rfl)) (Or.inr (recv_ok ty121 ow129 (by decide))) (c_Mo_emits e z m_17 A _ em4 hA (by omega)) (fun m_24 h_24 => ?_)
    refine r_retVq a133_27 ?_
    rcases bnd_cases (soP (faP f E 5) f E (q2 + 1)) (fun q t => (q, some t)) with ⟨q3, t, u1, _⟩ | ⟨q3, u1, _⟩
    · obtain ⟨k1, k2, k3, _⟩ := gd.1 q3 t u1
      rw [u1] at hR2 g2 g4
      have hR3 : (q3, some (r, fo, cl ++ [(false, v, t)])) = R := hR2
      rcases g4 with ⟨t', x1, v1, v2, v3⟩ | ⟨x1, _⟩
      · have x1' : some t = some t' := x1
        rw [Option.some.injEq] at x1'
        rw [← x1'] at v2 v3
        have hm : m_24 = mE m_17 A (-200 - v) := by
          rcases h_24 with ⟨_, h⟩ | ⟨h, _⟩
          · exact h
          · exact absurd v1 h
        have hcr : 0 ≤ m_17 122 (209 + A) ∧ m_17 122 (209 + A) < 140 := by omega
        have g2' : m_17 121 5 = q3 := g2
        obtain ⟨d1, d2, d3, d4⟩ := hM
        rw [← hR3, hm]
        refine ⟨MoF_K hA hc1 (MoF.trans fr (MoF_E m_17 A _ hcr)), by rw [mE_x (by decide)]; exact g2', ?_, Or.inl ⟨r, fo, cl ++ [(false, v, t)], rfl, by rw [mE_x (by decide)]; exact v1, ?_, ?_, ?_, ?_⟩⟩
        · rw [mE_c m_17 A _ hcr.1, v2]; show _ ≤ q3; omega
        · rw [mE_y (by omega) (by omega), fr.2.2.1 (199 + A) (by omega) (by omega)]; exact d1
        · rw [mE_y (by omega) (by omega), fr.2.2.1 (204 + A) (by omega) (by omega)]; exact d2
        · rw [mE_c m_17 A _ hcr.1, v2, d3, mSteps_app, List.length_append, List.length_append]; push_cast; show _ = _ + (_ + ((1 : Nat) : Int)); omega
        · rw [mSteps_app, Seg_app, Seg_app]
          have v3' : Seg (m_17 122) (214 + 140 * A + ((mSteps cl).length : Int)) t := by rw [← d3]; exact v3
          refine ⟨Seg_le d4 (fun i i1 i2 => ?_), Seg_le v3' (fun i i1 i2 => ?_), ?_⟩
          · rw [mE_y (by omega) (by omega), fr.2.2.1 i (by omega) (by omega)]
          · have i2' : i < 214 + 140 * A + ((mSteps cl).length : Int) + (t.length : Int) := i2
            rw [mE_y (by omega) (by omega)]
          · rw [show 214 + 140 * A + ((mSteps cl).length : Int) + (t.length : Int) = 214 + 140 * A + m_17 122 (209 + A) by omega]
            exact ⟨mE_v m_17 A _ hA hcr.1, trivial⟩
      · exact absurd x1 (by simp)
    · rw [u1] at hR2 g2 g3 g4
      have hR3 : (q3, none) = R := hR2
      have o1 : m_17 121 7 = 1 := by
        rcases g4 with ⟨_, u, _⟩ | ⟨_, u⟩
        · exact absurd u (by simp)
        · exact u
      have hm : m_24 = m_17 := by
        rcases h_24 with ⟨h, _⟩ | ⟨_, h⟩
        · omega
        · exact h
      rw [← hR3, hm]
      exact ⟨MoF_K hA hc1 fr, g2, g3, Or.inr ⟨rfl, o1⟩⟩
  have at9 : ∀ (q2 v : Int), p ≤ q2 → q2 ≤ E → (0 ≤ v ∧ v ≤ 99) → (if atP f E q2 = 32 then (match soP (faP f E 5) f E (q2 + 1) with | (q3, some t) => (q3, some (r, fo, cl ++ [(false, v, t)])) | (q3, none) => (q3, none)) else (q2, none)) = R → ∀ y3, RZ (e + 1) k_Mo_much 9 [vR 121, vI (-200), vR 18, y3] [vI v] (zH z (mS m 0 q2)) (qz z (qv fun m' => MoC m m' A R)) := by
    intro q2 v hq hqE hv hR2 y3
    have t13 := c_Mo_must e z (mS m 0 q2) f E A 32 0 q2 (by omega) (MoS_mS hS (by omega)) (mS_7 m 0 q2) (mS_5 m 0 q2) (by omega)
    rw [mS_mS, mS_mS] at t13
    refine r_storeI_3 a133_9 rfl ?_
    refine r_loadA a133_10 rfl (by decide) ?_
    refine r_pushI a133_11 ?_
    refine r_callV_2 a133_13 (Nat.le_of_ble_eq_true rfl) (le_mx mx125 (Nat.le_of_ble_eq_true rfl)) (Or.inr (recv_ok ty121 ow125 (by decide))) (t13) (fun m_13 h_13 => ?_)
    rcases h_13 with ⟨_, c2, c3⟩ | ⟨c1, c3⟩
    · rw [if_pos c2] at hR2
      have hlt := @atP_lt f E q2 (by omega)
      rw [c3]
      exact good16 q2 v hq (by omega) hv hR2
    · rw [if_neg (fun x => c1 ⟨rfl, x⟩)] at hR2
      rw [c3]
      exact bad16 q2 v hq hqE hv hR2.symm
  have at9b : ∀ (q : Int), p ≤ q → q ≤ E → R = (q, none) → ∀ y3, RZ (e + 1) k_Mo_much 9 [vR 121, vI (-200), vR 18, y3] [vI 0] (zH z (mS m 1 q)) (qz z (qv fun m' => MoC m m' A R)) := by
    intro q hq hqE hh y3
    have t13 := c_Mo_must e z (mS m 1 q) f E A 32 1 q (by omega) (MoS_mS hS (by omega)) (mS_7 m 1 q) (mS_5 m 1 q) (by omega)
    refine r_storeI_3 a133_9 rfl ?_
    refine r_loadA a133_10 rfl (by decide) ?_
    refine r_pushI a133_11 ?_
    refine r_callV_2 a133_13 (Nat.le_of_ble_eq_true rfl) (le_mx mx125 (Nat.le_of_ble_eq_true rfl)) (Or.inr (recv_ok ty121 ow125 (by decide))) (t13) (fun m_13 h_13 => ?_)
    rcases h_13 with ⟨c1, _⟩ | ⟨_, c3⟩
    · exact absurd c1 (by decide)
    · rw [c3, mS_mS]
      exact bad16 q 0 hq hqE (by omega) hh
  have good5 : ∀ (q : Int), p ≤ q → q ≤ E → (match pNum f E q with | none => (q, none) | some (v, q2) => if atP f E q2 = 32 then (match soP (faP f E 5) f E (q2 + 1) with | (q3, some t) => (q3, some (r, fo, cl ++ [(false, v, t)])) | (q3, none) => (q3, none)) else (q2, none)) = R → ∀ y3, RZ (e + 1) k_Mo_much 5 [vR 121, vI (-200), vR 18, y3] [] (zH z (mS m 0 q)) (qz z (qv fun m' => MoC m m' A R)) := by
    intro q w1 w2 hR5 y3
    have t6 := c_Mo_figures e z (mS m 0 q) f E A 0 q (by omega) (MoS_mS hS (by omega)) (mS_7 m 0 q) (mS_5 m 0 q) (by omega)
    refine r_loadA a133_5 rfl (by decide) ?_
    refine r_callI_1 a133_6 (Nat.le_of_ble_eq_true rfl) (le_mx mx127 (Nat.le_of_ble_eq_true rfl)) (Or.inr (recv_ok ty121 ow127 (by decide))) (t6) (fun x_6 m_6 h_6 => ?_)
    rcases h_6 with ⟨_, v, q2, b1, b2, b3⟩ | ⟨b1, b2, b3⟩
    · have hr := pNum_r b1
      rw [b1] at hR5
      rw [b3, mS_mS, b2]
      exact at9 q2 v (by omega) (by omega) (by omega) hR5 _
    · have hn : pNum f E q = none := by
        rcases b1 with b1 | b1
        · exact absurd b1 (by decide)
        · exact b1
      rw [hn] at hR5
      have hR2 : (q, none) = R := hR5
      rw [b3, mS_mS, b2]
      exact at9b q w1 w2 hR2.symm _
  refine r_entry mx133 rfl ?_
  refine r_loadA a133_0 rfl (by decide) ?_
  refine r_loadA a133_1 rfl (by decide) ?_
  refine r_callV_2 a133_2 (Nat.le_of_ble_eq_true rfl) (le_mx mx126 (Nat.le_of_ble_eq_true rfl)) (Or.inr (recv_ok ty121 ow126 (by decide))) (c_Mo_spells_18 e z m f E A p (by omega) hS h7 hp5) (fun m_2 h_2 => ?_)
  have hcs : (∃ q, (pWord f E wIce p).1 = q ∧ p ≤ q ∧ q ≤ E ∧ (pWord f E wIce p).2 = true ∧ m_2 = mS m 0 q) ∨ (∃ q, (pWord f E wIce p).1 = q ∧ p ≤ q ∧ q ≤ E ∧ (pWord f E wIce p).2 = false ∧ m_2 = mS m 1 q) := by
    rcases h_2 with ⟨b1, b2⟩ | ⟨b1, b2⟩
    · exact Or.inl ⟨_, rfl, wl.1, wl.2.1, b1, b2⟩
    · exact Or.inr ⟨_, rfl, wl.1, wl.2.1, b1, b2⟩
  rcases hcs with ⟨q, w0, w1, w2, w3, w5⟩ | ⟨q, w0, w1, w2, w3, w5⟩
  · rw [w5]
    rw [if_pos w3, w0] at hR
    exact good5 q w1 w2 hR _
  · rw [w5]
    rw [if_neg (by rw [w3]; decide), w0] at hR
    exact bad5 q _ w1 w2 hR.symm
theorem c_Mo_tellsHere_13 (d z : Nat) (m : XM) (f : Int → Int) (E A p r fo : Int) (cl : CLs) (hd : 6 ≤ d) (hP : MoP m f E A) (hp5 : m 121 5 = p) (hM : MdM m r fo cl A) (hcl : (mSteps cl).length ≤ 140) : CV d k_Mo_tellsHere z m [vR 121, vI 199, vR 13] (fun m' => MoC m m' A (pSet f E true wRut p r fo cl)) := by
  obtain ⟨e, rfl⟩ : ∃ e, d = e + 1 := ⟨d - 1, by omega⟩
  obtain ⟨hS, h7, hc1, hc2⟩ := hP
  rw [hp5] at hc2
  have hb := hS.2.1
  have hp := hS.2.2.1
  rw [hp5] at hp
  have hA := hS.2.2.2.2.2.2
  have wl := pWord_r (f := f) (E := E) wRut (by decide) p hp.1 hp.2
  obtain ⟨R, hR⟩ : ∃ R, pSet f E true wRut p r fo cl = R := ⟨_, rfl⟩
  rw [hR]
  unfold pSet at hR
  have e122 : ∀ w' q', mS m w' q' 122 = m 122 := fun w' q' => mS_c (by decide)
  have e4 : ∀ w' q', mS m w' q' 121 4 = A := fun w' q' => by rw [mS_k (by decide) (by decide)]; exact hS.2.2.2.2.2.1
  have fin : ∀ (w q v3 : Int), p ≤ q → (w = 1 ∧ R = (q, none)) ∨ (w = 0 ∧ (0 ≤ v3 ∧ v3 ≤ 99) ∧ R = (q, some (if true then (v3, fo, cl) else (r, v3, cl)))) → RZ (e + 1) k_Mo_tellsHere 9 [vR 121, vI 199, vR 13, vR 0] [vI v3] (zH z (mS m w q)) (qz z (qv fun m' => MoC m m' A R)) := by
    intro w q v3 hq hh
    obtain ⟨d1, d2, d3, d4⟩ := hM
    rcases hh with ⟨a1, a2⟩ | ⟨a1, a2, a3⟩
    · subst a1
      refine r_storeI_3 a134_9 rfl ?_
      refine r_loadA a134_10 rfl (by decide) ?_
      refine r_getI (ki := 7) a134_11 ty121 rfl ?_
      rw [mS_7]
      refine r_ifne a134_14 (fun h_14 => ?_) (fun h_14 => ?_)
      · refine r_retVq a134_29 ?_
        rw [a2]
        exact ⟨MoF_K hA hc1 (MoF_mS m 1 q A), mS_5 m 1 q, by rw [e122]; show _ ≤ q; omega, Or.inr ⟨rfl, mS_7 m 1 q⟩⟩
      · exfalso
        omega
    · subst a1
      refine r_storeI_3 a134_9 rfl ?_
      refine r_loadA a134_10 rfl (by decide) ?_
      refine r_getI (ki := 7) a134_11 ty121 rfl ?_
      rw [mS_7]
      refine r_ifne a134_14 (fun h_14 => ?_) (fun h_14 => ?_)
      · exfalso
        omega
      · refine r_loadA a134_17 rfl (by decide) ?_
        refine r_getR a134_18 ty121 rf121_1 (by decide) ?_
        refine r_loadI a134_21 rfl ?_
        refine r_loadA a134_22 rfl (by decide) ?_
        refine r_getI (ki := 4) a134_23 ty121 rfl ?_
        rw [e4]
        refine r_add a134_26 (by omega) ?_
        refine r_loadI a134_27 rfl ?_
        refine r_iast a134_28 ty122 (by omega) ?_
        refine r_retVq a134_29 ?_
        have ey : ∀ y, y ≠ 199 + A → up2 (mS m 0 q) 122 (199 + A) v3 122 y = m 122 y := fun y hy => by rw [up2_k hy, e122]
        have es : up2 (mS m 0 q) 122 (199 + A) v3 122 (199 + A) = v3 := up2_s _ _ _ _
        have ex : ∀ x, x ≠ 122 → up2 (mS m 0 q) 122 (199 + A) v3 x = mS m 0 q x := fun x hx => up2_c hx
        rw [a3]
        refine ⟨⟨fun x x1 x2 => by rw [ex x x2, mS_c x1], fun y y1 y2 => by rw [ex 121 (by decide), mS_k y2 y1], fun y y1 y2 y3 y4 => ey y (by omega), ?_, ?_, by rw [ey _ (by omega)]; exact Int.le_refl _⟩, by rw [ex 121 (by decide), mS_5], by rw [ey _ (by omega)]; show _ ≤ q; omega, Or.inl ⟨_, _, _, rfl, by rw [ex 121 (by decide), mS_7], ?_⟩⟩
        · first
            | (right; rw [es]; exact a2)
            | (left; exact ey _ (by omega))
        · first
            | (right; rw [es]; exact a2)
            | (left; exact ey _ (by omega))
        · refine ⟨?_, ?_, by rw [ey _ (by omega)]; exact d3, Seg_le d4 (fun i i1 i2 => ey i (by omega))⟩
          · first
              | exact es
              | (rw [ey _ (by omega)]; exact d1)
          · first
              | exact es
              | (rw [ey _ (by omega)]; exact d2)
  refine r_entry mx134 rfl ?_
  refine r_loadA a134_0 rfl (by decide) ?_
  refine r_loadA a134_1 rfl (by decide) ?_
  refine r_callV_2 a134_2 (Nat.le_of_ble_eq_true rfl) (le_mx mx126 (Nat.le_of_ble_eq_true rfl)) (Or.inr (recv_ok ty121 ow126 (by decide))) (c_Mo_spells_13 e z m f E A p (by omega) hS h7 hp5) (fun m_2 h_2 => ?_)
  have hcs : ∃ q w, (pWord f E wRut p).1 = q ∧ p ≤ q ∧ q ≤ E ∧ m_2 = mS m w q ∧ ((w = 0 ∧ (pWord f E wRut p).2 = true) ∨ (w = 1 ∧ (pWord f E wRut p).2 = false)) := by
    rcases h_2 with ⟨b1, b2⟩ | ⟨b1, b2⟩
    · exact ⟨_, 0, rfl, wl.1, wl.2.1, b2, Or.inl ⟨rfl, b1⟩⟩
    · exact ⟨_, 1, rfl, wl.1, wl.2.1, b2, Or.inr ⟨rfl, b1⟩⟩
  obtain ⟨q, w, w0, w1, w2, w3, w4⟩ := hcs
  rw [w3]
  refine r_loadA a134_5 rfl (by decide) ?_
  refine r_callI_1 a134_6 (Nat.le_of_ble_eq_true rfl) (le_mx mx127 (Nat.le_of_ble_eq_true rfl)) (Or.inr (recv_ok ty121 ow127 (by decide))) (c_Mo_figures e z (mS m w q) f E A w q (by omega) (MoS_mS hS (by omega)) (mS_7 m w q) (mS_5 m w q) (by rcases w4 with ⟨h, _⟩ | ⟨h, _⟩ <;> omega)) (fun x_6 m_6 h_6 => ?_)
  rcases w4 with ⟨u1, u2⟩ | ⟨u1, u2⟩
  · rw [if_pos u2, w0] at hR
    rcases h_6 with ⟨_, v, q2, b1, b2, b3⟩ | ⟨b1, b2, b3⟩
    · have hr := pNum_r b1
      rw [b1] at hR
      rw [b3, mS_mS, b2]
      exact fin 0 q2 v (by omega) (Or.inr ⟨rfl, by omega, hR.symm⟩)
    · have hn : pNum f E q = none := by
        rcases b1 with b1 | b1
        · exfalso; omega
        · exact b1
      rw [hn] at hR
      rw [b3, mS_mS]
      exact fin 1 q x_6 w1 (Or.inl ⟨rfl, hR.symm⟩)
  · rw [if_neg (by rw [u2]; decide), w0] at hR
    rcases h_6 with ⟨b0, _⟩ | ⟨b1, b2, b3⟩
    · exfalso; omega
    · rw [b3, mS_mS]
      exact fin 1 q x_6 w1 (Or.inl ⟨rfl, hR.symm⟩)
theorem c_Mo_tellsHere_14 (d z : Nat) (m : XM) (f : Int → Int) (E A p r fo : Int) (cl : CLs) (hd : 6 ≤ d) (hP : MoP m f E A) (hp5 : m 121 5 = p) (hM : MdM m r fo cl A) (hcl : (mSteps cl).length ≤ 140) : CV d k_Mo_tellsHere z m [vR 121, vI 204, vR 14] (fun m' => MoC m m' A (pSet f E false wFog p r fo cl)) := by
  obtain ⟨e, rfl⟩ : ∃ e, d = e + 1 := ⟨d - 1, by omega⟩
  obtain ⟨hS, h7, hc1, hc2⟩ := hP
  rw [hp5] at hc2
  have hb := hS.2.1
  have hp := hS.2.2.1
  rw [hp5] at hp
  have hA := hS.2.2.2.2.2.2
  have wl := pWord_r (f := f) (E := E) wFog (by decide) p hp.1 hp.2
  obtain ⟨R, hR⟩ : ∃ R, pSet f E false wFog p r fo cl = R := ⟨_, rfl⟩
  rw [hR]
  unfold pSet at hR
  have e122 : ∀ w' q', mS m w' q' 122 = m 122 := fun w' q' => mS_c (by decide)
  have e4 : ∀ w' q', mS m w' q' 121 4 = A := fun w' q' => by rw [mS_k (by decide) (by decide)]; exact hS.2.2.2.2.2.1
  have fin : ∀ (w q v3 : Int), p ≤ q → (w = 1 ∧ R = (q, none)) ∨ (w = 0 ∧ (0 ≤ v3 ∧ v3 ≤ 99) ∧ R = (q, some (if false then (v3, fo, cl) else (r, v3, cl)))) → RZ (e + 1) k_Mo_tellsHere 9 [vR 121, vI 204, vR 14, vR 0] [vI v3] (zH z (mS m w q)) (qz z (qv fun m' => MoC m m' A R)) := by
    intro w q v3 hq hh
    obtain ⟨d1, d2, d3, d4⟩ := hM
    rcases hh with ⟨a1, a2⟩ | ⟨a1, a2, a3⟩
    · subst a1
      refine r_storeI_3 a134_9 rfl ?_
      refine r_loadA a134_10 rfl (by decide) ?_
      refine r_getI (ki := 7) a134_11 ty121 rfl ?_
      rw [mS_7]
      refine r_ifne a134_14 (fun h_14 => ?_) (fun h_14 => ?_)
      · refine r_retVq a134_29 ?_
        rw [a2]
        exact ⟨MoF_K hA hc1 (MoF_mS m 1 q A), mS_5 m 1 q, by rw [e122]; show _ ≤ q; omega, Or.inr ⟨rfl, mS_7 m 1 q⟩⟩
      · exfalso
        omega
    · subst a1
      refine r_storeI_3 a134_9 rfl ?_
      refine r_loadA a134_10 rfl (by decide) ?_
      refine r_getI (ki := 7) a134_11 ty121 rfl ?_
      rw [mS_7]
      refine r_ifne a134_14 (fun h_14 => ?_) (fun h_14 => ?_)
      · exfalso
        omega
      · refine r_loadA a134_17 rfl (by decide) ?_
        refine r_getR a134_18 ty121 rf121_1 (by decide) ?_
        refine r_loadI a134_21 rfl ?_
        refine r_loadA a134_22 rfl (by decide) ?_
        refine r_getI (ki := 4) a134_23 ty121 rfl ?_
        rw [e4]
        refine r_add a134_26 (by omega) ?_
        refine r_loadI a134_27 rfl ?_
        refine r_iast a134_28 ty122 (by omega) ?_
        refine r_retVq a134_29 ?_
        have ey : ∀ y, y ≠ 204 + A → up2 (mS m 0 q) 122 (204 + A) v3 122 y = m 122 y := fun y hy => by rw [up2_k hy, e122]
        have es : up2 (mS m 0 q) 122 (204 + A) v3 122 (204 + A) = v3 := up2_s _ _ _ _
        have ex : ∀ x, x ≠ 122 → up2 (mS m 0 q) 122 (204 + A) v3 x = mS m 0 q x := fun x hx => up2_c hx
        rw [a3]
        refine ⟨⟨fun x x1 x2 => by rw [ex x x2, mS_c x1], fun y y1 y2 => by rw [ex 121 (by decide), mS_k y2 y1], fun y y1 y2 y3 y4 => ey y (by omega), ?_, ?_, by rw [ey _ (by omega)]; exact Int.le_refl _⟩, by rw [ex 121 (by decide), mS_5], by rw [ey _ (by omega)]; show _ ≤ q; omega, Or.inl ⟨_, _, _, rfl, by rw [ex 121 (by decide), mS_7], ?_⟩⟩
        · first
            | (right; rw [es]; exact a2)
            | (left; exact ey _ (by omega))
        · first
            | (right; rw [es]; exact a2)
            | (left; exact ey _ (by omega))
        · refine ⟨?_, ?_, by rw [ey _ (by omega)]; exact d3, Seg_le d4 (fun i i1 i2 => ey i (by omega))⟩
          · first
              | exact es
              | (rw [ey _ (by omega)]; exact d1)
          · first
              | exact es
              | (rw [ey _ (by omega)]; exact d2)
  refine r_entry mx134 rfl ?_
  refine r_loadA a134_0 rfl (by decide) ?_
  refine r_loadA a134_1 rfl (by decide) ?_
  refine r_callV_2 a134_2 (Nat.le_of_ble_eq_true rfl) (le_mx mx126 (Nat.le_of_ble_eq_true rfl)) (Or.inr (recv_ok ty121 ow126 (by decide))) (c_Mo_spells_14 e z m f E A p (by omega) hS h7 hp5) (fun m_2 h_2 => ?_)
  have hcs : ∃ q w, (pWord f E wFog p).1 = q ∧ p ≤ q ∧ q ≤ E ∧ m_2 = mS m w q ∧ ((w = 0 ∧ (pWord f E wFog p).2 = true) ∨ (w = 1 ∧ (pWord f E wFog p).2 = false)) := by
    rcases h_2 with ⟨b1, b2⟩ | ⟨b1, b2⟩
    · exact ⟨_, 0, rfl, wl.1, wl.2.1, b2, Or.inl ⟨rfl, b1⟩⟩
    · exact ⟨_, 1, rfl, wl.1, wl.2.1, b2, Or.inr ⟨rfl, b1⟩⟩
  obtain ⟨q, w, w0, w1, w2, w3, w4⟩ := hcs
  rw [w3]
  refine r_loadA a134_5 rfl (by decide) ?_
  refine r_callI_1 a134_6 (Nat.le_of_ble_eq_true rfl) (le_mx mx127 (Nat.le_of_ble_eq_true rfl)) (Or.inr (recv_ok ty121 ow127 (by decide))) (c_Mo_figures e z (mS m w q) f E A w q (by omega) (MoS_mS hS (by omega)) (mS_7 m w q) (mS_5 m w q) (by rcases w4 with ⟨h, _⟩ | ⟨h, _⟩ <;> omega)) (fun x_6 m_6 h_6 => ?_)
  rcases w4 with ⟨u1, u2⟩ | ⟨u1, u2⟩
  · rw [if_pos u2, w0] at hR
    rcases h_6 with ⟨_, v, q2, b1, b2, b3⟩ | ⟨b1, b2, b3⟩
    · have hr := pNum_r b1
      rw [b1] at hR
      rw [b3, mS_mS, b2]
      exact fin 0 q2 v (by omega) (Or.inr ⟨rfl, by omega, hR.symm⟩)
    · have hn : pNum f E q = none := by
        rcases b1 with b1 | b1
        · exfalso; omega
        · exact b1
      rw [hn] at hR
      rw [b3, mS_mS]
      exact fin 1 q x_6 w1 (Or.inl ⟨rfl, hR.symm⟩)
  · rw [if_neg (by rw [u2]; decide), w0] at hR
    rcases h_6 with ⟨b0, _⟩ | ⟨b1, b2, b3⟩
    · exfalso; omega
    · rw [b3, mS_mS]
      exact fin 1 q x_6 w1 (Or.inl ⟨rfl, hR.symm⟩)
theorem c_Mo_clauseHere (d z : Nat) (m : XM) (f : Int → Int) (E A p r fo : Int) (cl : CLs) (hd : 27 ≤ d) (hP : MoP m f E A) (ho : m 121 8 = 0) (hp5 : m 121 5 = p) (hM : MdM m r fo cl A) : CV d k_Mo_clauseHere z m [vR 121] (fun m' => MoC m m' A (pClause f E p r fo cl)) := by
  obtain ⟨e, rfl⟩ : ∃ e, d = e + 1 := ⟨d - 1, by omega⟩
  have hS := hP.1
  have hb := hS.2.1
  have hp := hS.2.2.1
  rw [hp5] at hp
  have hA := hS.2.2.2.2.2.2
  have hc1 := hP.2.2.1
  have hc2 := hP.2.2.2
  rw [hp5] at hc2
  have hcl : (mSteps cl).length ≤ 140 := by have := hM.2.2.1; omega
  have t1 := c_Mo_here e z m f E A hS
  rw [hp5] at t1
  unfold pClause
  refine r_entry mx135 rfl ?_
  refine r_loadA a135_0 rfl (by decide) ?_
  refine r_callI_1 a135_1 (Nat.le_of_ble_eq_true rfl) (le_mx mx124 (Nat.le_of_ble_eq_true rfl)) (Or.inr (recv_ok ty121 ow124 (by decide))) (t1) (fun x_1 m_1 h_1 => ?_)
  obtain ⟨hm_1, h_1⟩ := h_1
  rw [hm_1]
  refine r_switch a135_4 ?_
  refine r_sw_cons (fun h_4 => ?_) (fun n_4_102 => ?_)
  · refine r_loadA a135_60 rfl (by decide) ?_
    refine r_pushI a135_61 ?_
    refine r_statR a135_64 ?_
    refine r_callV_3 a135_66 (Nat.le_of_ble_eq_true rfl) (le_mx mx134 (Nat.le_of_ble_eq_true rfl)) (Or.inr (recv_ok ty121 ow134 (by decide))) (c_Mo_tellsHere_14 e z m f E A p r fo cl (by omega) hP hp5 hM hcl) (fun m_66 h_66 => ?_)
    refine r_goto a135_69 ?_
    refine r_retVq a135_100 ?_
    first
      | (rw [if_neg (by omega), if_neg (by omega), if_pos (by omega)]; exact h_54)
      | (rw [if_neg (by omega), if_neg (by omega), if_neg (by omega)]; exact h_66)
      | (rw [if_pos (by omega)]; exact h_77)
      | (rw [if_neg (by omega), if_pos (by omega)]; exact h_89)
      | (rw [if_neg (by omega), if_neg (by omega), if_neg (by omega)]
         have e1 : pSet f E false wFog p r fo cl = (p, none) := by
           have e2 : pWord f E wFog p = (p, false) := by
             show (if atP f E p = 102 then _ else (p, false)) = _
             rw [if_neg (by omega)]
           unfold pSet
           rw [e2]; rfl
         have em : up2 m 121 7 1 = mS m 1 p := by rw [← mS_7p m 0 1 p, mS_id hP.2.1 hp5]
         rw [e1, em]
         exact ⟨MoF_K hA hc1 (MoF_mS m 1 p A), mS_5 m 1 p, by rw [mS_c (by decide)]; exact hc2, Or.inr ⟨rfl, mS_7 m 1 p⟩⟩)
  refine r_sw_cons (fun h_4 => ?_) (fun n_4_105 => ?_)
  · refine r_loadA a135_83 rfl (by decide) ?_
    refine r_pushI a135_84 ?_
    refine r_statR a135_87 ?_
    refine r_callV_3 a135_89 (Nat.le_of_ble_eq_true rfl) (le_mx mx133 (Nat.le_of_ble_eq_true rfl)) (Or.inr (recv_ok ty121 ow133 (by decide))) (c_Mo_much_18 e z m f E A p r fo cl (by omega) hP ho hp5 hM) (fun m_89 h_89 => ?_)
    refine r_goto a135_92 ?_
    refine r_retVq a135_100 ?_
    first
      | (rw [if_neg (by omega), if_neg (by omega), if_pos (by omega)]; exact h_54)
      | (rw [if_neg (by omega), if_neg (by omega), if_neg (by omega)]; exact h_66)
      | (rw [if_pos (by omega)]; exact h_77)
      | (rw [if_neg (by omega), if_pos (by omega)]; exact h_89)
      | (rw [if_neg (by omega), if_neg (by omega), if_neg (by omega)]
         have e1 : pSet f E false wFog p r fo cl = (p, none) := by
           have e2 : pWord f E wFog p = (p, false) := by
             show (if atP f E p = 102 then _ else (p, false)) = _
             rw [if_neg (by omega)]
           unfold pSet
           rw [e2]; rfl
         have em : up2 m 121 7 1 = mS m 1 p := by rw [← mS_7p m 0 1 p, mS_id hP.2.1 hp5]
         rw [e1, em]
         exact ⟨MoF_K hA hc1 (MoF_mS m 1 p A), mS_5 m 1 p, by rw [mS_c (by decide)]; exact hc2, Or.inr ⟨rfl, mS_7 m 1 p⟩⟩)
  refine r_sw_cons (fun h_4 => ?_) (fun n_4_114 => ?_)
  · refine r_loadA a135_48 rfl (by decide) ?_
    refine r_pushI a135_49 ?_
    refine r_statR a135_52 ?_
    refine r_callV_3 a135_54 (Nat.le_of_ble_eq_true rfl) (le_mx mx134 (Nat.le_of_ble_eq_true rfl)) (Or.inr (recv_ok ty121 ow134 (by decide))) (c_Mo_tellsHere_13 e z m f E A p r fo cl (by omega) hP hp5 hM hcl) (fun m_54 h_54 => ?_)
    refine r_goto a135_57 ?_
    refine r_retVq a135_100 ?_
    first
      | (rw [if_neg (by omega), if_neg (by omega), if_pos (by omega)]; exact h_54)
      | (rw [if_neg (by omega), if_neg (by omega), if_neg (by omega)]; exact h_66)
      | (rw [if_pos (by omega)]; exact h_77)
      | (rw [if_neg (by omega), if_pos (by omega)]; exact h_89)
      | (rw [if_neg (by omega), if_neg (by omega), if_neg (by omega)]
         have e1 : pSet f E false wFog p r fo cl = (p, none) := by
           have e2 : pWord f E wFog p = (p, false) := by
             show (if atP f E p = 102 then _ else (p, false)) = _
             rw [if_neg (by omega)]
           unfold pSet
           rw [e2]; rfl
         have em : up2 m 121 7 1 = mS m 1 p := by rw [← mS_7p m 0 1 p, mS_id hP.2.1 hp5]
         rw [e1, em]
         exact ⟨MoF_K hA hc1 (MoF_mS m 1 p A), mS_5 m 1 p, by rw [mS_c (by decide)]; exact hc2, Or.inr ⟨rfl, mS_7 m 1 p⟩⟩)
  refine r_sw_cons (fun h_4 => ?_) (fun n_4_119 => ?_)
  · refine r_loadA a135_72 rfl (by decide) ?_
    refine r_pushI a135_73 ?_
    refine r_statR a135_75 ?_
    refine r_callV_3 a135_77 (Nat.le_of_ble_eq_true rfl) (le_mx mx133 (Nat.le_of_ble_eq_true rfl)) (Or.inr (recv_ok ty121 ow133 (by decide))) (c_Mo_much_15 e z m f E A p r fo cl (by omega) hP ho hp5 hM) (fun m_77 h_77 => ?_)
    refine r_goto a135_80 ?_
    refine r_retVq a135_100 ?_
    first
      | (rw [if_neg (by omega), if_neg (by omega), if_pos (by omega)]; exact h_54)
      | (rw [if_neg (by omega), if_neg (by omega), if_neg (by omega)]; exact h_66)
      | (rw [if_pos (by omega)]; exact h_77)
      | (rw [if_neg (by omega), if_pos (by omega)]; exact h_89)
      | (rw [if_neg (by omega), if_neg (by omega), if_neg (by omega)]
         have e1 : pSet f E false wFog p r fo cl = (p, none) := by
           have e2 : pWord f E wFog p = (p, false) := by
             show (if atP f E p = 102 then _ else (p, false)) = _
             rw [if_neg (by omega)]
           unfold pSet
           rw [e2]; rfl
         have em : up2 m 121 7 1 = mS m 1 p := by rw [← mS_7p m 0 1 p, mS_id hP.2.1 hp5]
         rw [e1, em]
         exact ⟨MoF_K hA hc1 (MoF_mS m 1 p A), mS_5 m 1 p, by rw [mS_c (by decide)]; exact hc2, Or.inr ⟨rfl, mS_7 m 1 p⟩⟩)
  refine r_sw_nil ?_
  refine r_loadA a135_95 rfl (by decide) ?_
  refine r_pushI a135_96 ?_
  refine r_putZ (ki := 7) a135_97 ty121 rfl (by omega) ?_
  refine r_retVq a135_100 ?_
  first
    | (rw [if_neg (by omega), if_neg (by omega), if_pos (by omega)]; exact h_54)
    | (rw [if_neg (by omega), if_neg (by omega), if_neg (by omega)]; exact h_66)
    | (rw [if_pos (by omega)]; exact h_77)
    | (rw [if_neg (by omega), if_pos (by omega)]; exact h_89)
    | (rw [if_neg (by omega), if_neg (by omega), if_neg (by omega)]
       have e1 : pSet f E false wFog p r fo cl = (p, none) := by
         have e2 : pWord f E wFog p = (p, false) := by
           show (if atP f E p = 102 then _ else (p, false)) = _
           rw [if_neg (by omega)]
         unfold pSet
         rw [e2]; rfl
       have em : up2 m 121 7 1 = mS m 1 p := by rw [← mS_7p m 0 1 p, mS_id hP.2.1 hp5]
       rw [e1, em]
       exact ⟨MoF_K hA hc1 (MoF_mS m 1 p A), mS_5 m 1 p, by rw [mS_c (by decide)]; exact hc2, Or.inr ⟨rfl, mS_7 m 1 p⟩⟩)
