-- ===== the class: slope; both =====
theorem c_Fg_slope5 (d z : Nat) (m : XM) (h : m 33 6 = 5) : CI d k_Fg_slope z m [vR 32] (fun x m' => x = -4 ∧ m' = m) := by
  refine r_entry mx65 rfl ?_
  refine r_loadA a65_0 rfl (by decide) ?_
  refine r_getR a65_1 ty32 rf32_0 (by decide) ?_
  refine r_getI (ki := 6) a65_4 ty33 rfl ?_
  refine r_pushI a65_7 ?_
  rw [h]
  refine r_iclt a65_8 (fun h_8 => ?_) (fun h_8 => ?_)
  · exfalso
    omega
  · refine r_pushI a65_11 ?_
    refine r_retIq a65_13 ?_
    exact ⟨rfl, rfl⟩
def SlC (m m' : XM) (s : Int → Int) (x : Int) (R : CRes) : Prop :=
  (∀ c, c ≠ 33 → c ≠ 41 → ¬ (43 ≤ c ∧ c ≤ 47) → ¬ (77 ≤ c ∧ c ≤ 82) → m' c = m c) ∧ (∀ y, y ≠ 6 → m' 33 y = m 33 y) ∧ m' 41 0 = 0 ∧
  ((∃ r fo cl, R.2 = some (r, fo, cl) ∧ x = s 2 ∧ m' 33 6 = s 2 + 1 ∧ m' 43 0 = r ∧ m' 43 1 = fo ∧ ClB m' 33 cl) ∨ (R.2 = none ∧ x = -10 - R.1 ∧ m' 33 6 = s 2 ∧ ∀ c, 43 ≤ c → c ≤ 47 → m' c = m c))
theorem c_Fg_slope (d z : Nat) (m : XM) (s : Int → Int) (cl0 : CLs) (hd : 24 ≤ d) (hC : CpC m s cl0) (h2 : s 2 < 5) :
    RZ d k_Fg_slope 0 (entryL k_Fg_slope [vR 32]) [] (zH z m) (qz 42 (qi fun x m' => SlC m m' s x (pTape (m 42) (s 5) 10 0 0 0 []))) := by
  obtain ⟨e, rfl⟩ : ∃ e, d = e + 1 := ⟨d - 1, by omega⟩
  have e6 : m 33 6 = s 2 := hC.2.1.2.2.1.2.2.1
  have e5 : m 41 0 = s 5 := hC.2.1.2.2.2.1.1
  have b2 := hC.1.1.2.2.1
  have b5 := hC.1.1.2.2.2.2.2.1
  have hs : ∀ i, 0 ≤ i → i < 100 → 0 ≤ m 42 i ∧ m 42 i ≤ 127 := fun i a b => by
    have : m 42 i = s (99 + i) := hC.2.1.2.2.2.1.2 i a b
    rw [this]; exact hC.1.2.2.2.2.2.2.1 i a b
  have gR := pTape_good (m 42) (s 5) 10 0 0 0 [] (by omega) (by omega) (by omega) (by omega) (fun c h => by simp at h) (by decide) (by show ((0 : Nat) : Int) ≤ 0; omega)
  obtain ⟨R, hR⟩ : ∃ R, pTape (m 42) (s 5) 10 0 0 0 [] = R := ⟨_, rfl⟩
  have t25 := c_Re_readTape e z m (s 5) (by omega) e5 b5 hs
  rw [hR] at t25 gR
  rw [hR]
  have rest : ∀ (x : Int) (m1 : XM), ((∀ x, ¬ (77 ≤ x ∧ x ≤ 82) → m1 x = m x) ∧ m1 77 1 = R.1 ∧ ((∃ r fo cl, R.2 = some (r, fo, cl) ∧ x = 1 ∧ MdR m1 r fo cl ∧ 0 ≤ m1 78 3 ∧ m1 78 3 ≤ 100) ∨ (R.2 = none ∧ x = 0))) →
      RZ (e + 1) k_Fg_slope 28 [vR 32, vR 0] [vI x] (zH 42 m1) (qz 42 (qi fun x m' => SlC m m' s x R)) := by
    intro x m1 ⟨fr, f1, fc⟩
    have g6 : m1 33 6 = s 2 := by rw [fr 33 (by decide)]; exact e6
    refine r_storeI_1 a65_28 rfl ?_
    refine r_loadA a65_29 rfl (by decide) ?_
    refine r_getR a65_30 ty32 rf32_0 (by decide) ?_
    refine r_getR a65_33 ty33 rf33_4 (by decide) ?_
    refine r_pushI a65_36 ?_
    refine r_putI (ki := 0) a65_37 ty41 rfl ?_
    refine r_loadI a65_40 rfl ?_
    refine r_ifne a65_41 (fun h_41 => ?_) (fun h_41 => ?_)
    · refine r_loadA a65_55 rfl (by decide) ?_
      refine r_getR a65_56 ty32 rf32_0 (by decide) ?_
      refine r_getR a65_59 ty33 rf33_5 (by decide) ?_
      refine r_loadA a65_62 rfl (by decide) ?_
      refine r_getR a65_63 ty32 rf32_3 (by decide) ?_
      refine r_getR a65_66 ty77 rf77_0 (by decide) ?_
      refine r_callV_2 a65_69 (Nat.le_of_ble_eq_true rfl) (le_mx mx6 (Nat.le_of_ble_eq_true rfl)) (Or.inr (recv_ok ty43 ow6 (by decide))) (c_Cl_copyFrom_43_78 e 42 _ (by omega)) (fun m_69 h_69 => ?_)
      obtain ⟨k0, k1, k2, k3, k4, k5, k6, k7⟩ := h_69
      have g33 : m_69 33 = m 33 := by rw [k0 33 (by decide), up2_c (by decide), fr 33 (by decide)]
      refine r_loadA a65_72 rfl (by decide) ?_
      refine r_getR a65_73 ty32 rf32_0 (by decide) ?_
      refine r_dup a65_76 rfl ?_
      refine r_getI (ki := 6) a65_77 ty33 rfl ?_
      rw [g33, e6]
      refine r_dupx1 a65_80 rfl rfl ?_
      refine r_pushI a65_81 ?_
      refine r_add a65_82 (by omega) ?_
      refine r_putI (ki := 6) a65_83 ty33 rfl ?_
      refine r_retIq a65_86 ?_
      rcases fc with ⟨r, fo, cl, u, _, ⟨w1, w2, w3⟩, w4, w5⟩ | ⟨_, u⟩
      · obtain ⟨q1, q2, q3, q4, q5, q6⟩ := gR.2 r fo cl u
        refine ⟨fun c c1 c2 c3 c4 => by rw [up2_c c1, k0 c (by omega), up2_c c2]; exact fr c c4, fun y hy => by rw [up2_k hy, g33], by rw [up2_c (by decide), k0 41 (by decide), up2_s], Or.inl ⟨r, fo, cl, u, rfl, by rw [up2_s], by rw [up2_c (by decide), k1, up2_c (by decide)]; exact w1, by rw [up2_c (by decide), k2, up2_c (by decide)]; exact w2, ⟨⟨m1 78 3, w5, ?_⟩, q3, q4⟩⟩⟩
        have hn := (ClR_len w3).1
        have e43 : up2 m_69 33 6 (s 2 + 1) (33 + 10) 2 = m1 78 2 := by rw [up2_c (by decide)]; show m_69 43 2 = _; rw [k3, up2_c (by decide)]
        rw [e43]
        refine ClR_copy ?_ ?_ ?_ ?_ w3 (by omega) (by omega) (by omega) w5
        · intro i x y; show up2 m_69 33 6 (s 2 + 1) 44 i = m1 79 i; rw [up2_c (by decide), k4 i x y, up2_c (by decide)]
        · intro i x y; show up2 m_69 33 6 (s 2 + 1) 45 i = m1 80 i; rw [up2_c (by decide), k5 i x y, up2_c (by decide)]
        · intro i x y; show up2 m_69 33 6 (s 2 + 1) 46 i = m1 81 i; rw [up2_c (by decide), k6 i x y, up2_c (by decide)]
        · intro i x y; show up2 m_69 33 6 (s 2 + 1) 47 i = m1 82 i; rw [up2_c (by decide), k7 i x y, up2_c (by decide)]
      · exfalso; omega
    · refine r_pushI a65_44 ?_
      refine r_loadA a65_46 rfl (by decide) ?_
      refine r_getR a65_47 ty32 rf32_3 (by decide) ?_
      refine r_getI (ki := 1) a65_50 ty77 rfl ?_
      rw [up2_c (by decide), f1]
      refine r_sub a65_53 (by have := gR.1; omega) ?_
      refine r_retIq a65_54 ?_
      rcases fc with ⟨_, _, _, _, u, _⟩ | ⟨u, _⟩
      · exfalso; omega
      · exact ⟨fun c c1 c2 c3 c4 => by rw [up2_c c2]; exact fr c c4, fun y hy => by rw [up2_c (by decide), fr 33 (by decide)], up2_s _ _ _ _, Or.inr ⟨u, rfl, by rw [up2_c (by decide)]; exact g6, fun c c1 c2 => by rw [up2_c (by omega)]; exact fr c (by omega)⟩⟩
  refine r_entry mx65 rfl ?_
  refine r_loadA a65_0 rfl (by decide) ?_
  refine r_getR a65_1 ty32 rf32_0 (by decide) ?_
  refine r_getI (ki := 6) a65_4 ty33 rfl ?_
  refine r_pushI a65_7 ?_
  rw [e6]
  refine r_iclt a65_8 (fun h_8 => ?_) (fun h_8 => ?_)
  · refine r_loadA a65_14 rfl (by decide) ?_
    refine r_getR a65_15 ty32 rf32_3 (by decide) ?_
    refine r_loadA a65_18 rfl (by decide) ?_
    refine r_getR a65_19 ty32 rf32_0 (by decide) ?_
    refine r_getR a65_22 ty33 rf33_4 (by decide) ?_
    refine r_callI_2z a65_25 (Nat.le_of_ble_eq_true rfl) (le_mx mx44 (Nat.le_of_ble_eq_true rfl)) (Or.inr (recv_ok ty77 ow44 (by decide))) t25 (fun x m1 h => ?_)
    exact rest x m1 h
  · exfalso
    omega
/-- a slope call on both sides, whatever the reader's row of signs -/
def SlQ (d : Nat) (m : XM) : Option XV → XH → Prop := fun rr H' => ∃ z' m1 x, H' = zH z' m1 ∧ rr = some (vI x) ∧ CI d k_Mo_slope z' m1 [vR 121] (fun y m2 => x = y ∧ Cpl m2 ∧ m2 1 = m 1)
theorem J_slope (d z : Nat) (m : XM) (hd : 30 ≤ d) (hC : Cpl m) : RZ d k_Fg_slope 0 (entryL k_Fg_slope [vR 32]) [] (zH z m) (SlQ d m) := by
  have hC' := hC
  obtain ⟨s, cl0, h1, h2, h3, h4⟩ := hC'
  have hS := h1.1
  have b2 := hS.1.2.2.1
  have e6 : m 33 6 = s 2 := h1.2.1.2.2.1.2.2.1
  by_cases h5 : s 2 = 5
  · refine RZ.mono (c_Fg_slope5 d z m (by rw [e6]; exact h5)) fun rr H' ⟨m1, a, x, b, c, e⟩ => ?_
    refine ⟨z, m1, x, a, b, ?_⟩
    rw [e]
    refine (c_Mo_slope5 d z m (by rw [h2.1]; exact h5)).imp fun y m2 ⟨p, q⟩ => ?_
    rw [q]; exact ⟨by rw [c, p], hC, rfl⟩
  · have hlt : s 2 < 5 := by omega
    have hf : ∀ i, 0 ≤ i → i < 100 → s (99 + i) = m 42 i := fun i a b => (h1.2.1.2.2.2.1.2 i a b).symm
    obtain ⟨R, hR⟩ : ∃ R, pTape (m 42) (s 5) 10 0 0 0 [] = R := ⟨_, rfl⟩
    have b5 := hS.1.2.2.2.2.2.1
    have gR := pTape_good (m 42) (s 5) 10 0 0 0 [] (by omega) (by omega) (by omega) (by omega) (fun c h => by simp at h) (by decide) (by show ((0 : Nat) : Int) ≤ 0; omega)
    rw [hR] at gR
    have cF := c_Fg_slope d z m s cl0 (by omega) h1 hlt
    rw [hR] at cF
    refine RZ.mono cF fun rr H' ⟨m1, a, x, b, k1, k2, k3, k4⟩ => ?_
    refine ⟨42, m1, x, a, b, ?_⟩
    have e122 : m1 122 = s := by rw [k1 122 (by decide) (by decide) (by decide) (by decide)]; exact h2.1
    have cM := c_Mo_slope d 42 m1 (m 42) s (by omega) e122 hS hlt hf
    rw [hR] at cM
    refine cM.imp fun y m2 ⟨l1, l2, l3, l4, l5⟩ => ?_
    have g : ∀ c, c ≠ 33 → c ≠ 41 → ¬ (43 ≤ c ∧ c ≤ 47) → ¬ (77 ≤ c ∧ c ≤ 82) → c ≠ 121 → c ≠ 122 → m2 c = m c := fun c c1 c2 c3 c4 c5 c6 => by rw [l1 c c5 c6, k1 c c1 c2 c3 c4]
    have e121 : ∀ y, (y = 3 ∨ y = 16 ∨ y = 43) → m2 121 y = m 121 y := fun y hy => by rw [l2 y hy, k1 121 (by decide) (by decide) (by decide) (by decide)]
    have b6 := hS.1.2.2.2.2.2.2.1
    -- what stays of the numbers
    have fs : ∀ y, y ≠ 5 → y ≠ 2 → y ≠ 6 → y < 199 → m2 122 y = s y := fun y y1 y2 y3 y4 => l3 y y1 y2 y3 (by omega) (by omega) (by omega) (by omega)
    have g33 : ∀ y, y ≠ 6 → m2 33 y = m 33 y := fun y hy => by rw [l1 33 (by decide) (by decide)]; exact k2 y hy
    have g41 : m2 41 0 = 0 := by rw [l1 41 (by decide) (by decide)]; exact k3
    have ok1 : ∀ (n2 n6 : Int), m2 122 2 = n2 → m2 122 6 = n6 → 0 ≤ n2 → n2 ≤ 5 → n6 = n2 - 1 → (0 ≤ m2 122 (199 + s 2) ∧ m2 122 (199 + s 2) ≤ 99) → (0 ≤ m2 122 (204 + s 2) ∧ m2 122 (204 + s 2) ≤ 99) → (0 ≤ m2 122 (209 + s 2) ∧ m2 122 (209 + s 2) ≤ 140) → okS (m2 122) := by
      intro n2 n6 hn2 hn6 q1 q2 q3 w1 w2 w3
      refine ⟨?_, fun g a b => ?_, fun k a b => ?_, fun p a b => ?_, fun k a b => ?_, fun k a b => ?_, fun i a b => ?_, fun a x y => ?_⟩
      · have b := hS.1
        rw [fs 0 (by omega) (by omega) (by omega) (by omega), fs 1 (by omega) (by omega) (by omega) (by omega), hn2, fs 3 (by omega) (by omega) (by omega) (by omega), fs 4 (by omega) (by omega) (by omega) (by omega), l4, hn6, fs 7 (by omega) (by omega) (by omega) (by omega)]; omega
      · rw [fs (8 + g) (by omega) (by omega) (by omega) (by omega), fs (15 + g) (by omega) (by omega) (by omega) (by omega), fs (22 + g) (by omega) (by omega) (by omega) (by omega), fs (29 + g) (by omega) (by omega) (by omega) (by omega)]; exact hS.2.1 g a b
      · rw [fs (36 + k) (by omega) (by omega) (by omega) (by omega), fs 0 (by omega) (by omega) (by omega) (by omega)]; exact hS.2.2.1 k a b
      · rw [fs (64 + p) (by omega) (by omega) (by omega) (by omega)]; exact hS.2.2.2.1 p a b
      · rw [fs (69 + k) (by omega) (by omega) (by omega) (by omega), fs (76 + k) (by omega) (by omega) (by omega) (by omega), fs 3 (by omega) (by omega) (by omega) (by omega), fs 0 (by omega) (by omega) (by omega) (by omega)]; exact hS.2.2.2.2.1 k a b
      · rw [fs (83 + k) (by omega) (by omega) (by omega) (by omega), fs (91 + k) (by omega) (by omega) (by omega) (by omega), fs 4 (by omega) (by omega) (by omega) (by omega), fs 1 (by omega) (by omega) (by omega) (by omega)]; exact hS.2.2.2.2.2.1 k a b
      · rw [fs (99 + i) (by omega) (by omega) (by omega) (by omega)]; exact hS.2.2.2.2.2.2.1 i a b
      · by_cases q : a = s 2
        · rw [q]; exact ⟨w1, w2, w3⟩
        · rw [l3 (199 + a) (by omega) (by omega) (by omega) (by omega) (by omega) (by omega) (by omega), l3 (204 + a) (by omega) (by omega) (by omega) (by omega) (by omega) (by omega) (by omega), l3 (209 + a) (by omega) (by omega) (by omega) (by omega) (by omega) (by omega) (by omega)]; exact hS.2.2.2.2.2.2.2 a x y
    have gm : ∀ c, 34 ≤ c → c ≤ 40 → m2 c = m c := fun c c1 c2 => g c (by omega) (by omega) (by omega) (by omega) (by omega) (by omega)
    have gn : ∀ c, 49 ≤ c → c ≤ 54 → m2 c = m c := fun c c1 c2 => g c (by omega) (by omega) (by omega) (by omega) (by omega) (by omega)
    have rep : m2 33 6 = m2 122 2 → m2 43 0 = rutS (m2 122) → m2 43 1 = fogS (m2 122) → RepB m2 (m2 122) 33 := by
      intro q1 q2 q3
      have hR' := h1.2.1
      have e42 : m2 42 = m 42 := g 42 (by decide) (by decide) (by decide) (by decide) (by decide) (by decide)
      refine ⟨⟨?_, fun g a b => ?_⟩, fun k a b => ?_, ⟨?_, ?_, q1, fun p a b => ?_⟩, ⟨?_, fun i a b => ?_⟩, ⟨q2, q3⟩, ⟨?_, fun k a b => ?_⟩, ⟨?_, fun k a b => ?_⟩⟩
      · show m2 34 0 = _; rw [gm 34 (by decide) (by decide), fs 0 (by omega) (by omega) (by omega) (by omega)]; exact hR'.1.1
      · show m2 35 g = _ ∧ m2 36 g = _ ∧ m2 37 g = _ ∧ m2 38 g = _
        rw [gm 35 (by decide) (by decide), gm 36 (by decide) (by decide), gm 37 (by decide) (by decide), gm 38 (by decide) (by decide), fs (8 + g) (by omega) (by omega) (by omega) (by omega), fs (15 + g) (by omega) (by omega) (by omega) (by omega), fs (22 + g) (by omega) (by omega) (by omega) (by omega), fs (29 + g) (by omega) (by omega) (by omega) (by omega)]; exact hR'.1.2 g a b
      · show m2 39 k = _; rw [gm 39 (by decide) (by decide), fs (36 + k) (by omega) (by omega) (by omega) (by omega)]; exact hR'.2.1 k a b
      · rw [g33 2 (by decide), fs 1 (by omega) (by omega) (by omega) (by omega)]; exact hR'.2.2.1.1
      · rw [g33 3 (by decide), fs 7 (by omega) (by omega) (by omega) (by omega)]; exact hR'.2.2.1.2.1
      · show m2 40 p = _; rw [gm 40 (by decide) (by decide), fs (64 + p) (by omega) (by omega) (by omega) (by omega)]; exact hR'.2.2.1.2.2.2 p a b
      · show m2 41 0 = _; rw [g41, l4]
      · show m2 42 i = _; rw [e42, fs (99 + i) (by omega) (by omega) (by omega) (by omega)]; exact hR'.2.2.2.1.2 i a b
      · show m2 49 0 = _; rw [gn 49 (by decide) (by decide), fs 3 (by omega) (by omega) (by omega) (by omega)]; exact hR'.2.2.2.2.2.1.1
      · show m2 50 k = _ ∧ m2 51 k = _
        rw [gn 50 (by decide) (by decide), gn 51 (by decide) (by decide), fs (69 + k) (by omega) (by omega) (by omega) (by omega), fs (76 + k) (by omega) (by omega) (by omega) (by omega)]; exact hR'.2.2.2.2.2.1.2 k a b
      · show m2 52 0 = _; rw [gn 52 (by decide) (by decide), fs 4 (by omega) (by omega) (by omega) (by omega)]; exact hR'.2.2.2.2.2.2.1
      · show m2 53 k = _ ∧ m2 54 k = _
        rw [gn 53 (by decide) (by decide), gn 54 (by decide) (by decide), fs (83 + k) (by omega) (by omega) (by omega) (by omega), fs (91 + k) (by omega) (by omega) (by omega) (by omega)]; exact hR'.2.2.2.2.2.2.2 k a b
    have fin : ∀ cl', okS (m2 122) → RepB m2 (m2 122) 33 → ClB m2 33 cl' → ClS (m2 122) cl' → Cpl m2 ∧ m2 1 = m 1 := fun cl' a1 a2 a3 a4 =>
      ⟨Cpl_put h3 h4 (fun x hx => g x (by omega) (by omega) (by omega) (by omega) (by omega) (by omega)) (e121 3 (by omega)) (e121 43 (by omega)) (by rw [e121 16 (by omega)]; exact h2.2.2.2) (by rw [g 90 (by decide) (by decide) (by decide) (by decide) (by decide) (by decide)]; exact h1.2.2.2.1) (by rw [g 103 (by decide) (by decide) (by decide) (by decide) (by decide) (by decide)]; exact h1.2.2.2.2) a1 a2 a3 rfl a4, g 1 (by decide) (by decide) (by decide) (by decide) (by decide) (by decide)⟩
    rcases k4 with ⟨r, fo, cl, u1, u2, u3, u4, u5, u6⟩ | ⟨u1, u2, u3, u4⟩ <;> rcases l5 with ⟨r', fo', cl', v1, v2, v3, v4, v5⟩ | ⟨v1, v2, v3, v4, v5, v6, v7, v8⟩
    · rw [u1] at v1
      simp only [Option.some.injEq, Prod.mk.injEq] at v1
      obtain ⟨q1, q2, q3⟩ := v1
      subst q1; subst q2; subst q3
      obtain ⟨d1, d2, d3, d4⟩ := v5
      obtain ⟨w1, w2, w3, w4, w5, w6⟩ := gR.2 r fo cl u1
      have hb := gR.1
      have e43 : m2 43 = m1 43 := l1 43 (by decide) (by decide)
      have rt : rutS (m2 122) = r ∧ fogS (m2 122) = fo := by
        unfold rutS fogS
        rw [v4, if_neg (by omega), if_neg (by omega)]; exact ⟨d1, d2⟩
      have f := fin cl (ok1 (s 2 + 1) (s 2) v3 v4 (by omega) (by omega) (by omega) (by rw [d1]; exact w1) (by rw [d2]; exact w2) (by rw [d3]; omega)) (rep (by rw [v3, l1 33 (by decide) (by decide)]; exact u3) (by rw [e43, rt.1]; exact u4) (by rw [e43, rt.2]; exact u5)) (ClB_cong (fun x x1 x2 => l1 x (by omega) (by omega)) u6)
        ⟨Or.inr ⟨by rw [v4]; exact b2.1, by rw [v4]; exact d3, by rw [v4]; exact d4⟩, w3, w4⟩
      exact ⟨by rw [u2, v2], f.1, f.2⟩
    · rw [u1] at v1; simp at v1
    · rw [u1] at v1; simp at v1
    · have e43 : ∀ c, 43 ≤ c → c ≤ 47 → m2 c = m c := fun c c1 c2 => by rw [l1 c (by omega) (by omega)]; exact u4 c c1 c2
      have rt : rutS (m2 122) = rutS s ∧ fogS (m2 122) = fogS s := by
        unfold rutS fogS
        rw [v4]
        by_cases q : s 6 = -1
        · rw [if_pos q, if_pos q, if_pos q, if_pos q]; exact ⟨rfl, rfl⟩
        · rw [if_neg q, if_neg q, if_neg q, if_neg q, l3 (199 + s 6) (by omega) (by omega) (by omega) (by omega) (by omega) (by omega) (by omega), l3 (204 + s 6) (by omega) (by omega) (by omega) (by omega) (by omega) (by omega) (by omega)]; exact ⟨rfl, rfl⟩
      have f := fin cl0 (ok1 (s 2) (s 6) v3 v4 (by omega) (by omega) b6 v5 v6 ⟨v7, v8⟩) (rep (by rw [v3, l1 33 (by decide) (by decide)]; exact u3) (by rw [e43 43 (by omega) (by omega), rt.1]; exact h1.2.1.2.2.2.2.1.1) (by rw [e43 43 (by omega) (by omega), rt.2]; exact h1.2.1.2.2.2.2.1.2)) (ClB_cong (fun x x1 x2 => e43 x (by omega) (by omega)) h1.2.2.1)
        (by
          obtain ⟨c1, c2⟩ := h2.2.2.1
          refine ⟨?_, c2⟩
          rw [v4]
          rcases c1 with q | ⟨q1, q2, q3⟩
          · exact Or.inl q
          · have hl := (hS.2.2.2.2.2.2.2 (s 6) q1 (by omega)).2.2
            exact Or.inr ⟨q1, by rw [l3 (209 + s 6) (by omega) (by omega) (by omega) (by omega) (by omega) (by omega) (by omega)]; exact q2, Seg_le q3 (fun i i1 i2 => l3 i (by omega) (by omega) (by omega) (by omega) (by omega) (by omega) (by omega))⟩)
      exact ⟨by rw [u2, v2], f.1, f.2⟩
