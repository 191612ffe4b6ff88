-- ===== the reference reads: parts =====
def mE (m : XM) (A v : Int) : XM := up2 (up2 m 122 (214 + 140 * A + m 122 (209 + A)) v) 122 (209 + A) (m 122 (209 + A) + 1)
theorem c_Mo_emits (d z : Nat) (m : XM) (A v : Int) (h4 : m 121 4 = A) (hA : 0 ≤ A ∧ A < 5) (hc : 0 ≤ m 122 (209 + A) ∧ m 122 (209 + A) < 140) : CV d k_Mo_emits z m [vR 121, vI v] (fun m' => (m 121 7 = 0 ∧ m' = mE m A v) ∨ (m 121 7 ≠ 0 ∧ m' = m)) := by
  refine r_entry mx129 rfl ?_
  refine r_loadA a129_0 rfl (by decide) ?_
  refine r_getI (ki := 7) a129_1 ty121 rfl ?_
  refine r_ifne a129_4 (fun h_4 => ?_) (fun h_4 => ?_)
  · refine r_retVq a129_56 ?_
    first
      | exact Or.inr ⟨h_4, rfl⟩
      | exact Or.inl ⟨by omega, rfl⟩
  · refine r_loadA a129_7 rfl (by decide) ?_
    refine r_getR a129_8 ty121 rf121_1 (by decide) ?_
    refine r_pushI a129_11 ?_
    refine r_pushI a129_14 ?_
    refine r_loadA a129_17 rfl (by decide) ?_
    refine r_getI (ki := 4) a129_18 ty121 rfl ?_
    rw [h4]
    refine r_mul a129_21 (by omega) ?_
    refine r_add a129_22 (by omega) ?_
    refine r_loadA a129_23 rfl (by decide) ?_
    refine r_getR a129_24 ty121 rf121_1 (by decide) ?_
    refine r_pushI a129_27 ?_
    refine r_loadA a129_30 rfl (by decide) ?_
    refine r_getI (ki := 4) a129_31 ty121 rfl ?_
    rw [h4]
    refine r_add a129_34 (by omega) ?_
    refine r_iald a129_35 ty122 (by omega) ?_
    refine r_add a129_36 (by omega) ?_
    refine r_loadI a129_37 rfl ?_
    refine r_iast a129_38 ty122 (by omega) ?_
    refine r_loadA a129_39 rfl (by decide) ?_
    refine r_getR a129_40 ty121 rf121_1 (by decide) ?_
    refine r_pushI a129_43 ?_
    refine r_loadA a129_46 rfl (by decide) ?_
    refine r_getI (ki := 4) a129_47 ty121 rfl ?_
    rw [up2_c (by decide), h4]
    refine r_add a129_50 (by omega) ?_
    refine r_dup2 a129_51 rfl rfl ?_
    refine r_iald a129_52 ty122 (by omega) ?_
    rw [up2_k (by omega)]
    refine r_pushI a129_53 ?_
    refine r_add a129_54 (by omega) ?_
    refine r_iast a129_55 ty122 (by omega) ?_
    refine r_retVq a129_56 ?_
    first
      | exact Or.inr ⟨h_4, rfl⟩
      | exact Or.inl ⟨by omega, rfl⟩
def MoF (m m' : XM) (A : Int) : Prop := (∀ x, x ≠ 121 → x ≠ 122 → m' x = m x) ∧ (∀ y, y ≠ 5 → y ≠ 7 → m' 121 y = m 121 y) ∧ (∀ y, y ≠ 209 + A → ¬ (214 + 140 * A + m 122 (209 + A) ≤ y ∧ y < 214 + 140 * A + 140) → m' 122 y = m 122 y) ∧ m 122 (209 + A) ≤ m' 122 (209 + A)
theorem MoF.refl (m : XM) (A : Int) : MoF m m A := ⟨fun _ _ _ => rfl, fun _ _ _ => rfl, fun _ _ _ => rfl, Int.le_refl _⟩
theorem MoF.trans {a b c : XM} {A : Int} (h1 : MoF a b A) (h2 : MoF b c A) : MoF a c A :=
  ⟨fun x x1 x2 => (h2.1 x x1 x2).trans (h1.1 x x1 x2), fun y y1 y2 => (h2.2.1 y y1 y2).trans (h1.2.1 y y1 y2), fun y y1 y2 => (h2.2.2.1 y y1 (by have := h1.2.2.2; omega)).trans (h1.2.2.1 y y1 y2), Int.le_trans h1.2.2.2 h2.2.2.2⟩
theorem MoF_mS (m : XM) (w p A : Int) : MoF m (mS m w p) A := ⟨fun x x1 _ => mS_c x1, fun y y1 y2 => mS_k y2 y1, fun y _ _ => by rw [mS_c (by decide)], by rw [mS_c (by decide)]; exact Int.le_refl _⟩
theorem MoF_5 (m : XM) (p A : Int) : MoF m (up2 m 121 5 p) A := ⟨fun x x1 _ => up2_c x1, fun y y1 _ => up2_k y1, fun y _ _ => by rw [up2_c (by decide)], by rw [up2_c (by decide)]; exact Int.le_refl _⟩
theorem mE_c (m : XM) (A v : Int) (h : 0 ≤ m 122 (209 + A)) : mE m A v 122 (209 + A) = m 122 (209 + A) + 1 := up2_s _ _ _ _
theorem mE_v (m : XM) (A v : Int) (hA : 0 ≤ A ∧ A < 5) (h : 0 ≤ m 122 (209 + A)) : mE m A v 122 (214 + 140 * A + m 122 (209 + A)) = v := by unfold mE; rw [up2_k (by omega), up2_s]
theorem mE_y {m : XM} {A v y : Int} (h1 : y ≠ 209 + A) (h2 : y ≠ 214 + 140 * A + m 122 (209 + A)) : mE m A v 122 y = m 122 y := by unfold mE; rw [up2_k h1, up2_k h2]
theorem mE_x {m : XM} {A v : Int} {x : Nat} (h : x ≠ 122) : mE m A v x = m x := by unfold mE; rw [up2_c h, up2_c h]
theorem MoF_E (m : XM) (A v : Int) (h : 0 ≤ m 122 (209 + A) ∧ m 122 (209 + A) < 140) : MoF m (mE m A v) A :=
  ⟨fun x _ x2 => mE_x x2, fun y _ _ => by rw [mE_x (by decide)], fun y y1 y2 => mE_y y1 (by omega), by rw [mE_c m A v h.1]; omega⟩
def MoP (m : XM) (f : Int → Int) (E A : Int) : Prop := MoS m f E A ∧ m 121 7 = 0 ∧ 0 ≤ m 122 (209 + A) ∧ m 122 (209 + A) ≤ m 121 5
theorem MoF_S {m m' : XM} {f : Int → Int} {E A : Int} (h : MoF m m' A) (hI : MoS m f E A) (hc : 0 ≤ m 122 (209 + A)) (hp : 0 ≤ m' 121 5 ∧ m' 121 5 ≤ E) : MoS m' f E A := by
  obtain ⟨a, b, c, d, e, g, i⟩ := hI
  exact ⟨by rw [h.2.1 6 (by decide) (by decide)]; exact a, b, hp, fun j j1 j2 => by rw [h.2.2.1 (99 + j) (by omega) (by omega)]; exact d j j1 j2, e, by rw [h.2.1 4 (by decide) (by decide)]; exact g, i⟩
def MoR (m m' : XM) (A : Int) (r : PRes) : Prop :=
  MoF m m' A ∧ m' 121 5 = r.1 ∧ m' 122 (209 + A) ≤ r.1 ∧ ((∃ t, r.2 = some t ∧ m' 121 7 = 0 ∧ m' 122 (209 + A) = m 122 (209 + A) + t.length ∧ Seg (m' 122) (214 + 140 * A + m 122 (209 + A)) t) ∨ (r.2 = none ∧ m' 121 7 = 1))
/-- a part of the reference reads as F does -/
def CalM (M : Nat) (F : Int → PRes) (f : Int → Int) (E A o : Int) (D : Nat) : Prop := ∀ (d z : Nat) (m : XM), D ≤ d → MoP m f E A → m 121 8 = o → CV d M z m [vR 121] (fun m' => MoR m m' A (F (m 121 5)))
/-- wrong already: nothing is done -/
def WrgM (M : Nat) (D : Nat) : Prop := ∀ (d z : Nat) (m : XM), D ≤ d → m 121 7 = 1 → CV d M z m [vR 121] (fun m' => m' = m)
theorem wrg_factor : WrgM k_Mo_factor 0 := by
  intro d z m _ h
  refine r_entry mx130 rfl ?_
  refine r_loadA a130_0 rfl (by decide) ?_
  refine r_getI (ki := 7) a130_1 ty121 rfl ?_
  rw [h]
  refine r_ifeq a130_4 (fun h_4 => ?_) (fun h_4 => ?_)
  · exfalso
    omega
  · refine r_retVq a130_7 ?_
    rfl
theorem wrg_every (D : Nat) (hw : WrgM k_Mo_factor D) : WrgM k_Mo_every (D + 1) := by
  intro d z m hd h
  obtain ⟨e, rfl⟩ : ∃ e, d = e + 1 := ⟨d - 1, by omega⟩
  refine r_entry mx131 rfl ?_
  refine r_loadA a131_0 rfl (by decide) ?_
  refine r_callV_1 a131_1 (Nat.le_of_ble_eq_true rfl) (le_mx mx130 (Nat.le_of_ble_eq_true rfl)) (Or.inr (recv_ok ty121 ow130 (by decide))) (hw e z m (by omega) h) (fun m_1 h_1 => ?_)
  rw [h_1]
  refine r_loadA a131_4 rfl (by decide) ?_
  refine r_getI (ki := 7) a131_5 ty121 rfl ?_
  rw [h]
  refine r_ifne a131_8 (fun h_8 => ?_) (fun h_8 => ?_)
  · refine r_retVq a131_43 ?_
    rfl
  · exfalso
    omega
theorem cal_every (F : Int → PRes) (f : Int → Int) (E A o : Int) (D a : Nat) (hF : CalM k_Mo_factor F f E A o D) (hG : GoodF F E a) : CalM k_Mo_every (fun p => bnd (F p) (fun q t => lpP F f E 38 (-2) 101 q t)) f E A o (D + 1) := by
  intro d z m hd hP ho
  obtain ⟨e, rfl⟩ : ∃ e, d = e + 1 := ⟨d - 1, by omega⟩
  have hS := hP.1
  have hb := hS.2.1
  have hp := hS.2.2.1
  have hA := hS.2.2.2.2.2.2
  obtain ⟨R, hR⟩ : ∃ R, bnd (F (m 121 5)) (fun q t => lpP F f E 38 (-2) 101 q t) = R := ⟨_, rfl⟩
  show CV (e + 1) _ z m _ (fun m' => MoR m m' A (bnd (F (m 121 5)) (fun q t => lpP F f E 38 (-2) 101 q t)))
  rw [hR]
  have bad : ∀ (m1 : XM) (q : Int), MoF m m1 A → m1 121 5 = q → m1 122 (209 + A) ≤ q → m1 121 7 = 1 → R = (q, none) → RZ (e + 1) k_Mo_every 4 [vR 121] [] (zH z m1) (qz z (qv fun m' => MoR m m' A R)) := by
    intro m1 q fr h5 hc h7 hh
    refine r_loadA a131_4 rfl (by decide) ?_
    refine r_getI (ki := 7) a131_5 ty121 rfl ?_
    rw [h7]
    refine r_ifne a131_8 (fun h_8 => ?_) (fun h_8 => ?_)
    · refine r_retVq a131_43 ?_
      rw [hh]
      exact ⟨fr, h5, hc, Or.inr ⟨rfl, h7⟩⟩
    · exfalso
      omega
  have loop : ∀ (c : Nat) (q : Int) (n : Nat) (acc : List Int) (m1 : XM), E < q + c → 0 ≤ q → q ≤ E → MoF m m1 A → m1 121 5 = q → m1 121 7 = 0 → m1 122 (209 + A) = m 122 (209 + A) + acc.length → m1 122 (209 + A) ≤ q → Seg (m1 122) (214 + 140 * A + m 122 (209 + A)) acc → 101 ≤ q + n → lpP F f E 38 (-2) n q acc = R →
      RZ (e + 1) k_Mo_every 4 [vR 121] [] (zH z m1) (qz z (qv fun m' => MoR m m' A R)) := by
    intro c
    induction c with
    | zero => intro q n acc m1 h1 h2 h3; exfalso; omega
    | succ c ih =>
      intro q n acc m1 h1 h2 h3 fr h5 h7 hc hcq hs hn hh
      have hc0 := hP.2.2.1
      have hS1 : MoS m1 f E A := MoF_S fr hS hc0 (by omega)
      have t12 := c_Mo_here e z m1 f E A hS1
      rw [h5] at t12
      refine r_loadA a131_4 rfl (by decide) ?_
      refine r_getI (ki := 7) a131_5 ty121 rfl ?_
      rw [h7]
      refine r_ifne a131_8 (fun h_8 => ?_) (fun h_8 => ?_)
      · exfalso
        omega
      · refine r_loadA a131_11 rfl (by decide) ?_
        refine r_callI_1 a131_12 (Nat.le_of_ble_eq_true rfl) (le_mx mx124 (Nat.le_of_ble_eq_true rfl)) (Or.inr (recv_ok ty121 ow124 (by decide))) (t12) (fun x_12 m_12 h_12 => ?_)
        obtain ⟨hm_12, h_12⟩ := h_12
        rw [hm_12]
        refine r_pushI a131_15 ?_
        refine r_icne a131_17 (fun h_17 => ?_) (fun h_17 => ?_)
        · refine r_retVq a131_43 ?_
          rw [lp_stop n (by omega)] at hh
          rw [← hh]
          exact ⟨fr, h5, hcq, Or.inl ⟨acc, rfl, h7, hc, hs⟩⟩
        · have hlt := @atP_lt f E q (by omega)
          rw [lp_go (by omega) (by omega)] at hh
          have f2 : MoF m1 (up2 m1 121 5 (q + 1)) A := MoF_5 m1 (q + 1) A
          have e2c : up2 m1 121 5 (q + 1) 122 = m1 122 := up2_c (by decide)
          have hP2 : MoP (up2 m1 121 5 (q + 1)) f E A := ⟨MoF_S f2 hS1 (by omega) (by rw [up2_s]; omega), by rw [up2_k (by decide)]; exact h7, by rw [e2c]; omega, by rw [e2c, up2_s]; omega⟩
          have t31 := hF e z (up2 m1 121 5 (q + 1)) (by omega) hP2 (by rw [up2_k (by decide), fr.2.1 8 (by decide) (by decide)]; exact ho)
          rw [up2_s] at t31
          refine r_loadA a131_20 rfl (by decide) ?_
          refine r_dup a131_21 rfl ?_
          refine r_getI (ki := 5) a131_22 ty121 rfl ?_
          refine r_pushI a131_25 ?_
          refine r_add a131_26 (by omega) ?_
          refine r_putI (ki := 5) a131_27 ty121 rfl ?_
          rw [h5]
          refine r_loadA a131_30 rfl (by decide) ?_
          refine r_callV_1 a131_31 (Nat.le_of_ble_eq_true rfl) (le_mx mx130 (Nat.le_of_ble_eq_true rfl)) (Or.inr (recv_ok ty121 ow130 (by decide))) (t31) (fun m_31 h_31 => ?_)
          obtain ⟨g1, g2, g3, g4⟩ := h_31
          have fr3 : MoF m m_31 A := MoF.trans fr (MoF.trans f2 g1)
          have gd := hG (q + 1) (by omega) (by omega)
          rw [e2c] at g4
          have e4 : m_31 121 4 = A := by rw [fr3.2.1 4 (by decide) (by decide)]; exact hS.2.2.2.2.2.1
          have hc31 : m1 122 (209 + A) ≤ m_31 122 (209 + A) := by have := g1.2.2.2; rw [e2c] at this; exact this
          have hcb : m_31 122 (209 + A) < 140 := by
            rcases bnd_cases (F (q + 1)) (fun q t => (q, some t)) with ⟨q3, t, w1, _⟩ | ⟨q3, w1, _⟩
            · have := (gd.1 q3 t w1).2.1
              rw [w1] at g3
              have g3' : m_31 122 (209 + A) ≤ q3 := g3
              omega
            · have := (gd.2 q3 w1).2
              rw [w1] at g3
              have g3' : m_31 122 (209 + A) ≤ q3 := g3
              omega
          refine r_loadA a131_34 rfl (by decide) ?_
          refine r_pushI a131_35 ?_
          refine r_callV_2 a131_37 (Nat.le_of_ble_eq_true rfl) (le_mx mx129 (Nat.le_of_ble_eq_true rfl)) (Or.inr (recv_ok ty121 ow129 (by decide))) (c_Mo_emits e z m_31 A (-2) e4 hA (by omega)) (fun m_37 h_37 => ?_)
          refine r_goto a131_40 ?_
          rcases bnd_cases (F (q + 1)) (fun q' t => lpP F f E 38 (-2) (n - 1) q' (acc ++ t ++ [-2])) with ⟨q3, t, w1, w2⟩ | ⟨q3, w1, w2⟩
          · rw [w2] at hh
            obtain ⟨k1, k2, k3, _⟩ := gd.1 q3 t w1
            rw [w1] at g2 g3 g4
            have ok : m_31 121 7 = 0 ∧ m_31 122 (209 + A) = m1 122 (209 + A) + t.length ∧ Seg (m_31 122) (214 + 140 * A + m1 122 (209 + A)) t := by
              rcases g4 with ⟨t', u, v1, v2, v3⟩ | ⟨u, _⟩
              · have u' : some t = some t' := u
                rw [Option.some.injEq] at u'
                rw [← u'] at v2 v3
                exact ⟨v1, v2, v3⟩
              · exact absurd u (by simp)
            obtain ⟨o1, o2, o3⟩ := ok
            have g2' : m_31 121 5 = q3 := g2
            have hm : m_37 = mE m_31 A (-2) := by
              rcases h_37 with ⟨_, h⟩ | ⟨h, _⟩
              · exact h
              · exact absurd o1 h
            have hcr : 0 ≤ m_31 122 (209 + A) ∧ m_31 122 (209 + A) < 140 := by omega
            rw [hm]
            refine ih q3 (n - 1) (acc ++ t ++ [-2]) _ (by omega) (by omega) k2 (MoF.trans fr3 (MoF_E m_31 A (-2) hcr)) (by rw [mE_x (by decide)]; exact g2') (by rw [mE_x (by decide)]; exact o1) ?_ ?_ ?_ (by omega) hh
            · rw [mE_c m_31 A _ hcr.1, o2, hc, List.length_append, List.length_append]; push_cast; show _ = _ + (_ + _ + ((1 : Nat) : Int)); omega
            · rw [mE_c m_31 A _ hcr.1]; omega
            · rw [Seg_app, Seg_app]
              refine ⟨⟨Seg_le hs (fun i i1 i2 => ?_), ?_⟩, ?_⟩
              · rw [mE_y (by omega) (by omega), g1.2.2.1 i (by omega) (by rw [e2c]; omega), e2c]
              · rw [show 214 + 140 * A + m 122 (209 + A) + (acc.length : Int) = 214 + 140 * A + m1 122 (209 + A) by omega]
                exact Seg_le o3 (fun i i1 i2 => by rw [mE_y (by omega) (by omega)])
              · rw [List.length_append]
                push_cast
                rw [show 214 + 140 * A + m 122 (209 + A) + ((acc.length : Int) + (t.length : Int)) = 214 + 140 * A + m_31 122 (209 + A) by omega]
                exact ⟨mE_v m_31 A _ hA hcr.1, trivial⟩
          · rw [w2] at hh
            rw [w1] at g2 g3 g4
            have o1 : m_31 121 7 = 1 := by
              rcases g4 with ⟨_, u, _⟩ | ⟨_, u⟩
              · exact absurd u (by simp)
              · exact u
            have hm : m_37 = m_31 := by
              rcases h_37 with ⟨h, _⟩ | ⟨_, h⟩
              · omega
              · exact h
            rw [hm]
            exact bad m_31 q3 fr3 g2 g3 o1 hh.symm
  have hc0 := hP.2.2.1
  have gd := hG (m 121 5) hp.1 hp.2
  refine r_entry mx131 rfl ?_
  refine r_loadA a131_0 rfl (by decide) ?_
  refine r_callV_1 a131_1 (Nat.le_of_ble_eq_true rfl) (le_mx mx130 (Nat.le_of_ble_eq_true rfl)) (Or.inr (recv_ok ty121 ow130 (by decide))) (hF e z m (by omega) hP ho) (fun m_1 h_1 => ?_)
  obtain ⟨g1, g2, g3, g4⟩ := h_1
  rcases bnd_cases (F (m 121 5)) (fun q t => lpP F f E 38 (-2) 101 q t) with ⟨q3, t, w1, w2⟩ | ⟨q3, w1, w2⟩
  · rw [w2] at hR
    obtain ⟨k1, k2, k3, _⟩ := gd.1 q3 t w1
    rw [w1] at g2 g3 g4
    rcases g4 with ⟨t', u, v1, v2, v3⟩ | ⟨u, _⟩
    · have u' : some t = some t' := u
      rw [Option.some.injEq] at u'
      rw [← u'] at v2 v3
      exact loop 101 q3 101 t m_1 (by omega) (by omega) k2 g1 g2 v1 v2 g3 v3 (by omega) hR
    · exact absurd u (by simp)
  · rw [w2] at hR
    rw [w1] at g2 g3 g4
    have o1 : m_1 121 7 = 1 := by
      rcases g4 with ⟨_, u, _⟩ | ⟨_, u⟩
      · exact absurd u (by simp)
      · exact u
    exact bad m_1 q3 g1 g2 g3 o1 hR.symm
theorem wrg_some (D : Nat) (hw : WrgM k_Mo_every D) : WrgM k_Mo_some (D + 1) := by
  intro d z m hd h
  obtain ⟨e, rfl⟩ : ∃ e, d = e + 1 := ⟨d - 1, by omega⟩
  refine r_entry mx132 rfl ?_
  refine r_loadA a132_0 rfl (by decide) ?_
  refine r_callV_1 a132_1 (Nat.le_of_ble_eq_true rfl) (le_mx mx131 (Nat.le_of_ble_eq_true rfl)) (Or.inr (recv_ok ty121 ow131 (by decide))) (hw e z m (by omega) h) (fun m_1 h_1 => ?_)
  rw [h_1]
  refine r_loadA a132_4 rfl (by decide) ?_
  refine r_getI (ki := 7) a132_5 ty121 rfl ?_
  rw [h]
  refine r_ifne a132_8 (fun h_8 => ?_) (fun h_8 => ?_)
  · refine r_retVq a132_43 ?_
    rfl
  · exfalso
    omega
theorem cal_some (F : Int → PRes) (f : Int → Int) (E A o : Int) (D a : Nat) (hF : CalM k_Mo_every F f E A o D) (hG : GoodF F E a) : CalM k_Mo_some (fun p => bnd (F p) (fun q t => lpP F f E 124 (-3) 101 q t)) f E A o (D + 1) := by
  intro d z m hd hP ho
  obtain ⟨e, rfl⟩ : ∃ e, d = e + 1 := ⟨d - 1, by omega⟩
  have hS := hP.1
  have hb := hS.2.1
  have hp := hS.2.2.1
  have hA := hS.2.2.2.2.2.2
  obtain ⟨R, hR⟩ : ∃ R, bnd (F (m 121 5)) (fun q t => lpP F f E 124 (-3) 101 q t) = R := ⟨_, rfl⟩
  show CV (e + 1) _ z m _ (fun m' => MoR m m' A (bnd (F (m 121 5)) (fun q t => lpP F f E 124 (-3) 101 q t)))
  rw [hR]
  have bad : ∀ (m1 : XM) (q : Int), MoF m m1 A → m1 121 5 = q → m1 122 (209 + A) ≤ q → m1 121 7 = 1 → R = (q, none) → RZ (e + 1) k_Mo_some 4 [vR 121] [] (zH z m1) (qz z (qv fun m' => MoR m m' A R)) := by
    intro m1 q fr h5 hc h7 hh
    refine r_loadA a132_4 rfl (by decide) ?_
    refine r_getI (ki := 7) a132_5 ty121 rfl ?_
    rw [h7]
    refine r_ifne a132_8 (fun h_8 => ?_) (fun h_8 => ?_)
    · refine r_retVq a132_43 ?_
      rw [hh]
      exact ⟨fr, h5, hc, Or.inr ⟨rfl, h7⟩⟩
    · exfalso
      omega
  have loop : ∀ (c : Nat) (q : Int) (n : Nat) (acc : List Int) (m1 : XM), E < q + c → 0 ≤ q → q ≤ E → MoF m m1 A → m1 121 5 = q → m1 121 7 = 0 → m1 122 (209 + A) = m 122 (209 + A) + acc.length → m1 122 (209 + A) ≤ q → Seg (m1 122) (214 + 140 * A + m 122 (209 + A)) acc → 101 ≤ q + n → lpP F f E 124 (-3) n q acc = R →
      RZ (e + 1) k_Mo_some 4 [vR 121] [] (zH z m1) (qz z (qv fun m' => MoR m m' A R)) := by
    intro c
    induction c with
    | zero => intro q n acc m1 h1 h2 h3; exfalso; omega
    | succ c ih =>
      intro q n acc m1 h1 h2 h3 fr h5 h7 hc hcq hs hn hh
      have hc0 := hP.2.2.1
      have hS1 : MoS m1 f E A := MoF_S fr hS hc0 (by omega)
      have t12 := c_Mo_here e z m1 f E A hS1
      rw [h5] at t12
      refine r_loadA a132_4 rfl (by decide) ?_
      refine r_getI (ki := 7) a132_5 ty121 rfl ?_
      rw [h7]
      refine r_ifne a132_8 (fun h_8 => ?_) (fun h_8 => ?_)
      · exfalso
        omega
      · refine r_loadA a132_11 rfl (by decide) ?_
        refine r_callI_1 a132_12 (Nat.le_of_ble_eq_true rfl) (le_mx mx124 (Nat.le_of_ble_eq_true rfl)) (Or.inr (recv_ok ty121 ow124 (by decide))) (t12) (fun x_12 m_12 h_12 => ?_)
        obtain ⟨hm_12, h_12⟩ := h_12
        rw [hm_12]
        refine r_pushI a132_15 ?_
        refine r_icne a132_17 (fun h_17 => ?_) (fun h_17 => ?_)
        · refine r_retVq a132_43 ?_
          rw [lp_stop n (by omega)] at hh
          rw [← hh]
          exact ⟨fr, h5, hcq, Or.inl ⟨acc, rfl, h7, hc, hs⟩⟩
        · have hlt := @atP_lt f E q (by omega)
          rw [lp_go (by omega) (by omega)] at hh
          have f2 : MoF m1 (up2 m1 121 5 (q + 1)) A := MoF_5 m1 (q + 1) A
          have e2c : up2 m1 121 5 (q + 1) 122 = m1 122 := up2_c (by decide)
          have hP2 : MoP (up2 m1 121 5 (q + 1)) f E A := ⟨MoF_S f2 hS1 (by omega) (by rw [up2_s]; omega), by rw [up2_k (by decide)]; exact h7, by rw [e2c]; omega, by rw [e2c, up2_s]; omega⟩
          have t31 := hF e z (up2 m1 121 5 (q + 1)) (by omega) hP2 (by rw [up2_k (by decide), fr.2.1 8 (by decide) (by decide)]; exact ho)
          rw [up2_s] at t31
          refine r_loadA a132_20 rfl (by decide) ?_
          refine r_dup a132_21 rfl ?_
          refine r_getI (ki := 5) a132_22 ty121 rfl ?_
          refine r_pushI a132_25 ?_
          refine r_add a132_26 (by omega) ?_
          refine r_putI (ki := 5) a132_27 ty121 rfl ?_
          rw [h5]
          refine r_loadA a132_30 rfl (by decide) ?_
          refine r_callV_1 a132_31 (Nat.le_of_ble_eq_true rfl) (le_mx mx131 (Nat.le_of_ble_eq_true rfl)) (Or.inr (recv_ok ty121 ow131 (by decide))) (t31) (fun m_31 h_31 => ?_)
          obtain ⟨g1, g2, g3, g4⟩ := h_31
          have fr3 : MoF m m_31 A := MoF.trans fr (MoF.trans f2 g1)
          have gd := hG (q + 1) (by omega) (by omega)
          rw [e2c] at g4
          have e4 : m_31 121 4 = A := by rw [fr3.2.1 4 (by decide) (by decide)]; exact hS.2.2.2.2.2.1
          have hc31 : m1 122 (209 + A) ≤ m_31 122 (209 + A) := by have := g1.2.2.2; rw [e2c] at this; exact this
          have hcb : m_31 122 (209 + A) < 140 := by
            rcases bnd_cases (F (q + 1)) (fun q t => (q, some t)) with ⟨q3, t, w1, _⟩ | ⟨q3, w1, _⟩
            · have := (gd.1 q3 t w1).2.1
              rw [w1] at g3
              have g3' : m_31 122 (209 + A) ≤ q3 := g3
              omega
            · have := (gd.2 q3 w1).2
              rw [w1] at g3
              have g3' : m_31 122 (209 + A) ≤ q3 := g3
              omega
          refine r_loadA a132_34 rfl (by decide) ?_
          refine r_pushI a132_35 ?_
          refine r_callV_2 a132_37 (Nat.le_of_ble_eq_true rfl) (le_mx mx129 (Nat.le_of_ble_eq_true rfl)) (Or.inr (recv_ok ty121 ow129 (by decide))) (c_Mo_emits e z m_31 A (-3) e4 hA (by omega)) (fun m_37 h_37 => ?_)
          refine r_goto a132_40 ?_
          rcases bnd_cases (F (q + 1)) (fun q' t => lpP F f E 124 (-3) (n - 1) q' (acc ++ t ++ [-3])) with ⟨q3, t, w1, w2⟩ | ⟨q3, w1, w2⟩
          · rw [w2] at hh
            obtain ⟨k1, k2, k3, _⟩ := gd.1 q3 t w1
            rw [w1] at g2 g3 g4
            have ok : m_31 121 7 = 0 ∧ m_31 122 (209 + A) = m1 122 (209 + A) + t.length ∧ Seg (m_31 122) (214 + 140 * A + m1 122 (209 + A)) t := by
              rcases g4 with ⟨t', u, v1, v2, v3⟩ | ⟨u, _⟩
              · have u' : some t = some t' := u
                rw [Option.some.injEq] at u'
                rw [← u'] at v2 v3
                exact ⟨v1, v2, v3⟩
              · exact absurd u (by simp)
            obtain ⟨o1, o2, o3⟩ := ok
            have g2' : m_31 121 5 = q3 := g2
            have hm : m_37 = mE m_31 A (-3) := by
              rcases h_37 with ⟨_, h⟩ | ⟨h, _⟩
              · exact h
              · exact absurd o1 h
            have hcr : 0 ≤ m_31 122 (209 + A) ∧ m_31 122 (209 + A) < 140 := by omega
            rw [hm]
            refine ih q3 (n - 1) (acc ++ t ++ [-3]) _ (by omega) (by omega) k2 (MoF.trans fr3 (MoF_E m_31 A (-3) hcr)) (by rw [mE_x (by decide)]; exact g2') (by rw [mE_x (by decide)]; exact o1) ?_ ?_ ?_ (by omega) hh
            · rw [mE_c m_31 A _ hcr.1, o2, hc, List.length_append, List.length_append]; push_cast; show _ = _ + (_ + _ + ((1 : Nat) : Int)); omega
            · rw [mE_c m_31 A _ hcr.1]; omega
            · rw [Seg_app, Seg_app]
              refine ⟨⟨Seg_le hs (fun i i1 i2 => ?_), ?_⟩, ?_⟩
              · rw [mE_y (by omega) (by omega), g1.2.2.1 i (by omega) (by rw [e2c]; omega), e2c]
              · rw [show 214 + 140 * A + m 122 (209 + A) + (acc.length : Int) = 214 + 140 * A + m1 122 (209 + A) by omega]
                exact Seg_le o3 (fun i i1 i2 => by rw [mE_y (by omega) (by omega)])
              · rw [List.length_append]
                push_cast
                rw [show 214 + 140 * A + m 122 (209 + A) + ((acc.length : Int) + (t.length : Int)) = 214 + 140 * A + m_31 122 (209 + A) by omega]
                exact ⟨mE_v m_31 A _ hA hcr.1, trivial⟩
          · rw [w2] at hh
            rw [w1] at g2 g3 g4
            have o1 : m_31 121 7 = 1 := by
              rcases g4 with ⟨_, u, _⟩ | ⟨_, u⟩
              · exact absurd u (by simp)
              · exact u
            have hm : m_37 = m_31 := by
              rcases h_37 with ⟨h, _⟩ | ⟨_, h⟩
              · omega
              · exact h
            rw [hm]
            exact bad m_31 q3 fr3 g2 g3 o1 hh.symm
  have hc0 := hP.2.2.1
  have gd := hG (m 121 5) hp.1 hp.2
  refine r_entry mx132 rfl ?_
  refine r_loadA a132_0 rfl (by decide) ?_
  refine r_callV_1 a132_1 (Nat.le_of_ble_eq_true rfl) (le_mx mx131 (Nat.le_of_ble_eq_true rfl)) (Or.inr (recv_ok ty121 ow131 (by decide))) (hF e z m (by omega) hP ho) (fun m_1 h_1 => ?_)
  obtain ⟨g1, g2, g3, g4⟩ := h_1
  rcases bnd_cases (F (m 121 5)) (fun q t => lpP F f E 124 (-3) 101 q t) with ⟨q3, t, w1, w2⟩ | ⟨q3, w1, w2⟩
  · rw [w2] at hR
    obtain ⟨k1, k2, k3, _⟩ := gd.1 q3 t w1
    rw [w1] at g2 g3 g4
    rcases g4 with ⟨t', u, v1, v2, v3⟩ | ⟨u, _⟩
    · have u' : some t = some t' := u
      rw [Option.some.injEq] at u'
      rw [← u'] at v2 v3
      exact loop 101 q3 101 t m_1 (by omega) (by omega) k2 g1 g2 v1 v2 g3 v3 (by omega) hR
    · exact absurd u (by simp)
  · rw [w2] at hR
    rw [w1] at g2 g3 g4
    have o1 : m_1 121 7 = 1 := by
      rcases g4 with ⟨_, u, _⟩ | ⟨_, u⟩
      · exact absurd u (by simp)
      · exact u
    exact bad m_1 q3 g1 g2 g3 o1 hR.symm
