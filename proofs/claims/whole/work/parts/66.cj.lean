-- ===== changing methods, both sides =====
theorem Cpl_put2 {m m2 : XM} {s s' : Int → Int} {cl cl' : CLs} (h1 : CpC m s cl) (h2 : CpM m s cl) (h3 : ImgOk m) (h4 : ActOk m) (fm : ∀ x, ¬ (33 ≤ x ∧ x ≤ 54) → x ≠ 122 → m2 x = m x) (h122 : m2 122 = s')
    (A : okS s' ∧ RepB m2 s' 33 ∧ ClB m2 33 cl' ∧ ClS s' cl') : Cpl m2 ∧ m2 1 = m 1 := by
  obtain ⟨a1, a2, a3, a4⟩ := A
  have e121 := fm 121 (by decide) (by decide)
  exact ⟨Cpl_put h3 h4 (fun x hx => fm x (by omega) (by omega)) (by rw [e121]) (by rw [e121]) (by rw [e121]; exact h2.2.2.2) (by rw [fm 90 (by decide) (by decide)]; exact h1.2.2.2.1) (by rw [fm 103 (by decide) (by decide)]; exact h1.2.2.2.2) a1 a2 a3 h122 a4, fm 1 (by decide) (by decide)⟩
theorem J_feed (d z : Nat) (m : XM) (a : Int) (hd : 25 ≤ d) (hC : Cpl m) : JI d z k_Fg_feed k_Mo_feed m [vR 32, vI a] [vR 121, vI a] := by
  have hC' := hC
  obtain ⟨s, cl, h1, h2, h3, h4⟩ := hC'
  have e5 : m 41 0 = s 5 := h1.2.1.2.2.2.1.1
  have b5 := h1.1.1.2.2.2.2.2.1
  refine (c_Fg_feed d z m a (by omega) (by rw [e5]; exact b5)).imp fun x m1 hx => ?_
  rw [e5] at hx
  have e122 : m1 122 = s := by
    rcases hx with ⟨_, _, q⟩ | ⟨_, _, _, q⟩ | ⟨_, _, _, q⟩
    · rw [q]; exact h2.1
    · rw [q]; exact h2.1
    · rw [q, up2_c (by decide), up2_c (by decide)]; exact h2.1
  refine (c_Mo_feed d z m1 a (by omega) (by rw [e122]; exact h1.1)).imp fun y m2 hy => ?_
  rw [e122] at hy
  rcases hx with ⟨p0, q, r⟩ | ⟨p0, p1, q, r⟩ | ⟨p0, p1, q, r⟩ <;> rcases hy with ⟨u0, v, w⟩ | ⟨u0, u1, v, w⟩ | ⟨u0, u1, v, w⟩ <;> first | (exfalso; omega) | skip
  · rw [w, r]; exact ⟨by omega, hC, rfl⟩
  · rw [w, r]; exact ⟨by omega, hC, rfl⟩
  · have A := A_feed (m := m) (m2 := m2) (s := s) (s' := upi (upi s (99 + s 5) a) 5 (s 5 + 1)) (cl := cl) (a := a) h1.1 h1.2.1 h1.2.2.1 h2.2.2.1 p1 p0 (fun y hy => by rw [upi_n (by omega), upi_n (by omega)]) (fun x hx => by rw [w, upC_n (by omega), r, up2_c (by omega), up2_c (by omega)]) (upi_s _ _ _) (by rw [upi_n (by omega), upi_s]) (by rw [w, upC_n (by decide), r, up2_c (by decide), up2_s]) (by rw [w, upC_n (by decide), r, up2_s]) (fun i hi => by rw [w, upC_n (by decide), r, up2_k hi, up2_c (by decide)])
    have fin := Cpl_put2 (m2 := m2) h1 h2 h3 h4 (fun x hx hx2 => by rw [w, upC_n hx2, r, up2_c (by omega), up2_c (by omega)]) (by rw [w, upC_s]) A
    exact ⟨by omega, fin.1, fin.2⟩
theorem J_gate (d z : Nat) (m : XM) (kd vv t : Int) (hd : 25 ≤ d) (hC : Cpl m) : JI d z k_Fg_gate k_Mo_gate m [vR 32, vI kd, vI vv, vI t] [vR 121, vI kd, vI vv, vI t] := by
  have hC' := hC
  obtain ⟨s, cl, h1, h2, h3, h4⟩ := hC'
  have e0 : m 34 0 = s 0 := h1.2.1.1.1
  have b0 := h1.1.1.1
  refine (c_Fg_gate d z m kd vv t (by omega) (by rw [e0]; exact b0)).imp fun x m1 hx => ?_
  rw [e0] at hx
  have e122 : m1 122 = s := by
    rcases hx with ⟨_, _, q⟩ | ⟨_, _, _, q⟩ | ⟨_, _, _, _, q⟩ | ⟨_, _, _, _, q⟩
    · rw [q]; exact h2.1
    · rw [q]; exact h2.1
    · rw [q]; exact h2.1
    · rw [q, up2_c (by decide), up2_c (by decide), up2_c (by decide), up2_c (by decide), up2_c (by decide)]; exact h2.1
  refine (c_Mo_gate d z m1 kd vv t (by omega) (by rw [e122]; exact h1.1)).imp fun y m2 hy => ?_
  rw [e122] at hy
  rcases hx with ⟨p0, q, r⟩ | ⟨p0, p1, q, r⟩ | ⟨p0, p1, p2, q, r⟩ | ⟨p0, p1, p2, q, r⟩ <;> rcases hy with ⟨u0, v, w⟩ | ⟨u0, u1, v, w⟩ | ⟨u0, u1, u2, v, w⟩ | ⟨u0, u1, u2, v, w⟩ <;> first | (exfalso; omega) | skip
  · rw [w, r]; exact ⟨by omega, hC, rfl⟩
  · rw [w, r]; exact ⟨by omega, hC, rfl⟩
  · rw [w, r]; exact ⟨by omega, hC, rfl⟩
  · have zr : ∀ k, 0 ≤ k → k < 28 → 4 * s 0 ≤ k → s (36 + k) = 0 := fun k a b c => (h1.1.2.2.1 k a b).2 c
    have fs : ∀ y, (y ≠ 0 ∧ y ≠ 8 + s 0 ∧ y ≠ 15 + s 0 ∧ y ≠ 22 + s 0 ∧ y ≠ 29 + s 0) → gateS s kd vv t y = s y := fun y hy => by
      unfold gateS
      rw [if_neg (by omega)]
      by_cases c : 36 + 4 * s 0 ≤ y ∧ y < 36 + 4 * s 0 + 4
      · rw [if_pos c]
        have := zr (y - 36) (by omega) (by omega) (by omega)
        rw [show 36 + (y - 36) = y by omega] at this
        exact this.symm
      · rw [if_neg c, if_neg (by omega), if_neg (by omega), if_neg (by omega), if_neg (by omega)]
    have A := A_gate (m := m) (m2 := m2) (s := s) (s' := gateS s kd vv t) (cl := cl) (kd := kd) (v := vv) (t := t) h1.1 h1.2.1 h1.2.2.1 h2.2.2.1 p2 p0 p1.1 p1.2 fs (fun x hx => by rw [w, upC_n (by omega), r, up2_c (by omega), up2_c (by omega), up2_c (by omega), up2_c (by omega), up2_c (by omega)])
      (by unfold gateS; rw [if_pos rfl]) (by unfold gateS; rw [if_neg (by omega), if_neg (by omega), if_neg (by omega), if_neg (by omega), if_neg (by omega), if_pos rfl]) (by unfold gateS; rw [if_neg (by omega), if_neg (by omega), if_neg (by omega), if_neg (by omega), if_pos rfl]) (by unfold gateS; rw [if_neg (by omega), if_neg (by omega), if_neg (by omega), if_pos rfl]) (by unfold gateS; rw [if_neg (by omega), if_neg (by omega), if_pos rfl])
      (by rw [w, upC_n (by decide), r, up2_s]) ⟨by rw [w, upC_n (by decide), r, up2_c (by decide), up2_c (by decide), up2_c (by decide), up2_c (by decide), up2_s], by rw [w, upC_n (by decide), r, up2_c (by decide), up2_c (by decide), up2_c (by decide), up2_s], by rw [w, upC_n (by decide), r, up2_c (by decide), up2_c (by decide), up2_s], by rw [w, upC_n (by decide), r, up2_c (by decide), up2_s]⟩
      (fun g hg => ⟨by rw [w, upC_n (by decide), r, up2_c (by decide), up2_c (by decide), up2_c (by decide), up2_c (by decide), up2_k hg], by rw [w, upC_n (by decide), r, up2_c (by decide), up2_c (by decide), up2_c (by decide), up2_k hg, up2_c (by decide)], by rw [w, upC_n (by decide), r, up2_c (by decide), up2_c (by decide), up2_k hg, up2_c (by decide), up2_c (by decide)], by rw [w, upC_n (by decide), r, up2_c (by decide), up2_k hg, up2_c (by decide), up2_c (by decide), up2_c (by decide)]⟩)
    have fin := Cpl_put2 (m2 := m2) h1 h2 h3 h4 (fun x hx hx2 => by rw [w, upC_n hx2, r, up2_c (by omega), up2_c (by omega), up2_c (by omega), up2_c (by omega), up2_c (by omega)]) (by rw [w, upC_s]) A
    exact ⟨by omega, fin.1, fin.2⟩
theorem J_turn (d z : Nat) (m : XM) (g n : Int) (hd : 25 ≤ d) (hC : Cpl m) : JI d z k_Fg_turn k_Mo_turn m [vR 32, vI g, vI n] [vR 121, vI g, vI n] := by
  have hC' := hC
  obtain ⟨s, cl, h1, h2, h3, h4⟩ := hC'
  refine (c_Fg_turn d z m s cl g n (by omega) h1).imp fun x m1 hx => ?_
  have e122 : m1 122 = s := by
    rcases hx with ⟨_, _, q⟩ | ⟨_, _, _, q⟩ | ⟨_, _, _, q⟩
    · rw [q]; exact h2.1
    · rw [q]; exact h2.1
    · rw [q, up2_c (by decide)]; exact h2.1
  refine (c_Mo_turn d z m1 g n (by omega) (by rw [e122]; exact h1.1)).imp fun y m2 hy => ?_
  rw [e122] at hy
  rcases hx with ⟨p0, q, r⟩ | ⟨p0, p1, q, r⟩ | ⟨p0, p1, q, r⟩ <;> rcases hy with ⟨u0, v, w⟩ | ⟨u0, u1, v, w⟩ | ⟨u0, u1, v, w⟩ <;> first | (exfalso; omega) | skip
  · rw [w, r]; exact ⟨by omega, hC, rfl⟩
  · rw [w, r]; exact ⟨by omega, hC, rfl⟩
  · have b0 := h1.1.1.1
    have hg := p0.1
    have hg2 := p0.2
    have eq : m 37 g = s (22 + g) := (h1.2.1.1.2 g hg (by omega)).2.2.1
    have A := A_turn (m := m) (m2 := m2) (s := s) (s' := upi s (22 + g) n) (cl := cl) (g0 := g) (n := n) h1.1 h1.2.1 h1.2.2.1 h2.2.2.1 ⟨hg, by omega⟩ p1 (fun y hy => by rw [upi_n (by omega)]) (fun x hx => by rw [w, upC_n (by omega), r, up2_c (by omega)]) (upi_s _ _ _) (by rw [w, upC_n (by decide), r, up2_s]) (fun i hi => by rw [w, upC_n (by decide), r, up2_k hi])
    have fin := Cpl_put2 (m2 := m2) h1 h2 h3 h4 (fun x hx hx2 => by rw [w, upC_n hx2, r, up2_c (by omega)]) (by rw [w, upC_s]) A
    exact ⟨by rw [q, eq, v], fin.1, fin.2⟩
theorem J_plan (d z : Nat) (m : XM) (g n : Int) (hd : 25 ≤ d) (hC : Cpl m) : JI d z k_Fg_plan k_Mo_plan m [vR 32, vI g, vI n] [vR 121, vI g, vI n] := by
  have hC' := hC
  obtain ⟨s, cl, h1, h2, h3, h4⟩ := hC'
  refine (c_Fg_plan d z m s cl g n (by omega) h1).imp fun x m1 hx => ?_
  have e122 : m1 122 = s := by
    rcases hx with ⟨_, _, q⟩ | ⟨_, _, _, q⟩ | ⟨_, _, _, q⟩
    · rw [q]; exact h2.1
    · rw [q]; exact h2.1
    · rw [q, up2_c (by decide)]; exact h2.1
  refine (c_Mo_plan d z m1 g n (by omega) (by rw [e122]; exact h1.1)).imp fun y m2 hy => ?_
  rw [e122] at hy
  rcases hx with ⟨p0, q, r⟩ | ⟨p0, p1, q, r⟩ | ⟨p0, p1, q, r⟩ <;> rcases hy with ⟨u0, v, w⟩ | ⟨u0, u1, v, w⟩ | ⟨u0, u1, v, w⟩ <;> first | (exfalso; omega) | skip
  · rw [w, r]; exact ⟨by omega, hC, rfl⟩
  · rw [w, r]; exact ⟨by omega, hC, rfl⟩
  · have b0 := h1.1.1.1
    have hg := p0.1
    have hg2 := p0.2
    have eq : m 38 g = s (29 + g) := (h1.2.1.1.2 g hg (by omega)).2.2.2
    have A := A_plan (m := m) (m2 := m2) (s := s) (s' := upi s (29 + g) n) (cl := cl) (g0 := g) (n := n) h1.1 h1.2.1 h1.2.2.1 h2.2.2.1 ⟨hg, by omega⟩ p1 (fun y hy => by rw [upi_n (by omega)]) (fun x hx => by rw [w, upC_n (by omega), r, up2_c (by omega)]) (upi_s _ _ _) (by rw [w, upC_n (by decide), r, up2_s]) (fun i hi => by rw [w, upC_n (by decide), r, up2_k hi])
    have fin := Cpl_put2 (m2 := m2) h1 h2 h3 h4 (fun x hx hx2 => by rw [w, upC_n hx2, r, up2_c (by omega)]) (by rw [w, upC_s]) A
    exact ⟨by rw [q, eq, v], fin.1, fin.2⟩
theorem J_row (d z : Nat) (m : XM) (g k n : Int) (hd : 25 ≤ d) (hC : Cpl m) : JI d z k_Fg_row k_Mo_row m [vR 32, vI g, vI k, vI n] [vR 121, vI g, vI k, vI n] := by
  have hC' := hC
  obtain ⟨s, cl, h1, h2, h3, h4⟩ := hC'
  refine (c_Fg_row d z m s cl g k n (by omega) h1).imp fun x m1 hx => ?_
  have e122 : m1 122 = s := by
    rcases hx with ⟨_, _, q⟩ | ⟨_, _, _, q⟩ | ⟨_, _, _, _, q⟩ | ⟨_, _, _, _, q⟩
    · rw [q]; exact h2.1
    · rw [q]; exact h2.1
    · rw [q]; exact h2.1
    · rw [q, up2_c (by decide)]; exact h2.1
  refine (c_Mo_row d z m1 g k n (by omega) (by rw [e122]; exact h1.1)).imp fun y m2 hy => ?_
  rw [e122] at hy
  have hkd : ¬ (0 ≤ g ∧ g < s 0) ∨ m 35 g = s (8 + g) := by
    by_cases q : 0 ≤ g ∧ g < s 0
    · exact Or.inr (h1.2.1.1.2 g q.1 (by have := h1.1.1.1; omega)).1
    · exact Or.inl q
  rcases hx with ⟨p0, q, r⟩ | ⟨p0, p1, q, r⟩ | ⟨p0, p1, p2, q, r⟩ | ⟨p0, p1, p2, q, r⟩ <;> rcases hy with ⟨u0, v, w⟩ | ⟨u0, u1, v, w⟩ | ⟨u0, u1, u2, v, w⟩ | ⟨u0, u1, u2, v, w⟩ <;> first | (exfalso; omega) | skip
  · rw [w, r]; exact ⟨by omega, hC, rfl⟩
  · rw [w, r]; exact ⟨by omega, hC, rfl⟩
  · rw [w, r]; exact ⟨by omega, hC, rfl⟩
  · have b0 := h1.1.1.1
    have hg := p0.1.1
    have hg2 := p0.1.2
    have hk := p0.2
    have eq : m 39 (g * 4 + k) = s (36 + (g * 4 + k)) := h1.2.1.2.1 (g * 4 + k) (by omega) (by omega)
    have ei : 36 + 4 * g + k = 36 + (g * 4 + k) := by omega
    rw [ei] at v w
    have A := A_row (m := m) (m2 := m2) (s := s) (s' := upi s (36 + (g * 4 + k)) n) (cl := cl) (j := g * 4 + k) (n := n) h1.1 h1.2.1 h1.2.2.1 h2.2.2.1 (by omega) p1 (fun y hy => by rw [upi_n (by omega)]) (fun x hx => by rw [w, upC_n (by omega), r, up2_c (by omega)]) (upi_s _ _ _) (by rw [w, upC_n (by decide), r, up2_s]) (fun i hi => by rw [w, upC_n (by decide), r, up2_k hi])
    have fin := Cpl_put2 (m2 := m2) h1 h2 h3 h4 (fun x hx hx2 => by rw [w, upC_n hx2, r, up2_c (by omega)]) (by rw [w, upC_s]) A
    exact ⟨by rw [q, eq, v], fin.1, fin.2⟩
theorem J_skier (d z : Nat) (m : XM) (a : Int) (hd : 25 ≤ d) (hC : Cpl m) : JI d z k_Fg_skier k_Mo_skier m [vR 32, vI a] [vR 121, vI a] := by
  have hC' := hC
  obtain ⟨s, cl, h1, h2, h3, h4⟩ := hC'
  have e1 : m 33 2 = s 1 := h1.2.1.2.2.1.1
  have b1 := h1.1.1.2.1
  refine (c_Fg_skier d z m a (by omega) (by rw [e1]; exact b1)).imp fun x m1 hx => ?_
  rw [e1] at hx
  have e122 : m1 122 = s := by
    rcases hx with ⟨_, _, q⟩ | ⟨_, _, _, q⟩ | ⟨_, _, _, q⟩
    · rw [q]; exact h2.1
    · rw [q]; exact h2.1
    · rw [q, up2_c (by decide), up2_c (by decide)]; exact h2.1
  refine (c_Mo_skier d z m1 a (by omega) (by rw [e122]; exact h1.1)).imp fun y m2 hy => ?_
  rw [e122] at hy
  rcases hx with ⟨p0, q, r⟩ | ⟨p0, p1, q, r⟩ | ⟨p0, p1, q, r⟩ <;> rcases hy with ⟨u0, v, w⟩ | ⟨u0, u1, v, w⟩ | ⟨u0, u1, v, w⟩ <;> first | (exfalso; omega) | skip
  · rw [w, r]; exact ⟨by omega, hC, rfl⟩
  · rw [w, r]; exact ⟨by omega, hC, rfl⟩
  · have A := A_skier (m := m) (m2 := m2) (s := s) (s' := upi (upi s (64 + s 1) a) 1 (s 1 + 1)) (cl := cl) (a := a) h1.1 h1.2.1 h1.2.2.1 h2.2.2.1 p1 p0 (fun y hy => by rw [upi_n (by omega), upi_n (by omega)]) (fun x hx => by rw [w, upC_n (by omega), r, up2_c (by omega), up2_c (by omega)]) (upi_s _ _ _) (by rw [upi_n (by omega), upi_s]) (by rw [w, upC_n (by decide), r, up2_s]) (fun y hy => by rw [w, upC_n (by decide), r, up2_k hy, up2_c (by decide)]) (by rw [w, upC_n (by decide), r, up2_c (by decide), up2_s]) (fun i hi => by rw [w, upC_n (by decide), r, up2_c (by decide), up2_k hi])
    have fin := Cpl_put2 (m2 := m2) h1 h2 h3 h4 (fun x hx hx2 => by rw [w, upC_n hx2, r, up2_c (by omega), up2_c (by omega)]) (by rw [w, upC_s]) A
    exact ⟨by omega, fin.1, fin.2⟩
theorem J_skill (d z : Nat) (m : XM) (g n : Int) (hd : 25 ≤ d) (hC : Cpl m) : JI d z k_Fg_skill k_Mo_skill m [vR 32, vI g, vI n] [vR 121, vI g, vI n] := by
  have hC' := hC
  obtain ⟨s, cl, h1, h2, h3, h4⟩ := hC'
  refine (c_Fg_skill d z m s cl g n (by omega) h1).imp fun x m1 hx => ?_
  have e122 : m1 122 = s := by
    rcases hx with ⟨_, _, q⟩ | ⟨_, _, _, q⟩ | ⟨_, _, _, q⟩ | ⟨_, _, _, q⟩
    · rw [q]; exact h2.1
    · rw [q]; exact h2.1
    · rw [q]; exact h2.1
    · rw [q, up2_c (by decide)]; exact h2.1
  refine (c_Mo_skill d z m1 g n (by omega) (by rw [e122]; exact h1.1)).imp fun y m2 hy => ?_
  rw [e122] at hy
  rcases hx with ⟨p0, q, r⟩ | ⟨p0, p1, q, r⟩ | ⟨p0, p1, q, r⟩ | ⟨p0, p1, q, r⟩ <;> rcases hy with ⟨u0, v, w⟩ | ⟨u0, u1, v, w⟩ | ⟨u0, u1, v, w⟩ | ⟨u0, u1, v, w⟩ <;> first | (exfalso; omega) | skip
  · rw [w, r]; exact ⟨by omega, hC, rfl⟩
  · rw [w, r]; exact ⟨by omega, hC, rfl⟩
  · have b0 := h1.1.1.2.1
    have hg := p0.1
    have hg2 := p0.2
    have eq : m 40 g = s (64 + g) := h1.2.1.2.2.1.2.2.2 g hg (by omega)
    rw [w, r]; exact ⟨by rw [q, eq, v], hC, rfl⟩
  · have b0 := h1.1.1.2.1
    have hg := p0.1
    have hg2 := p0.2
    have eq : m 40 g = s (64 + g) := h1.2.1.2.2.1.2.2.2 g hg (by omega)
    have A := A_skill (m := m) (m2 := m2) (s := s) (s' := upi s (64 + g) n) (cl := cl) (p0 := g) (a := n) h1.1 h1.2.1 h1.2.2.1 h2.2.2.1 ⟨hg, by omega⟩ p1 (fun y hy => by rw [upi_n (by omega)]) (fun x hx => by rw [w, upC_n (by omega), r, up2_c (by omega)]) (upi_s _ _ _) (by rw [w, upC_n (by decide), r, up2_s]) (fun i hi => by rw [w, upC_n (by decide), r, up2_k hi])
    have fin := Cpl_put2 (m2 := m2) h1 h2 h3 h4 (fun x hx hx2 => by rw [w, upC_n hx2, r, up2_c (by omega)]) (by rw [w, upC_s]) A
    exact ⟨by rw [q, eq, v], fin.1, fin.2⟩
theorem J_see (d z : Nat) (m : XM) (g t : Int) (hd : 25 ≤ d) (hC : Cpl m) : JI d z k_Fg_see k_Mo_see m [vR 32, vI g, vI t] [vR 121, vI g, vI t] := by
  have hC' := hC
  obtain ⟨s, cl, h1, h2, h3, h4⟩ := hC'
  refine (c_Fg_see d z m s cl g t (by omega) h1).imp fun x m1 hx => ?_
  have e122 : m1 122 = s := by
    rcases hx with ⟨_, _, q⟩ | ⟨_, _, _, q⟩ | ⟨_, _, _, q⟩ | ⟨_, _, _, _, q⟩ | ⟨_, _, _, _, q⟩
    · rw [q, up2_c (by decide)]; exact h2.1
    · rw [q]; exact h2.1
    · rw [q]; exact h2.1
    · rw [q]; exact h2.1
    · rw [q, up2_c (by decide), up2_c (by decide), up2_c (by decide)]; exact h2.1
  refine (c_Mo_see d z m1 g t (by omega) (by rw [e122]; exact h1.1)).imp fun y m2 hy => ?_
  rw [e122] at hy
  rcases hx with ⟨p0, q, r⟩ | ⟨p0, p1, q, r⟩ | ⟨p0, p1, q, r⟩ | ⟨p0, p1, p2, q, r⟩ | ⟨p0, p1, p2, q, r⟩ <;> rcases hy with ⟨u0, v, w⟩ | ⟨u0, u1, v, w⟩ | ⟨u0, u1, v, w⟩ | ⟨u0, u1, u2, v, w⟩ | ⟨u0, u1, u2, v, w⟩ <;> first | (exfalso; omega) | skip
  · have A := A_see0 (m := m) (m2 := m2) (s := s) (s' := upi s 3 0) (cl := cl)  h1.1 h1.2.1 h1.2.2.1 h2.2.2.1  (fun y hy => by rw [upi_n (by omega)]) (fun x hx => by rw [w, upC_n (by omega), r, up2_c (by omega)]) (upi_s _ _ _) (by rw [w, upC_n (by decide), r, up2_s])
    have fin := Cpl_put2 (m2 := m2) h1 h2 h3 h4 (fun x hx hx2 => by rw [w, upC_n hx2, r, up2_c (by omega)]) (by rw [w, upC_s]) A
    exact ⟨by omega, fin.1, fin.2⟩
  · rw [w, r]; exact ⟨by omega, hC, rfl⟩
  · rw [w, r]; exact ⟨by omega, hC, rfl⟩
  · rw [w, r]; exact ⟨by omega, hC, rfl⟩
  · have bb := h1.1.1
    have A := A_see1 (m := m) (m2 := m2) (s := s) (s' := upi (upi (upi s (69 + s 3) g) (76 + s 3) t) 3 (s 3 + 1)) (cl := cl) (g := g) (t := t) h1.1 h1.2.1 h1.2.2.1 h2.2.2.1 p2 p0 p1 (fun y hy => by rw [upi_n (by omega), upi_n (by omega), upi_n (by omega)]) (fun x hx => by rw [w, upC_n (by omega), r, up2_c (by omega), up2_c (by omega), up2_c (by omega)]) (upi_s _ _ _) (by rw [upi_n (by omega), upi_n (by omega), upi_s]) (by rw [upi_n (by omega), upi_s]) (by rw [w, upC_n (by decide), r, up2_s]) (⟨by rw [w, upC_n (by decide), r, up2_c (by decide), up2_c (by decide), up2_s], by rw [w, upC_n (by decide), r, up2_c (by decide), up2_s]⟩) (fun i hi => ⟨by rw [w, upC_n (by decide), r, up2_c (by decide), up2_c (by decide), up2_k hi], by rw [w, upC_n (by decide), r, up2_c (by decide), up2_k hi, up2_c (by decide)]⟩)
    have fin := Cpl_put2 (m2 := m2) h1 h2 h3 h4 (fun x hx hx2 => by rw [w, upC_n hx2, r, up2_c (by omega), up2_c (by omega), up2_c (by omega)]) (by rw [w, upC_s]) A
    exact ⟨by omega, fin.1, fin.2⟩
theorem J_book (d z : Nat) (m : XM) (g t : Int) (hd : 25 ≤ d) (hC : Cpl m) : JI d z k_Fg_book k_Mo_book m [vR 32, vI g, vI t] [vR 121, vI g, vI t] := by
  have hC' := hC
  obtain ⟨s, cl, h1, h2, h3, h4⟩ := hC'
  refine (c_Fg_book d z m s cl g t (by omega) h1).imp fun x m1 hx => ?_
  have e122 : m1 122 = s := by
    rcases hx with ⟨_, _, q⟩ | ⟨_, _, _, q⟩ | ⟨_, _, _, q⟩ | ⟨_, _, _, _, q⟩ | ⟨_, _, _, _, q⟩
    · rw [q, up2_c (by decide)]; exact h2.1
    · rw [q]; exact h2.1
    · rw [q]; exact h2.1
    · rw [q]; exact h2.1
    · rw [q, up2_c (by decide), up2_c (by decide), up2_c (by decide)]; exact h2.1
  refine (c_Mo_book d z m1 g t (by omega) (by rw [e122]; exact h1.1)).imp fun y m2 hy => ?_
  rw [e122] at hy
  rcases hx with ⟨p0, q, r⟩ | ⟨p0, p1, q, r⟩ | ⟨p0, p1, q, r⟩ | ⟨p0, p1, p2, q, r⟩ | ⟨p0, p1, p2, q, r⟩ <;> rcases hy with ⟨u0, v, w⟩ | ⟨u0, u1, v, w⟩ | ⟨u0, u1, v, w⟩ | ⟨u0, u1, u2, v, w⟩ | ⟨u0, u1, u2, v, w⟩ <;> first | (exfalso; omega) | skip
  · have A := A_book0 (m := m) (m2 := m2) (s := s) (s' := upi s 4 0) (cl := cl)  h1.1 h1.2.1 h1.2.2.1 h2.2.2.1  (fun y hy => by rw [upi_n (by omega)]) (fun x hx => by rw [w, upC_n (by omega), r, up2_c (by omega)]) (upi_s _ _ _) (by rw [w, upC_n (by decide), r, up2_s])
    have fin := Cpl_put2 (m2 := m2) h1 h2 h3 h4 (fun x hx hx2 => by rw [w, upC_n hx2, r, up2_c (by omega)]) (by rw [w, upC_s]) A
    exact ⟨by omega, fin.1, fin.2⟩
  · rw [w, r]; exact ⟨by omega, hC, rfl⟩
  · rw [w, r]; exact ⟨by omega, hC, rfl⟩
  · rw [w, r]; exact ⟨by omega, hC, rfl⟩
  · have bb := h1.1.1
    have A := A_book1 (m := m) (m2 := m2) (s := s) (s' := upi (upi (upi s (83 + s 4) g) (91 + s 4) t) 4 (s 4 + 1)) (cl := cl) (g := g) (t := t) h1.1 h1.2.1 h1.2.2.1 h2.2.2.1 p2 p0 p1 (fun y hy => by rw [upi_n (by omega), upi_n (by omega), upi_n (by omega)]) (fun x hx => by rw [w, upC_n (by omega), r, up2_c (by omega), up2_c (by omega), up2_c (by omega)]) (upi_s _ _ _) (by rw [upi_n (by omega), upi_n (by omega), upi_s]) (by rw [upi_n (by omega), upi_s]) (by rw [w, upC_n (by decide), r, up2_s]) (⟨by rw [w, upC_n (by decide), r, up2_c (by decide), up2_c (by decide), up2_s], by rw [w, upC_n (by decide), r, up2_c (by decide), up2_s]⟩) (fun i hi => ⟨by rw [w, upC_n (by decide), r, up2_c (by decide), up2_c (by decide), up2_k hi], by rw [w, upC_n (by decide), r, up2_c (by decide), up2_k hi, up2_c (by decide)]⟩)
    have fin := Cpl_put2 (m2 := m2) h1 h2 h3 h4 (fun x hx hx2 => by rw [w, upC_n hx2, r, up2_c (by omega), up2_c (by omega), up2_c (by omega)]) (by rw [w, upC_s]) A
    exact ⟨by omega, fin.1, fin.2⟩
theorem J_run (d z : Nat) (m : XM) (k : Int) (hd : 25 ≤ d) (hC : Cpl m) : JI d z k_Fg_run k_Mo_run m [vR 32, vI k] [vR 121, vI k] := by
  have hC' := hC
  obtain ⟨s, cl, h1, h2, h3, h4⟩ := hC'
  have r7 := CpM_7 h2
  refine (c_Fg_run d z m s cl k (by omega) h1).imp fun x m1 hx => ?_
  have hM1 : CpM m1 s cl := by
    rcases hx with ⟨_, _, q⟩ | ⟨_, _, _, q⟩ | ⟨_, _, _, m0, kc, q⟩ <;> rw [q]
    · exact h2
    · exact h2
    · have := CpM_C kc h2
      exact ⟨by rw [up2_c (by decide)]; exact this.1, this.2.1, this.2.2.1, by rw [up2_c (by decide)]; exact this.2.2.2⟩
  refine (c_Mo_run d z m1 s cl k (by omega) hM1).imp fun y m2 hy => ?_
  rcases hx with ⟨p0, q, r⟩ | ⟨p0, p1, q, r⟩ | ⟨p0, p1, q, m0, kc, r⟩ <;> rcases hy with ⟨u0, v, w⟩ | ⟨u0, u1, v, w⟩ | ⟨u0, u1, v, m3, km, w⟩ <;> first | (exfalso; omega) | skip
  · rw [w, r]; exact ⟨by omega, hC, rfl⟩
  · rw [w, r]; exact ⟨by omega, hC, rfl⟩
  · have f : ∀ x, x ≠ 33 → ¬ (85 ≤ x ∧ x ≤ 117) → x ≠ 48 → x ≠ 120 → x ≠ 121 → ¬ (124 ≤ x ∧ x ≤ 139) → x ≠ 122 → m2 x = m x := fun x a b c d e g h => by
      rw [w, up2_c h, km.1 x e g, r, up2_c a, kc.1 x b c d]
    have e33 : ∀ y, y ≠ 3 → m2 33 y = m 33 y := fun y hy => by rw [w, up2_c (by decide), km.1 33 (by decide) (by decide), r, up2_k hy, kc.1 33 (by decide) (by decide) (by decide)]
    have e33s : m2 33 3 = s 7 + 1 := by rw [w, up2_c (by decide), km.1 33 (by decide) (by decide), r, up2_s]
    have e121 : ∀ y, (y = 3 ∨ y = 16 ∨ y = 43) → m2 121 y = m 121 y := fun y hy => by
      rw [w, up2_c (by decide)]
      have e : m1 121 = m 121 := by rw [r, up2_c (by decide), kc.1 121 (by decide) (by decide) (by decide)]
      rcases hy with h | h | h <;> rw [h]
      · rw [km.2.1, e]
      · rw [km.2.2.2.1, e]
      · rw [km.2.2.2.2, e]
    have hx : m3 122 = s := (CpM_K km hM1).1
    have e122 : m2 122 = upi s 7 (s 7 + 1) := by rw [w, up2_C, upC_s, hx]
    have A := A_runs (m := m) (m2 := m2) (s := s) (s' := upi s 7 (s 7 + 1)) (cl := cl) (n := s 7 + 1) h1.1 h1.2.1 h1.2.2.1 h2.2.2.1 (by omega) (fun y hy => by rw [upi_n hy]) (fun x hx => f x (by omega) (by omega) (by omega) (by omega) (by omega) (by omega) (by omega)) (upi_s _ _ _) e33s e33
    obtain ⟨a1, a2, a3, a4⟩ := A
    refine ⟨by rw [q, v], Cpl_put h3 h4 (fun x hx => f x (by omega) (by omega) (by omega) (by omega) (by omega) (by omega) (by omega)) (e121 3 (by omega)) (e121 43 (by omega)) (by rw [e121 16 (by omega)]; exact h2.2.2.2) ?_ ?_ a1 a2 a3 e122 a4, f 1 (by decide) (by decide) (by decide) (by decide) (by decide) (by decide) (by decide)⟩
    · rw [w, up2_c (by decide), km.1 90 (by decide) (by decide), r, up2_c (by decide), kc.2.1]; exact h1.2.2.2.1
    · rw [w, up2_c (by decide), km.1 103 (by decide) (by decide), r, up2_c (by decide), kc.2.2]; exact h1.2.2.2.2
theorem c_Fg_image (d z : Nat) (m : XM) (s : Int → Int) (cl : CLs) (hd : 3 ≤ d) (hC : CpC m s cl) : CI d k_Fg_image z m [vR 32] (fun x m' => x = s 0 ∧ (∀ x, ¬ (55 ≤ x ∧ x ≤ 76) → x ≠ 32 → m' x = m x) ∧ m' 32 2 = 1 ∧ RepB m' s 55 ∧ ClB m' 55 cl) := by
  obtain ⟨e, rfl⟩ : ∃ e, d = e + 1 := ⟨d - 1, by omega⟩
  have e0 : m 34 0 = s 0 := hC.2.1.1.1
  refine r_entry mx100 rfl ?_
  refine r_loadA a100_0 rfl (by decide) ?_
  refine r_getR a100_1 ty32 rf32_1 (by decide) ?_
  refine r_loadA a100_4 rfl (by decide) ?_
  refine r_getR a100_5 ty32 rf32_0 (by decide) ?_
  refine r_callV_2 a100_8 (Nat.le_of_ble_eq_true rfl) (le_mx mx15 (Nat.le_of_ble_eq_true rfl)) (Or.inr (recv_ok ty55 ow15 (by decide))) (c_Hi_copyFrom_55 e z m s cl (by omega) hC.1 hC.2.1 hC.2.2.1) (fun m_8 h_8 => ?_)
  obtain ⟨g1, g2, g3⟩ := h_8
  refine r_loadA a100_11 rfl (by decide) ?_
  refine r_pushI a100_12 ?_
  refine r_putZ (ki := 2) a100_13 ty32 rfl (by omega) ?_
  refine r_loadA a100_16 rfl (by decide) ?_
  refine r_getR a100_17 ty32 rf32_0 (by decide) ?_
  refine r_getR a100_20 ty33 rf33_0 (by decide) ?_
  refine r_getI (ki := 0) a100_23 ty34 rfl ?_
  rw [up2_c (by decide), g1 34 (by decide), e0]
  refine r_retIq a100_26 ?_
  refine ⟨rfl, fun x a b => by rw [up2_c b, g1 x (by omega)], by rw [up2_s], RepB_cong (fun x a b c => up2_c (by omega)) g2, ClB_cong (fun x a b => up2_c (by omega)) g3⟩
theorem c_Fg_undo0 (d z : Nat) (m : XM) (h : m 32 2 = 0) : CI d k_Fg_undo z m [vR 32] (fun x m' => x = -3 ∧ m' = m) := by
  refine r_entry mx101 rfl ?_
  refine r_loadA a101_0 rfl (by decide) ?_
  refine r_getI (ki := 2) a101_1 ty32 rfl ?_
  rw [h]
  refine r_ifne a101_4 (fun h_4 => ?_) (fun h_4 => ?_)
  · exfalso
    omega
  · refine r_pushI a101_7 ?_
    refine r_retIq a101_9 ?_
    exact ⟨rfl, rfl⟩
theorem c_Fg_undo1 (d z : Nat) (m : XM) (s : Int → Int) (cl : CLs) (hd : 3 ≤ d) (h : m 32 2 = 1) (hS : okS s) (hR : RepB m s 55) (hC : ClB m 55 cl) : CI d k_Fg_undo z m [vR 32] (fun x m' => x = s 0 ∧ (∀ x, ¬ (33 ≤ x ∧ x ≤ 54) → m' x = m x) ∧ RepB m' s 33 ∧ ClB m' 33 cl) := by
  obtain ⟨e, rfl⟩ : ∃ e, d = e + 1 := ⟨d - 1, by omega⟩
  refine r_entry mx101 rfl ?_
  refine r_loadA a101_0 rfl (by decide) ?_
  refine r_getI (ki := 2) a101_1 ty32 rfl ?_
  rw [h]
  refine r_ifne a101_4 (fun h_4 => ?_) (fun h_4 => ?_)
  · refine r_loadA a101_10 rfl (by decide) ?_
    refine r_getR a101_11 ty32 rf32_0 (by decide) ?_
    refine r_loadA a101_14 rfl (by decide) ?_
    refine r_getR a101_15 ty32 rf32_1 (by decide) ?_
    refine r_callV_2 a101_18 (Nat.le_of_ble_eq_true rfl) (le_mx mx15 (Nat.le_of_ble_eq_true rfl)) (Or.inr (recv_ok ty33 ow15 (by decide))) (c_Hi_copyFrom_33 e z m s cl (by omega) hS hR hC) (fun m_18 h_18 => ?_)
    obtain ⟨g1, g2, g3⟩ := h_18
    have e0 : m_18 34 0 = s 0 := g2.1.1
    refine r_loadA a101_21 rfl (by decide) ?_
    refine r_getR a101_22 ty32 rf32_0 (by decide) ?_
    refine r_getR a101_25 ty33 rf33_0 (by decide) ?_
    refine r_getI (ki := 0) a101_28 ty34 rfl ?_
    rw [e0]
    refine r_retIq a101_31 ?_
    exact ⟨rfl, g1, g2, g3⟩
  · exfalso
    omega
theorem okS_c {s s' : Int → Int} (h : ∀ y, 0 ≤ y → y < 914 → s' y = s y) (hS : okS s) : okS s' := by
  unfold okS
  rw [h 0 (by omega) (by omega), h 1 (by omega) (by omega), h 2 (by omega) (by omega), h 3 (by omega) (by omega), h 4 (by omega) (by omega), h 5 (by omega) (by omega), h 6 (by omega) (by omega), h 7 (by omega) (by omega)]
  refine ⟨hS.1, fun g a b => ?_, fun k a b => ?_, fun p a b => ?_, fun k a b => ?_, fun k a b => ?_, fun i a b => ?_, fun q a b => ?_⟩
  · rw [h (8 + g) (by omega) (by omega), h (15 + g) (by omega) (by omega), h (22 + g) (by omega) (by omega), h (29 + g) (by omega) (by omega)]; exact hS.2.1 g a b
  · rw [h (36 + k) (by omega) (by omega)]; exact hS.2.2.1 k a b
  · rw [h (64 + p) (by omega) (by omega)]; exact hS.2.2.2.1 p a b
  · rw [h (69 + k) (by omega) (by omega), h (76 + k) (by omega) (by omega)]; exact hS.2.2.2.2.1 k a b
  · rw [h (83 + k) (by omega) (by omega), h (91 + k) (by omega) (by omega)]; exact hS.2.2.2.2.2.1 k a b
  · rw [h (99 + i) (by omega) (by omega)]; exact hS.2.2.2.2.2.2.1 i a b
  · rw [h (199 + q) (by omega) (by omega), h (204 + q) (by omega) (by omega), h (209 + q) (by omega) (by omega)]; exact hS.2.2.2.2.2.2.2 q a b
theorem rt_c2 {s s' : Int → Int} (h : ∀ y, 0 ≤ y → y < 914 → s' y = s y) (hS : okS s) : rutS s' = rutS s ∧ fogS s' = fogS s := by
  have h2 := hS.1.2.2.1
  have h62 := hS.1.2.2.2.2.2.2.1
  unfold rutS fogS
  rw [h 6 (by omega) (by omega)]
  by_cases q : s 6 = -1
  · rw [if_pos q, if_pos q, if_pos q, if_pos q]; exact ⟨rfl, rfl⟩
  · rw [if_neg q, if_neg q, if_neg q, if_neg q, h _ (by omega) (by omega), h _ (by omega) (by omega)]; exact ⟨rfl, rfl⟩
theorem RepB_sc {m : XM} {s s' : Int → Int} {b : Nat} (h : ∀ y, 0 ≤ y → y < 914 → s' y = s y) (hS : okS s) (hR : RepB m s b) : RepB m s' b := by
  have hrt := rt_c2 h hS
  unfold RepB
  rw [h 0 (by omega) (by omega), h 1 (by omega) (by omega), h 2 (by omega) (by omega), h 3 (by omega) (by omega), h 4 (by omega) (by omega), h 5 (by omega) (by omega), h 7 (by omega) (by omega), hrt.1, hrt.2]
  refine ⟨⟨hR.1.1, fun g a b => ?_⟩, fun k a b => ?_, ⟨hR.2.2.1.1, hR.2.2.1.2.1, hR.2.2.1.2.2.1, fun p a b => ?_⟩, ⟨hR.2.2.2.1.1, fun i a b => ?_⟩, hR.2.2.2.2.1, ⟨hR.2.2.2.2.2.1.1, fun k a b => ?_⟩, hR.2.2.2.2.2.2.1, fun k a b => ?_⟩
  · rw [h (8 + g) (by omega) (by omega), h (15 + g) (by omega) (by omega), h (22 + g) (by omega) (by omega), h (29 + g) (by omega) (by omega)]; exact hR.1.2 g a b
  · rw [h (36 + k) (by omega) (by omega)]; exact hR.2.1 k a b
  · rw [h (64 + p) (by omega) (by omega)]; exact hR.2.2.1.2.2.2 p a b
  · rw [h (99 + i) (by omega) (by omega)]; exact hR.2.2.2.1.2 i a b
  · rw [h (69 + k) (by omega) (by omega), h (76 + k) (by omega) (by omega)]; exact hR.2.2.2.2.2.1.2 k a b
  · rw [h (83 + k) (by omega) (by omega), h (91 + k) (by omega) (by omega)]; exact hR.2.2.2.2.2.2.2 k a b
theorem ClS_sc {s s' : Int → Int} {cl : CLs} (h : ∀ y, 0 ≤ y → y < 914 → s' y = s y) (hS : okS s) (hC : ClS s cl) : ClS s' cl := by
  have h2 := hS.1.2.2.1
  have h62 := hS.1.2.2.2.2.2.2.1
  obtain ⟨h1, hh⟩ := hC
  refine ⟨?_, hh⟩
  rw [h 6 (by omega) (by omega)]
  rcases h1 with q | ⟨q1, q2, q3⟩
  · exact Or.inl q
  · have hl := (hS.2.2.2.2.2.2.2 (s 6) q1 (by omega)).2.2
    exact Or.inr ⟨q1, by rw [h _ (by omega) (by omega)]; exact q2, Seg_le q3 (fun i a b => h i (by omega) (by omega))⟩
theorem J_image (d z : Nat) (m : XM) (hd : 25 ≤ d) (hC : Cpl m) : JI d z k_Fg_image k_Mo_image m [vR 32] [vR 121] := by
  have hC' := hC
  obtain ⟨s, cl, h1, h2, h3, h4⟩ := hC'
  refine (c_Fg_image d z m s cl (by omega) h1).imp fun x m1 ⟨hx, f, e32, r, c⟩ => ?_
  have e122 : m1 122 = s := by rw [f 122 (by decide) (by decide)]; exact h2.1
  refine (c_Mo_image d z m1).imp fun y m2 ⟨hy, hm⟩ => ?_
  rw [e122] at hy hm
  have g : ∀ x, ¬ (55 ≤ x ∧ x ≤ 76) → x ≠ 32 → x ≠ 121 → x ≠ 123 → m2 x = m x := fun x a b c d => by rw [hm, upC_n c, upC_n d, f x a b]
  have g2 : ∀ x, 55 ≤ x → x ≤ 76 → m2 x = m1 x := fun x a b => by rw [hm, upC_n (by omega), upC_n (by omega)]
  have e121 : m2 121 = upi (m 121) 3 1 := by rw [hm, upC_s, f 121 (by decide) (by decide)]
  have e123 : m2 123 = fun j => if 0 ≤ j ∧ j < 914 then s j else m1 123 j := by rw [hm, upC_n (by decide), upC_s]
  have ag : ∀ y, 0 ≤ y → y < 914 → m2 123 y = s y := fun y a b => by rw [e123]; show (if _ then _ else _) = _; rw [if_pos ⟨a, b⟩]
  refine ⟨by rw [hx, hy], ⟨s, cl, ⟨h1.1, RepB_cong (fun x a b _ => g x (by omega) (by omega) (by omega) (by omega)) h1.2.1, ClB_cong (fun x a b => g x (by omega) (by omega) (by omega) (by omega)) h1.2.2.1, by rw [g 90 (by decide) (by decide) (by decide) (by decide)]; exact h1.2.2.2.1, by rw [g 103 (by decide) (by decide) (by decide) (by decide)]; exact h1.2.2.2.2⟩,
    ⟨by rw [g 122 (by decide) (by decide) (by decide) (by decide)]; exact h2.1, h2.2.1, h2.2.2.1, by rw [e121, upi_n (by decide)]; exact h2.2.2.2⟩, ⟨?_, ?_, fun _ => ⟨cl, okS_c ag h1.1, RepB_sc ag h1.1 (RepB_cong (fun x a b _ => g2 x a (by omega)) r), ClB_cong (fun x a b => g2 x (by omega) (by omega)) c, ClS_sc ag h1.1 h2.2.2.1⟩⟩, ActOk_c ?_ ?_ (g 119 (by decide) (by decide) (by decide) (by decide)) (g 140 (by decide) (by decide) (by decide) (by decide)) h4⟩, g 1 (by decide) (by decide) (by decide) (by decide)⟩
  · rw [e121, upi_s, hm, upC_n (by decide), upC_n (by decide)]; exact e32
  · rw [e121, upi_s]; exact Or.inr rfl
  · rw [g 118 (by decide) (by decide) (by decide) (by decide)]
  · rw [e121, upi_n (by decide)]
theorem J_undo (d z : Nat) (m : XM) (hd : 25 ≤ d) (hC : Cpl m) : JI d z k_Fg_undo k_Mo_undo m [vR 32] [vR 121] := by
  have hC' := hC
  obtain ⟨s, cl, h1, h2, ⟨i1, i2, i3⟩, h4⟩ := hC'
  rcases i2 with q | q
  · refine (c_Fg_undo0 d z m (by rw [i1]; exact q)).imp fun x m1 ⟨a, b⟩ => ?_
    rw [b]
    refine (c_Mo_undo d z m).imp fun y m2 hy => ?_
    rcases hy with ⟨_, u, v⟩ | ⟨u, _⟩
    · rw [v]; exact ⟨by rw [a, u], hC, rfl⟩
    · exact absurd q u
  · obtain ⟨cl', c1, c2, c3, c4⟩ := i3 q
    refine (c_Fg_undo1 d z m (m 123) cl' (by omega) (by rw [i1]; exact q) c1 c2 c3).imp fun x m1 ⟨hx, f, r, c⟩ => ?_
    refine (c_Mo_undo d z m1).imp fun y m2 hy => ?_
    rw [f 121 (by decide), f 123 (by decide), f 122 (by decide)] at hy
    rcases hy with ⟨u, _⟩ | ⟨_, hy, hm⟩
    · exfalso; omega
    · have g : ∀ x, ¬ (33 ≤ x ∧ x ≤ 54) → x ≠ 122 → m2 x = m x := fun x a b => by rw [hm, upC_n b, f x a]
      have g2 : ∀ x, 33 ≤ x → x ≤ 54 → m2 x = m1 x := fun x a b => by rw [hm, upC_n (by omega)]
      have e122 : m2 122 = fun j => if 0 ≤ j ∧ j < 914 then m 123 j else m 122 j := by rw [hm, upC_s]
      have ag : ∀ y, 0 ≤ y → y < 914 → m2 122 y = m 123 y := fun y a b => by rw [e122]; show (if _ then _ else _) = _; rw [if_pos ⟨a, b⟩]
      have fin := Cpl_put2 (m2 := m2) (s' := m2 122) (cl' := cl') h1 h2 ⟨i1, Or.inr q, i3⟩ h4 (fun x a b => g x a b) rfl ⟨okS_c ag c1, RepB_sc ag c1 (RepB_cong (fun x a b _ => g2 x (by omega) (by omega)) r), ClB_cong (fun x a b => g2 x (by omega) (by omega)) c, ClS_sc ag c1 c4⟩
      exact ⟨by rw [hx, hy], fin.1, fin.2⟩
