-- ===== the reference reads: a factor =====
theorem mS_7p (m : XM) (w w' p : Int) : up2 (mS m w p) 121 7 w' = mS m w' p := by
  unfold mS
  rw [up2_sw (up2 m 121 7 w) 121 (show (5 : Int) ≠ 7 by decide), up2_up2]
theorem MoR_mS_fail (m : XM) (A p : Int) (hc : m 122 (209 + A) ≤ p) : MoR m (mS m 1 p) A (p, none) := ⟨MoF_mS m 1 p A, mS_5 m 1 p, by rw [mS_c (by decide)]; exact hc, Or.inr ⟨rfl, mS_7 m 1 p⟩⟩
theorem c_Mo_test (d z : Nat) (m : XM) (f : Int → Int) (E A c p : Int) (hd : 6 ≤ d) (hP : MoP m f E A) (hp5 : m 121 5 = p) (y2 y3 y4 : XV) :
    RZ d k_Mo_factor 112 [vR 121, vI c, y2, y3, y4] [] (zH z m) (qz z (qv fun m' => MoR m m' A (pTest f E p))) := by
  obtain ⟨e, rfl⟩ : ∃ e, d = e + 1 := ⟨d - 1, by omega⟩
  obtain ⟨hS, h7, hc1, hc2⟩ := hP
  rw [hp5] at hc2
  have hb := hS.2.1
  have hp := hS.2.2.1
  rw [hp5] at hp
  have hA := hS.2.2.2.2.2.2
  have w1 := ixW_r (atP f E p)
  have w2 := ixH_r (atP f E (p + 1))
  have l1 := @atP_lt f E p
  have l2 := @atP_lt f E (p + 1)
  obtain ⟨R, hR⟩ : ∃ R, pTest f E p = R := ⟨_, rfl⟩
  rw [hR]
  have hpt : (if ixW (atP f E p) = -1 then (p, none) else if ixH (atP f E (p + 1)) = -1 then (p + 1, none) else match pNum f E (p + 2) with
    | some (v, q) => (q, some [ixW (atP f E p) + 8 * ixH (atP f E (p + 1)) + 32 * v])
    | none => (p + 2, none)) = R := hR
  have stB : ∀ (v2 v3 w q : Int) (y4 : XV), p ≤ q → q ≤ E → ((w = 1 ∧ R = (q, none)) ∨ (w = 0 ∧ v2 = ixW (atP f E p) ∧ 0 ≤ v2 ∧ v3 = ixH (atP f E (p + 1)) ∧ 0 ≤ v3 ∧ q = p + 2)) →
      RZ (e + 1) k_Mo_factor 172 [vR 121, vI c, vI v2, vI v3, y4] [] (zH z (mS m w q)) (qz z (qv fun m' => MoR m m' A R)) := by
    intro v2 v3 w q y4 q1 q2 hh
    have hw : w = 0 ∨ w = 1 := by rcases hh with ⟨a, _⟩ | ⟨a, _⟩ <;> omega
    have t173 := c_Mo_figures e z (mS m w q) f E A w q (by omega) (MoS_mS hS (by omega)) (mS_7 m w q) (mS_5 m w q) hw
    have e4 : ∀ w' q', mS m w' q' 121 4 = A := fun w' q' => by rw [mS_k (by decide) (by decide)]; exact hS.2.2.2.2.2.1
    have e122 : ∀ w' q', mS m w' q' 122 = m 122 := fun w' q' => mS_c (by decide)
    have v23 : -1 ≤ v2 ∧ v2 ≤ 1000 ∧ -1 ≤ v3 ∧ v3 ≤ 1000 ∨ w = 1 := by
      rcases hh with ⟨a, _⟩ | ⟨_, a, b, c, d, _⟩
      · right; exact a
      · left; omega
    rcases hh with ⟨a1, a2⟩ | ⟨a1, a2, a3, a4, a5, a6⟩
    · subst a1
      refine r_loadA a130_172 rfl (by decide) ?_
      refine r_callI_1 a130_173 (Nat.le_of_ble_eq_true rfl) (le_mx mx127 (Nat.le_of_ble_eq_true rfl)) (Or.inr (recv_ok ty121 ow127 (by decide))) (t173) (fun x_173 m_173 h_173 => ?_)
      have hm : x_173 = 0 ∧ m_173 = mS m 1 q := by
        rcases h_173 with ⟨b1, _⟩ | ⟨_, b2, b3⟩
        · exact absurd b1 (by decide)
        · exact ⟨b2, by rw [b3, mS_mS]⟩
      rw [hm.1, hm.2]
      refine r_storeI_4 a130_176 rfl ?_
      refine r_loadA a130_178 rfl (by decide) ?_
      refine r_loadI a130_179 rfl ?_
      refine r_pushI a130_180 ?_
      refine r_loadI a130_182 rfl ?_
      refine r_mulW a130_183 ?_
      refine r_addW a130_184 ?_
      refine r_pushI a130_185 ?_
      refine r_loadI a130_187 rfl ?_
      refine r_mulW a130_189 ?_
      refine r_addW a130_190 ?_
      refine r_callV_2 a130_191 (Nat.le_of_ble_eq_true rfl) (le_mx mx129 (Nat.le_of_ble_eq_true rfl)) (Or.inr (recv_ok ty121 ow129 (by decide))) (c_Mo_emits e z (mS m 1 q) A _ (e4 1 q) hA (by rw [e122]; omega)) (fun m_191 h_191 => ?_)
      refine r_retVq a130_194 ?_
      rcases h_191 with ⟨b1, _⟩ | ⟨_, b2⟩
      · rw [mS_7] at b1; exact absurd b1 (by decide)
      · rw [b2, a2]; exact MoR_mS_fail m A q (by omega)
    · subst a1
      rw [if_neg (by omega), if_neg (by omega)] at hpt
      refine r_loadA a130_172 rfl (by decide) ?_
      refine r_callI_1 a130_173 (Nat.le_of_ble_eq_true rfl) (le_mx mx127 (Nat.le_of_ble_eq_true rfl)) (Or.inr (recv_ok ty121 ow127 (by decide))) (t173) (fun x_173 m_173 h_173 => ?_)
      have hm : (∃ v q', pNum f E q = some (v, q') ∧ x_173 = v ∧ m_173 = mS m 0 q') ∨ (pNum f E q = none ∧ x_173 = 0 ∧ m_173 = mS m 1 q) := by
        rcases h_173 with ⟨_, v, q', b1, b2, b3⟩ | ⟨b1, b2, b3⟩
        · exact Or.inl ⟨v, q', b1, b2, by rw [b3, mS_mS]⟩
        · rcases b1 with b1 | b1
          · exact absurd b1 (by decide)
          · exact Or.inr ⟨b1, b2, by rw [b3, mS_mS]⟩
      have hxr : 0 ≤ x_173 ∧ x_173 ≤ 99 := by
        rcases hm with ⟨v, q', b1, b2, _⟩ | ⟨_, b2, _⟩
        · have := pNum_r b1; omega
        · omega
      have em4 : m_173 121 4 = A := by rcases hm with ⟨v, q', _, _, b3⟩ | ⟨_, _, b3⟩ <;> rw [b3] <;> exact e4 _ _
      have em122 : m_173 122 = m 122 := by rcases hm with ⟨v, q', _, _, b3⟩ | ⟨_, _, b3⟩ <;> rw [b3] <;> exact e122 _ _
      refine r_storeI_4 a130_176 rfl ?_
      refine r_loadA a130_178 rfl (by decide) ?_
      refine r_loadI a130_179 rfl ?_
      refine r_pushI a130_180 ?_
      refine r_loadI a130_182 rfl ?_
      refine r_mul a130_183 (by omega) ?_
      refine r_add a130_184 (by omega) ?_
      refine r_pushI a130_185 ?_
      refine r_loadI a130_187 rfl ?_
      refine r_mul a130_189 (by omega) ?_
      refine r_add a130_190 (by omega) ?_
      refine r_callV_2 a130_191 (Nat.le_of_ble_eq_true rfl) (le_mx mx129 (Nat.le_of_ble_eq_true rfl)) (Or.inr (recv_ok ty121 ow129 (by decide))) (c_Mo_emits e z m_173 A _ em4 hA (by rw [em122]; omega)) (fun m_191 h_191 => ?_)
      refine r_retVq a130_194 ?_
      rcases hm with ⟨v, q', b1, b2, b3⟩ | ⟨b1, b2, b3⟩
      · have hr := pNum_r b1
        rw [a6] at b1
        rw [b1] at hpt
        have hpt2 : (q', some [ixW (atP f E p) + 8 * ixH (atP f E (p + 1)) + 32 * v]) = R := hpt
        have hm2 : m_191 = mE m_173 A (v2 + 8 * v3 + 32 * x_173) := by
          rcases h_191 with ⟨_, h⟩ | ⟨h, _⟩
          · exact h
          · rw [b3, mS_7] at h; exact absurd rfl h
        have ec : 0 ≤ m_173 122 (209 + A) ∧ m_173 122 (209 + A) < 140 := by rw [em122]; omega
        rw [← hpt2, hm2]
        refine ⟨MoF.trans (by rw [b3]; exact MoF_mS m 0 q' A) (MoF_E m_173 A _ ec), by rw [mE_x (by decide), b3, mS_5], ?_, Or.inl ⟨_, rfl, by rw [mE_x (by decide), b3, mS_7], ?_, ?_⟩⟩
        · rw [mE_c m_173 A _ ec.1, em122]; show _ ≤ q'; omega
        · rw [mE_c m_173 A _ ec.1, em122]; rfl
        · refine ⟨?_, trivial⟩
          rw [← em122, mE_v m_173 A _ hA ec.1, a2, a4, b2]
      · rw [a6] at b1
        rw [b1] at hpt
        have hpt2 : (p + 2, none) = R := hpt
        have hm2 : m_191 = m_173 := by
          rcases h_191 with ⟨h, _⟩ | ⟨_, h⟩
          · rw [b3, mS_7] at h; exact absurd h (by decide)
          · exact h
        rw [← hpt2, hm2, b3, a6]; exact MoR_mS_fail m A (p + 2) (by omega)
  have stA : ∀ (v2 w q : Int) (y3 y4 : XV), ((v2 = -1 ∧ w = 1 ∧ q = p ∧ ixW (atP f E p) = -1) ∨ (v2 = ixW (atP f E p) ∧ 0 ≤ v2 ∧ w = 0 ∧ q = p + 1)) →
      RZ (e + 1) k_Mo_factor 133 [vR 121, vI c, vI v2, y3, y4] [] (zH z (mS m w q)) (qz z (qv fun m' => MoR m m' A R)) := by
    intro v2 w q y3 y4 hh
    rcases hh with ⟨a1, a2, a3, a4⟩ | ⟨a1, a2, a3, a4⟩
    · subst a2
      rw [if_pos a4] at hpt
      refine r_loadA a130_133 rfl (by decide) ?_
      refine r_getI (ki := 7) a130_134 ty121 rfl ?_
      rw [mS_7]
      refine r_ifeq a130_137 (fun h_137 => ?_) (fun h_137 => ?_)
      · exfalso
        omega
      · refine r_pushI a130_140 ?_
        refine r_goto a130_141 ?_
        refine r_storeI_3 a130_150 rfl ?_
        refine r_loadA a130_151 rfl (by decide) ?_
        refine r_loadA a130_152 rfl (by decide) ?_
        refine r_getI (ki := 7) a130_153 ty121 rfl ?_
        rw [mS_7]
        refine r_ifne a130_156 (fun h_156 => ?_) (fun h_156 => ?_)
        · refine r_pushI a130_164 ?_
          refine r_goto a130_165 ?_
          refine r_putZ (ki := 7) a130_169 ty121 rfl (by omega) ?_
          rw [mS_7p]
          exact stB v2 0 1 q _ (by omega) (by omega) (Or.inl ⟨rfl, by rw [← hpt, a3]⟩)
        · exfalso
          omega
    · subst a3
      have hlt := l1 (fun x => by have := w1.2.2 x; omega)
      rw [if_neg (by omega)] at hpt
      have t147 := c_Mo_among_17 e z (mS m 0 q) f E A q (by omega) (MoS_mS hS (by omega)) (mS_7 m 0 q) (mS_5 m 0 q)
      rw [mS_mS, a4] at t147
      rw [a4]
      refine r_loadA a130_133 rfl (by decide) ?_
      refine r_getI (ki := 7) a130_134 ty121 rfl ?_
      rw [mS_7]
      refine r_ifeq a130_137 (fun h_137 => ?_) (fun h_137 => ?_)
      · refine r_loadA a130_144 rfl (by decide) ?_
        refine r_statR a130_145 ?_
        refine r_callI_2 a130_147 (Nat.le_of_ble_eq_true rfl) (le_mx mx128 (Nat.le_of_ble_eq_true rfl)) (Or.inr (recv_ok ty121 ow128 (by decide))) (t147) (fun x_147 m_147 h_147 => ?_)
        obtain ⟨b1, b2⟩ := h_147
        have hm : m_147 121 7 = 0 := by rcases b2 with ⟨_, h⟩ | ⟨_, h⟩ <;> rw [h, mS_7]
        refine r_storeI_3 a130_150 rfl ?_
        refine r_loadA a130_151 rfl (by decide) ?_
        refine r_loadA a130_152 rfl (by decide) ?_
        refine r_getI (ki := 7) a130_153 ty121 rfl ?_
        rw [hm]
        refine r_ifne a130_156 (fun h_156 => ?_) (fun h_156 => ?_)
        · exfalso
          omega
        · refine r_loadI a130_159 rfl ?_
          refine r_pushI a130_160 ?_
          refine r_icne a130_161 (fun h_161 => ?_) (fun h_161 => ?_)
          · refine r_pushI a130_168 ?_
            refine r_putZ (ki := 7) a130_169 ty121 rfl (by omega) ?_
            rcases b2 with ⟨b3, b4⟩ | ⟨b3, b4⟩
            · first
                | (exfalso; omega)
                | (have hlt2 := l2 (fun x => by have := w2.2.2 x; omega)
                   rw [b4, mS_7p, show p + 1 + 1 = p + 2 by omega]
                   exact stB v2 x_147 0 (p + 2) _ (by omega) (by omega) (Or.inr ⟨rfl, a1, a2, b1, b3, rfl⟩))
            · first
                | (exfalso; omega)
                | (rw [b4, mS_7p]
                   rw [if_pos (by omega)] at hpt
                   exact stB v2 x_147 1 (p + 1) _ (by omega) (by omega) (Or.inl ⟨rfl, hpt.symm⟩))
          · refine r_pushI a130_164 ?_
            refine r_goto a130_165 ?_
            refine r_putZ (ki := 7) a130_169 ty121 rfl (by omega) ?_
            rcases b2 with ⟨b3, b4⟩ | ⟨b3, b4⟩
            · first
                | (exfalso; omega)
                | (have hlt2 := l2 (fun x => by have := w2.2.2 x; omega)
                   rw [b4, mS_7p, show p + 1 + 1 = p + 2 by omega]
                   exact stB v2 x_147 0 (p + 2) _ (by omega) (by omega) (Or.inr ⟨rfl, a1, a2, b1, b3, rfl⟩))
            · first
                | (exfalso; omega)
                | (rw [b4, mS_7p]
                   rw [if_pos (by omega)] at hpt
                   exact stB v2 x_147 1 (p + 1) _ (by omega) (by omega) (Or.inl ⟨rfl, hpt.symm⟩))
      · exfalso
        omega
  refine r_loadA a130_112 rfl (by decide) ?_
  refine r_statR a130_113 ?_
  refine r_callI_2 a130_115 (Nat.le_of_ble_eq_true rfl) (le_mx mx128 (Nat.le_of_ble_eq_true rfl)) (Or.inr (recv_ok ty121 ow128 (by decide))) (c_Mo_among_16 e z m f E A p (by omega) hS h7 hp5) (fun x_115 m_115 h_115 => ?_)
  obtain ⟨b1, b2⟩ := h_115
  refine r_storeI_2 a130_118 rfl ?_
  refine r_loadA a130_119 rfl (by decide) ?_
  refine r_loadI a130_120 rfl ?_
  refine r_pushI a130_121 ?_
  refine r_icne a130_122 (fun h_122 => ?_) (fun h_122 => ?_)
  · refine r_pushI a130_129 ?_
    refine r_putZ (ki := 7) a130_130 ty121 rfl (by omega) ?_
    rcases b2 with ⟨b3, b4⟩ | ⟨b3, b4⟩
    · first
        | (exfalso; omega)
        | (rw [b4, mS_7p]
           exact stA x_115 0 (p + 1) _ _ (Or.inr ⟨b1, b3, rfl, rfl⟩))
    · first
        | (exfalso; omega)
        | (have em : up2 m_115 121 7 1 = mS m 1 p := by
             rw [b4, ← mS_7p m 0 1 p, mS_id h7 hp5]
           rw [em]
           exact stA x_115 1 p _ _ (Or.inl ⟨b3, rfl, rfl, by omega⟩))
  · refine r_pushI a130_125 ?_
    refine r_goto a130_126 ?_
    refine r_putZ (ki := 7) a130_130 ty121 rfl (by omega) ?_
    rcases b2 with ⟨b3, b4⟩ | ⟨b3, b4⟩
    · first
        | (exfalso; omega)
        | (rw [b4, mS_7p]
           exact stA x_115 0 (p + 1) _ _ (Or.inr ⟨b1, b3, rfl, rfl⟩))
    · first
        | (exfalso; omega)
        | (have em : up2 m_115 121 7 1 = mS m 1 p := by
             rw [b4, ← mS_7p m 0 1 p, mS_id h7 hp5]
           rw [em]
           exact stA x_115 1 p _ _ (Or.inl ⟨b3, rfl, rfl, by omega⟩))
/-- a level is opened -/
def mO (m : XM) (w o p : Int) : XM := up2 (up2 (up2 m 121 7 w) 121 8 o) 121 5 p
theorem mO_c {m : XM} {w o p : Int} {x : Nat} (h : x ≠ 121) : mO m w o p x = m x := by unfold mO; rw [up2_c h, up2_c h, up2_c h]
theorem mO_7 (m : XM) (w o p : Int) : mO m w o p 121 7 = w := by unfold mO; rw [up2_k (by decide), up2_k (by decide), up2_s]
theorem mO_8 (m : XM) (w o p : Int) : mO m w o p 121 8 = o := by unfold mO; rw [up2_k (by decide), up2_s]
theorem mO_5 (m : XM) (w o p : Int) : mO m w o p 121 5 = p := up2_s _ _ _ _
theorem mO_k {m : XM} {w o p y : Int} (h7 : y ≠ 7) (h8 : y ≠ 8) (h5 : y ≠ 5) : mO m w o p 121 y = m 121 y := by unfold mO; rw [up2_k h5, up2_k h8, up2_k h7]
theorem MoF_open {m m3 : XM} {A o w p : Int} {o2 : Int} (h8 : m 121 8 = o) (h : MoF (mO m w o2 p) m3 A) : MoF m (up2 m3 121 8 o) A := by
  obtain ⟨h1, h2, h3, h4⟩ := h
  have e : mO m w o2 p 122 = m 122 := mO_c (by decide)
  rw [e] at h3 h4
  refine ⟨fun x a b => by rw [up2_c a, h1 x a b, mO_c a], fun y a b => ?_, fun y a b => by rw [up2_c (by decide), h3 y a b], by rw [up2_c (by decide)]; exact h4⟩
  by_cases q : y = 8
  · rw [q, up2_s, h8]
  · rw [up2_k q, h2 y a b, mO_k b q a]
theorem MoS_mO {m : XM} {f : Int → Int} {E A w o p : Int} (h : MoS m f E A) (hp : 0 ≤ p ∧ p ≤ E) : MoS (mO m w o p) f E A := by
  obtain ⟨a, b, c, d, e, g, i⟩ := h
  exact ⟨by rw [mO_k (by decide) (by decide) (by decide)]; exact a, b, by rw [mO_5]; exact hp, by rw [mO_c (by decide)]; exact d, e, by rw [mO_k (by decide) (by decide) (by decide)]; exact g, i⟩
theorem cal_factor (f : Int → Int) (E A : Int) : ∀ k : Nat, k ≤ 5 → CalM k_Mo_factor (faP f E k) f E A (5 - (k : Int)) (7 + 3 * k) := by
  intro k
  induction k with
  | zero =>
    intro _ d z m hd hP ho
    have ho5 : m 121 8 = 5 := ho
    obtain ⟨e, rfl⟩ : ∃ e, d = e + 1 := ⟨d - 1, by omega⟩
    obtain ⟨p, hp5⟩ : ∃ p, m 121 5 = p := ⟨_, rfl⟩
    rw [hp5]
    have hS := hP.1
    have hc2 := hP.2.2.2
    rw [hp5] at hc2
    have hp := hS.2.2.1
    rw [hp5] at hp
    have hb := hS.2.1
    have hA := hS.2.2.2.2.2.2
    have ef : faP f E 0 p = if atP f E p = 33 ∨ atP f E p = 40 then (p, none) else pTest f E p := rfl
    rw [ef]
    have t9 := c_Mo_here e z m f E A hS
    rw [hp5] at t9
    have w1 : mO m 1 6 p 121 7 = 1 := mO_7 m 1 6 p
    have fin : ∀ m2 : XM, MoF (mO m 1 6 p) m2 A → m2 121 5 = p → m2 121 7 = 1 → m2 122 = m 122 → MoR m (up2 m2 121 8 5) A (p, none) := fun m2 h1 h2 h3 h4 =>
      ⟨MoF_open ho5 h1, by rw [up2_k (by decide)]; exact h2, by rw [up2_c (by decide), h4]; exact hc2, Or.inr ⟨rfl, by rw [up2_k (by decide)]; exact h3⟩⟩
    refine r_entry mx130 rfl ?_
    refine r_loadA a130_0 rfl (by decide) ?_
    refine r_getI (ki := 7) a130_1 ty121 rfl ?_
    rw [hP.2.1]
    refine r_ifeq a130_4 (fun h_4 => ?_) (fun h_4 => ?_)
    · refine r_loadA a130_8 rfl (by decide) ?_
      refine r_callI_1 a130_9 (Nat.le_of_ble_eq_true rfl) (le_mx mx124 (Nat.le_of_ble_eq_true rfl)) (Or.inr (recv_ok ty121 ow124 (by decide))) (t9) (fun x_9 m_9 h_9 => ?_)
      obtain ⟨hm_9, h_9⟩ := h_9
      rw [hm_9]
      refine r_storeI_1 a130_12 rfl ?_
      refine r_loadI a130_13 rfl ?_
      refine r_pushI a130_14 ?_
      refine r_iceq a130_16 (fun h_16 => ?_) (fun h_16 => ?_)
      · refine r_loadA a130_25 rfl (by decide) ?_
        refine r_loadA a130_26 rfl (by decide) ?_
        refine r_getI (ki := 8) a130_27 ty121 rfl ?_
        refine r_pushI a130_30 ?_
        rw [ho5]
        refine r_icne a130_31 (fun h_31 => ?_) (fun h_31 => ?_)
        · exfalso
          omega
        · refine r_pushI a130_34 ?_
          refine r_goto a130_35 ?_
          refine r_putZ (ki := 7) a130_39 ty121 rfl (by omega) ?_
          refine r_loadA a130_42 rfl (by decide) ?_
          refine r_dup a130_43 rfl ?_
          refine r_getI (ki := 8) a130_44 ty121 rfl ?_
          refine r_pushI a130_47 ?_
          rw [up2_k (by decide), ho5]
          refine r_add a130_48 (by omega) ?_
          refine r_putI (ki := 8) a130_49 ty121 rfl ?_
          refine r_loadA a130_52 rfl (by decide) ?_
          refine r_dup a130_53 rfl ?_
          refine r_getI (ki := 5) a130_54 ty121 rfl ?_
          rw [up2_k (by decide), up2_k (by decide), hp5]
          refine r_loadA a130_57 rfl (by decide) ?_
          refine r_getI (ki := 7) a130_58 ty121 rfl ?_
          rw [up2_k (by decide), up2_s]
          refine r_ifeq a130_61 (fun h_61 => ?_) (fun h_61 => ?_)
          · exfalso
            omega
          · refine r_pushI a130_64 ?_
            refine r_goto a130_65 ?_
            refine r_add a130_69 (by omega) ?_
            refine r_putI (ki := 5) a130_70 ty121 rfl ?_
            have em : up2 (up2 (up2 m 121 7 1) 121 8 (5 + 1)) 121 5 (p + 0) = mO m 1 6 p := by rw [Int.add_zero]; rfl
            rw [em]
            refine r_loadI a130_73 rfl ?_
            refine r_pushI a130_74 ?_
            refine r_icne a130_76 (fun h_76 => ?_) (fun h_76 => ?_)
            · refine r_loadA a130_91 rfl (by decide) ?_
              refine r_callV_1 a130_92 (Nat.le_of_ble_eq_true rfl) (le_mx mx132 (Nat.le_of_ble_eq_true rfl)) (Or.inr (recv_ok ty121 ow132 (by decide))) (wrg_some 1 (wrg_every 0 wrg_factor) e z (mO m 1 6 p) (by omega) w1) (fun m_92 h_92 => ?_)
              rw [h_92]
              refine r_loadA a130_95 rfl (by decide) ?_
              refine r_pushI a130_96 ?_
              refine r_callV_2 a130_98 (Nat.le_of_ble_eq_true rfl) (le_mx mx125 (Nat.le_of_ble_eq_true rfl)) (Or.inr (recv_ok ty121 ow125 (by decide))) (c_Mo_must e z (mO m 1 6 p) f E A 41 1 p (by omega) (MoS_mO hS hp) w1 (mO_5 m 1 6 p) (by omega)) (fun m_98 h_98 => ?_)
              have hm : m_98 = mS (mO m 1 6 p) 1 p := by
                rcases h_98 with ⟨h, _⟩ | ⟨_, h⟩
                · exact absurd h (by decide)
                · exact h
              rw [hm, mS_id w1 (mO_5 m 1 6 p)]
              refine r_loadA a130_101 rfl (by decide) ?_
              refine r_dup a130_102 rfl ?_
              refine r_getI (ki := 8) a130_103 ty121 rfl ?_
              refine r_pushI a130_106 ?_
              rw [mO_8]
              refine r_sub a130_107 (by omega) ?_
              refine r_putI (ki := 8) a130_108 ty121 rfl ?_
              refine r_retVq a130_111 ?_
              rw [if_pos (by omega)]
              exact fin (mO m 1 6 p) (MoF.refl _ _) (mO_5 m 1 6 p) w1 (mO_c (by decide))
            · refine r_loadA a130_79 rfl (by decide) ?_
              refine r_callV_1 a130_80 (Nat.le_of_ble_eq_true rfl) (le_mx mx130 (Nat.le_of_ble_eq_true rfl)) (Or.inr (recv_ok ty121 ow130 (by decide))) (wrg_factor e z (mO m 1 6 p) (by omega) w1) (fun m_80 h_80 => ?_)
              rw [h_80]
              refine r_loadA a130_83 rfl (by decide) ?_
              refine r_pushI a130_84 ?_
              refine r_callV_2 a130_85 (Nat.le_of_ble_eq_true rfl) (le_mx mx129 (Nat.le_of_ble_eq_true rfl)) (Or.inr (recv_ok ty121 ow129 (by decide))) (c_Mo_emits e z (mO m 1 6 p) A (-1) (by rw [mO_k (by decide) (by decide) (by decide)]; exact hS.2.2.2.2.2.1) hA (by rw [mO_c (by decide)]; have := hP.2.2.1; omega)) (fun m_85 h_85 => ?_)
              have hm : m_85 = mO m 1 6 p := by
                rcases h_85 with ⟨h, _⟩ | ⟨_, h⟩
                · rw [w1] at h; exact absurd h (by decide)
                · exact h
              rw [hm]
              refine r_goto a130_88 ?_
              refine r_loadA a130_101 rfl (by decide) ?_
              refine r_dup a130_102 rfl ?_
              refine r_getI (ki := 8) a130_103 ty121 rfl ?_
              refine r_pushI a130_106 ?_
              rw [mO_8]
              refine r_sub a130_107 (by omega) ?_
              refine r_putI (ki := 8) a130_108 ty121 rfl ?_
              refine r_retVq a130_111 ?_
              rw [if_pos (by omega)]
              exact fin (mO m 1 6 p) (MoF.refl _ _) (mO_5 m 1 6 p) w1 (mO_c (by decide))
      · refine r_loadI a130_19 rfl ?_
        refine r_pushI a130_20 ?_
        refine r_icne a130_22 (fun h_22 => ?_) (fun h_22 => ?_)
        · rw [if_neg (by omega)]
          exact c_Mo_test (e + 1) z m f E A _ p (by omega) hP hp5 _ _ _
        · refine r_loadA a130_25 rfl (by decide) ?_
          refine r_loadA a130_26 rfl (by decide) ?_
          refine r_getI (ki := 8) a130_27 ty121 rfl ?_
          refine r_pushI a130_30 ?_
          rw [ho5]
          refine r_icne a130_31 (fun h_31 => ?_) (fun h_31 => ?_)
          · exfalso
            omega
          · refine r_pushI a130_34 ?_
            refine r_goto a130_35 ?_
            refine r_putZ (ki := 7) a130_39 ty121 rfl (by omega) ?_
            refine r_loadA a130_42 rfl (by decide) ?_
            refine r_dup a130_43 rfl ?_
            refine r_getI (ki := 8) a130_44 ty121 rfl ?_
            refine r_pushI a130_47 ?_
            rw [up2_k (by decide), ho5]
            refine r_add a130_48 (by omega) ?_
            refine r_putI (ki := 8) a130_49 ty121 rfl ?_
            refine r_loadA a130_52 rfl (by decide) ?_
            refine r_dup a130_53 rfl ?_
            refine r_getI (ki := 5) a130_54 ty121 rfl ?_
            rw [up2_k (by decide), up2_k (by decide), hp5]
            refine r_loadA a130_57 rfl (by decide) ?_
            refine r_getI (ki := 7) a130_58 ty121 rfl ?_
            rw [up2_k (by decide), up2_s]
            refine r_ifeq a130_61 (fun h_61 => ?_) (fun h_61 => ?_)
            · exfalso
              omega
            · refine r_pushI a130_64 ?_
              refine r_goto a130_65 ?_
              refine r_add a130_69 (by omega) ?_
              refine r_putI (ki := 5) a130_70 ty121 rfl ?_
              have em : up2 (up2 (up2 m 121 7 1) 121 8 (5 + 1)) 121 5 (p + 0) = mO m 1 6 p := by rw [Int.add_zero]; rfl
              rw [em]
              refine r_loadI a130_73 rfl ?_
              refine r_pushI a130_74 ?_
              refine r_icne a130_76 (fun h_76 => ?_) (fun h_76 => ?_)
              · refine r_loadA a130_91 rfl (by decide) ?_
                refine r_callV_1 a130_92 (Nat.le_of_ble_eq_true rfl) (le_mx mx132 (Nat.le_of_ble_eq_true rfl)) (Or.inr (recv_ok ty121 ow132 (by decide))) (wrg_some 1 (wrg_every 0 wrg_factor) e z (mO m 1 6 p) (by omega) w1) (fun m_92 h_92 => ?_)
                rw [h_92]
                refine r_loadA a130_95 rfl (by decide) ?_
                refine r_pushI a130_96 ?_
                refine r_callV_2 a130_98 (Nat.le_of_ble_eq_true rfl) (le_mx mx125 (Nat.le_of_ble_eq_true rfl)) (Or.inr (recv_ok ty121 ow125 (by decide))) (c_Mo_must e z (mO m 1 6 p) f E A 41 1 p (by omega) (MoS_mO hS hp) w1 (mO_5 m 1 6 p) (by omega)) (fun m_98 h_98 => ?_)
                have hm : m_98 = mS (mO m 1 6 p) 1 p := by
                  rcases h_98 with ⟨h, _⟩ | ⟨_, h⟩
                  · exact absurd h (by decide)
                  · exact h
                rw [hm, mS_id w1 (mO_5 m 1 6 p)]
                refine r_loadA a130_101 rfl (by decide) ?_
                refine r_dup a130_102 rfl ?_
                refine r_getI (ki := 8) a130_103 ty121 rfl ?_
                refine r_pushI a130_106 ?_
                rw [mO_8]
                refine r_sub a130_107 (by omega) ?_
                refine r_putI (ki := 8) a130_108 ty121 rfl ?_
                refine r_retVq a130_111 ?_
                rw [if_pos (by omega)]
                exact fin (mO m 1 6 p) (MoF.refl _ _) (mO_5 m 1 6 p) w1 (mO_c (by decide))
              · refine r_loadA a130_79 rfl (by decide) ?_
                refine r_callV_1 a130_80 (Nat.le_of_ble_eq_true rfl) (le_mx mx130 (Nat.le_of_ble_eq_true rfl)) (Or.inr (recv_ok ty121 ow130 (by decide))) (wrg_factor e z (mO m 1 6 p) (by omega) w1) (fun m_80 h_80 => ?_)
                rw [h_80]
                refine r_loadA a130_83 rfl (by decide) ?_
                refine r_pushI a130_84 ?_
                refine r_callV_2 a130_85 (Nat.le_of_ble_eq_true rfl) (le_mx mx129 (Nat.le_of_ble_eq_true rfl)) (Or.inr (recv_ok ty121 ow129 (by decide))) (c_Mo_emits e z (mO m 1 6 p) A (-1) (by rw [mO_k (by decide) (by decide) (by decide)]; exact hS.2.2.2.2.2.1) hA (by rw [mO_c (by decide)]; have := hP.2.2.1; omega)) (fun m_85 h_85 => ?_)
                have hm : m_85 = mO m 1 6 p := by
                  rcases h_85 with ⟨h, _⟩ | ⟨_, h⟩
                  · rw [w1] at h; exact absurd h (by decide)
                  · exact h
                rw [hm]
                refine r_goto a130_88 ?_
                refine r_loadA a130_101 rfl (by decide) ?_
                refine r_dup a130_102 rfl ?_
                refine r_getI (ki := 8) a130_103 ty121 rfl ?_
                refine r_pushI a130_106 ?_
                rw [mO_8]
                refine r_sub a130_107 (by omega) ?_
                refine r_putI (ki := 8) a130_108 ty121 rfl ?_
                refine r_retVq a130_111 ?_
                rw [if_pos (by omega)]
                exact fin (mO m 1 6 p) (MoF.refl _ _) (mO_5 m 1 6 p) w1 (mO_c (by decide))
    · exfalso
      omega
  | succ k ih =>
    intro hk d z m hd hP ho
    have hC := ih (by omega)
    obtain ⟨o, hoo⟩ : ∃ o, 5 - ((k + 1 : Nat) : Int) = o := ⟨_, rfl⟩
    rw [hoo] at ho
    have ho1 : 5 - (k : Int) = o + 1 := by push_cast at hoo; omega
    have ho4 : 0 ≤ o ∧ o ≤ 4 := by push_cast at hoo; omega
    rw [ho1] at hC
    obtain ⟨e, rfl⟩ : ∃ e, d = e + 1 := ⟨d - 1, by omega⟩
    obtain ⟨p, hp5⟩ : ∃ p, m 121 5 = p := ⟨_, rfl⟩
    rw [hp5]
    have hS := hP.1
    have hc1 := hP.2.2.1
    have hc2 := hP.2.2.2
    rw [hp5] at hc2
    have hp := hS.2.2.1
    rw [hp5] at hp
    have hb := hS.2.1
    have hA := hS.2.2.2.2.2.2
    have hlt := @atP_lt f E p
    have ef : faP f E (k + 1) p = if atP f E p = 33 then bnd (faP f E k (p + 1)) (fun q t => (q, some (t ++ [-1])))
      else if atP f E p = 40 then bnd (soP (faP f E k) f E (p + 1)) (fun q t => if atP f E q = 41 then (q + 1, some t) else (q, none))
      else pTest f E p := rfl
    rw [ef]
    have t9 := c_Mo_here e z m f E A hS
    rw [hp5] at t9
    have e8 : mO m 0 (o + 1) (p + 1) 121 8 = o + 1 := mO_8 m 0 (o + 1) (p + 1)
    have e122 : mO m 0 (o + 1) (p + 1) 122 = m 122 := mO_c (by decide)
    have hP2 : p < E → MoP (mO m 0 (o + 1) (p + 1)) f E A := fun h => ⟨MoS_mO hS (by omega), mO_7 m 0 (o + 1) (p + 1), by rw [e122]; exact hc1, by rw [e122, mO_5]; omega⟩
    have gF := faP_good f E k (by omega)
    have gS := soP_good (f := f) (A := 12 - 2 * (k + 1)) (GoodF_mono gF (by omega))
    have hso : CalM k_Mo_some (soP (faP f E k) f E) f E A (o + 1) (7 + 3 * k + 1 + 1) := cal_some (evP (faP f E k) f E) f E A (o + 1) (7 + 3 * k + 1) 0 (cal_every (faP f E k) f E A (o + 1) (7 + 3 * k) 0 hC (GoodF_mono gF (by omega))) (evP_good (A := 0) (GoodF_mono gF (by omega)))
    refine r_entry mx130 rfl ?_
    refine r_loadA a130_0 rfl (by decide) ?_
    refine r_getI (ki := 7) a130_1 ty121 rfl ?_
    rw [hP.2.1]
    refine r_ifeq a130_4 (fun h_4 => ?_) (fun h_4 => ?_)
    · refine r_loadA a130_8 rfl (by decide) ?_
      refine r_callI_1 a130_9 (Nat.le_of_ble_eq_true rfl) (le_mx mx124 (Nat.le_of_ble_eq_true rfl)) (Or.inr (recv_ok ty121 ow124 (by decide))) (t9) (fun x_9 m_9 h_9 => ?_)
      obtain ⟨hm_9, h_9⟩ := h_9
      rw [hm_9]
      refine r_storeI_1 a130_12 rfl ?_
      refine r_loadI a130_13 rfl ?_
      refine r_pushI a130_14 ?_
      refine r_iceq a130_16 (fun h_16 => ?_) (fun h_16 => ?_)
      · refine r_loadA a130_25 rfl (by decide) ?_
        refine r_loadA a130_26 rfl (by decide) ?_
        refine r_getI (ki := 8) a130_27 ty121 rfl ?_
        refine r_pushI a130_30 ?_
        rw [ho]
        refine r_icne a130_31 (fun h_31 => ?_) (fun h_31 => ?_)
        · refine r_pushI a130_38 ?_
          refine r_putZ (ki := 7) a130_39 ty121 rfl (by omega) ?_
          refine r_loadA a130_42 rfl (by decide) ?_
          refine r_dup a130_43 rfl ?_
          refine r_getI (ki := 8) a130_44 ty121 rfl ?_
          refine r_pushI a130_47 ?_
          rw [up2_k (by decide), ho]
          refine r_add a130_48 (by omega) ?_
          refine r_putI (ki := 8) a130_49 ty121 rfl ?_
          refine r_loadA a130_52 rfl (by decide) ?_
          refine r_dup a130_53 rfl ?_
          refine r_getI (ki := 5) a130_54 ty121 rfl ?_
          rw [up2_k (by decide), up2_k (by decide), hp5]
          refine r_loadA a130_57 rfl (by decide) ?_
          refine r_getI (ki := 7) a130_58 ty121 rfl ?_
          rw [up2_k (by decide), up2_s]
          refine r_ifeq a130_61 (fun h_61 => ?_) (fun h_61 => ?_)
          · refine r_pushI a130_68 ?_
            refine r_add a130_69 (by omega) ?_
            refine r_putI (ki := 5) a130_70 ty121 rfl ?_
            have em : up2 (up2 (up2 m 121 7 0) 121 8 (o + 1)) 121 5 (p + 1) = mO m 0 (o + 1) (p + 1) := rfl
            rw [em]
            have hpE := hlt (by omega)
            have t80 := hC e z (mO m 0 (o + 1) (p + 1)) (by omega) (hP2 hpE) e8
            have t92 := hso e z (mO m 0 (o + 1) (p + 1)) (by omega) (hP2 hpE) e8
            rw [mO_5] at t80 t92
            have gd := gF (p + 1) (by omega) (by omega)
            have gs := gS (p + 1) (by omega) (by omega)
            refine r_loadI a130_73 rfl ?_
            refine r_pushI a130_74 ?_
            refine r_icne a130_76 (fun h_76 => ?_) (fun h_76 => ?_)
            · refine r_loadA a130_91 rfl (by decide) ?_
              refine r_callV_1 a130_92 (Nat.le_of_ble_eq_true rfl) (le_mx mx132 (Nat.le_of_ble_eq_true rfl)) (Or.inr (recv_ok ty121 ow132 (by decide))) (t92) (fun m_92 h_92 => ?_)
              have h33 : ¬ atP f E p = 33 := by omega
              have h40 : atP f E p = 40 := by omega
              obtain ⟨g1, g2, g3, g4⟩ := h_92
              have hcg : m 122 (209 + A) ≤ m_92 122 (209 + A) := by have := g1.2.2.2; rw [e122] at this; exact this
              rw [e122] at g4
              have e88 : m_92 121 8 = o + 1 := by rw [g1.2.1 8 (by decide) (by decide)]; exact e8
              have hr : ∃ q w, m_92 121 5 = q ∧ m_92 121 7 = w ∧ (w = 0 ∨ w = 1) ∧ p + 1 ≤ q ∧ q ≤ E ∧ (soP (faP f E k) f E (p + 1)).1 = q ∧ ((w = 0 ∧ ∃ t, (soP (faP f E k) f E (p + 1)) = (q, some t) ∧ p + 1 < q ∧ (t.length : Int) ≤ q - (p + 1) ∧ m_92 122 (209 + A) = m 122 (209 + A) + t.length ∧ Seg (m_92 122) (214 + 140 * A + m 122 (209 + A)) t) ∨ (w = 1 ∧ (soP (faP f E k) f E (p + 1)) = (q, none))) := by
                rcases bnd_cases (soP (faP f E k) f E (p + 1)) (fun q t => (q, some t)) with ⟨q3, t, w1, _⟩ | ⟨q3, w1, _⟩
                · obtain ⟨k1, k2, k3, _⟩ := gs.1 q3 t w1
                  rw [w1] at g2 g4
                  rcases g4 with ⟨t', u, v1, v2, v3⟩ | ⟨u, _⟩
                  · have u' : some t = some t' := u
                    rw [Option.some.injEq] at u'
                    rw [← u'] at v2 v3
                    exact ⟨q3, 0, g2, v1, by omega, by omega, k2, by rw [w1], Or.inl ⟨rfl, t, w1, k1, k3, v2, v3⟩⟩
                  · exact absurd u (by simp)
                · obtain ⟨k1, k2⟩ := gs.2 q3 w1
                  rw [w1] at g2 g4
                  rcases g4 with ⟨_, u, _⟩ | ⟨_, u⟩
                  · exact absurd u (by simp)
                  · exact ⟨q3, 1, g2, u, by omega, by omega, k2, by rw [w1], Or.inr ⟨rfl, w1⟩⟩
              obtain ⟨q, w, r5, r7, rw01, rq1, rq2, rq3, rr⟩ := hr
              have hS3 : MoS m_92 f E A := MoF_S g1 (MoS_mO hS (by omega)) (by rw [e122]; exact hc1) (by omega)
              have hcq : m_92 122 (209 + A) ≤ q := by rw [← rq3]; exact g3
              refine r_loadA a130_95 rfl (by decide) ?_
              refine r_pushI a130_96 ?_
              refine r_callV_2 a130_98 (Nat.le_of_ble_eq_true rfl) (le_mx mx125 (Nat.le_of_ble_eq_true rfl)) (Or.inr (recv_ok ty121 ow125 (by decide))) (c_Mo_must e z m_92 f E A 41 w q (by omega) hS3 r7 r5 rw01) (fun m_98 h_98 => ?_)
              have e988 : m_98 121 8 = o + 1 := by
                rcases h_98 with ⟨_, _, h⟩ | ⟨_, h⟩ <;> rw [h, mS_k (by decide) (by decide)] <;> exact e88
              refine r_loadA a130_101 rfl (by decide) ?_
              refine r_dup a130_102 rfl ?_
              refine r_getI (ki := 8) a130_103 ty121 rfl ?_
              refine r_pushI a130_106 ?_
              first
                | rw [e858]
                | rw [e988]
              refine r_sub a130_107 (by omega) ?_
              refine r_putI (ki := 8) a130_108 ty121 rfl ?_
              refine r_retVq a130_111 ?_
              have eo : o + 1 - 1 = o := by omega
              rw [eo]
              first
                | (rw [if_pos (show atP f E p = 33 by omega)]
                   rcases bnd_cases (faP f E k (p + 1)) (fun q t => (q, some (t ++ [-1]))) with ⟨q3, t, w1, w2⟩ | ⟨q3, w1, w2⟩
                   · rw [w2]
                     obtain ⟨k1, k2, k3, _⟩ := gd.1 q3 t w1
                     rw [w1] at g2 g3 g4
                     rcases g4 with ⟨t', u, v1, v2, v3⟩ | ⟨u, _⟩
                     · have u' : some t = some t' := u
                       rw [Option.some.injEq] at u'
                       rw [← u'] at v2 v3
                       have hm : m_85 = mE m_80 A (-1) := by
                         rcases h_85 with ⟨_, h⟩ | ⟨h, _⟩
                         · exact h
                         · exact absurd v1 h
                       have hcr : 0 ≤ m_80 122 (209 + A) ∧ m_80 122 (209 + A) < 140 := by omega
                       have g2' : m_80 121 5 = q3 := g2
                       rw [hm]
                       refine ⟨MoF_open ho (MoF.trans g1 (MoF_E m_80 A (-1) hcr)), by rw [up2_k (by decide), mE_x (by decide)]; exact g2', ?_, Or.inl ⟨_, rfl, by rw [up2_k (by decide), mE_x (by decide)]; exact v1, ?_, ?_⟩⟩
                       · rw [up2_c (by decide), mE_c m_80 A _ hcr.1, v2]; show _ ≤ q3; omega
                       · rw [up2_c (by decide), mE_c m_80 A _ hcr.1, v2, List.length_append]; push_cast; show _ = _ + (_ + ((1 : Nat) : Int)); omega
                       · rw [up2_c (by decide), Seg_app]
                         refine ⟨Seg_le v3 (fun i i1 i2 => by rw [mE_y (by omega) (by omega)]), ?_⟩
                         rw [show 214 + 140 * A + m 122 (209 + A) + (t.length : Int) = 214 + 140 * A + m_80 122 (209 + A) by omega]
                         exact ⟨mE_v m_80 A _ hA hcr.1, trivial⟩
                     · exact absurd u (by simp)
                   · rw [w2]
                     rw [w1] at g2 g3 g4
                     have o1 : m_80 121 7 = 1 := by
                       rcases g4 with ⟨_, u, _⟩ | ⟨_, u⟩
                       · exact absurd u (by simp)
                       · exact u
                     have hm : m_85 = m_80 := by
                       rcases h_85 with ⟨h, _⟩ | ⟨_, h⟩
                       · omega
                       · exact h
                     rw [hm]
                     exact ⟨MoF_open ho g1, by rw [up2_k (by decide)]; exact g2, by rw [up2_c (by decide)]; exact g3, Or.inr ⟨rfl, by rw [up2_k (by decide)]; exact o1⟩⟩)
                | (rw [if_neg h33, if_pos h40]
                   rcases rr with ⟨a1, t, a2, a3, a4, a5, a6⟩ | ⟨a1, a2⟩
                   · rw [a2, bnd_some]
                     rcases h_98 with ⟨_, b2, b3⟩ | ⟨b1, b3⟩
                     · rw [if_pos b2, b3]
                       refine ⟨MoF_open ho (MoF.trans g1 (MoF_mS m_92 0 (q + 1) A)), by rw [up2_k (by decide), mS_5], ?_, Or.inl ⟨t, rfl, by rw [up2_k (by decide), mS_7], ?_, ?_⟩⟩
                       · rw [up2_c (by decide), mS_c (by decide)]; show _ ≤ q + 1; omega
                       · rw [up2_c (by decide), mS_c (by decide)]; exact a5
                       · rw [up2_c (by decide), mS_c (by decide)]; exact a6
                     · rw [if_neg (fun x => b1 ⟨a1, x⟩), b3]
                       exact ⟨MoF_open ho (MoF.trans g1 (MoF_mS m_92 1 q A)), by rw [up2_k (by decide), mS_5], by rw [up2_c (by decide), mS_c (by decide)]; exact hcq, Or.inr ⟨rfl, by rw [up2_k (by decide), mS_7]⟩⟩
                   · rw [a2, bnd_none]
                     rcases h_98 with ⟨b1, _, _⟩ | ⟨_, b3⟩
                     · exfalso; omega
                     · rw [b3]
                       exact ⟨MoF_open ho (MoF.trans g1 (MoF_mS m_92 1 q A)), by rw [up2_k (by decide), mS_5], by rw [up2_c (by decide), mS_c (by decide)]; exact hcq, Or.inr ⟨rfl, by rw [up2_k (by decide), mS_7]⟩⟩)
            · refine r_loadA a130_79 rfl (by decide) ?_
              refine r_callV_1 a130_80 (Nat.le_of_ble_eq_true rfl) (le_mx mx130 (Nat.le_of_ble_eq_true rfl)) (Or.inr (recv_ok ty121 ow130 (by decide))) (t80) (fun m_80 h_80 => ?_)
              obtain ⟨g1, g2, g3, g4⟩ := h_80
              have e4 : m_80 121 4 = A := by rw [g1.2.1 4 (by decide) (by decide), mO_k (by decide) (by decide) (by decide)]; exact hS.2.2.2.2.2.1
              have hcg : m 122 (209 + A) ≤ m_80 122 (209 + A) := by have := g1.2.2.2; rw [e122] at this; exact this
              rw [e122] at g4
              have hcb : m_80 122 (209 + A) < 140 := by
                rcases bnd_cases (faP f E k (p + 1)) (fun q t => (q, some t)) with ⟨q3, t, w1, _⟩ | ⟨q3, w1, _⟩
                · have := (gd.1 q3 t w1).2.1
                  rw [w1] at g3
                  have g3' : m_80 122 (209 + A) ≤ q3 := g3
                  omega
                · have := (gd.2 q3 w1).2
                  rw [w1] at g3
                  have g3' : m_80 122 (209 + A) ≤ q3 := g3
                  omega
              have e88 : m_80 121 8 = o + 1 := by rw [g1.2.1 8 (by decide) (by decide)]; exact e8
              refine r_loadA a130_83 rfl (by decide) ?_
              refine r_pushI a130_84 ?_
              refine r_callV_2 a130_85 (Nat.le_of_ble_eq_true rfl) (le_mx mx129 (Nat.le_of_ble_eq_true rfl)) (Or.inr (recv_ok ty121 ow129 (by decide))) (c_Mo_emits e z m_80 A (-1) e4 hA (by omega)) (fun m_85 h_85 => ?_)
              have e858 : m_85 121 8 = o + 1 := by
                rcases h_85 with ⟨_, h⟩ | ⟨_, h⟩ <;> rw [h]
                · rw [mE_x (by decide)]; exact e88
                · exact e88
              refine r_goto a130_88 ?_
              refine r_loadA a130_101 rfl (by decide) ?_
              refine r_dup a130_102 rfl ?_
              refine r_getI (ki := 8) a130_103 ty121 rfl ?_
              refine r_pushI a130_106 ?_
              first
                | rw [e858]
                | rw [e988]
              refine r_sub a130_107 (by omega) ?_
              refine r_putI (ki := 8) a130_108 ty121 rfl ?_
              refine r_retVq a130_111 ?_
              have eo : o + 1 - 1 = o := by omega
              rw [eo]
              first
                | (rw [if_pos (show atP f E p = 33 by omega)]
                   rcases bnd_cases (faP f E k (p + 1)) (fun q t => (q, some (t ++ [-1]))) with ⟨q3, t, w1, w2⟩ | ⟨q3, w1, w2⟩
                   · rw [w2]
                     obtain ⟨k1, k2, k3, _⟩ := gd.1 q3 t w1
                     rw [w1] at g2 g3 g4
                     rcases g4 with ⟨t', u, v1, v2, v3⟩ | ⟨u, _⟩
                     · have u' : some t = some t' := u
                       rw [Option.some.injEq] at u'
                       rw [← u'] at v2 v3
                       have hm : m_85 = mE m_80 A (-1) := by
                         rcases h_85 with ⟨_, h⟩ | ⟨h, _⟩
                         · exact h
                         · exact absurd v1 h
                       have hcr : 0 ≤ m_80 122 (209 + A) ∧ m_80 122 (209 + A) < 140 := by omega
                       have g2' : m_80 121 5 = q3 := g2
                       rw [hm]
                       refine ⟨MoF_open ho (MoF.trans g1 (MoF_E m_80 A (-1) hcr)), by rw [up2_k (by decide), mE_x (by decide)]; exact g2', ?_, Or.inl ⟨_, rfl, by rw [up2_k (by decide), mE_x (by decide)]; exact v1, ?_, ?_⟩⟩
                       · rw [up2_c (by decide), mE_c m_80 A _ hcr.1, v2]; show _ ≤ q3; omega
                       · rw [up2_c (by decide), mE_c m_80 A _ hcr.1, v2, List.length_append]; push_cast; show _ = _ + (_ + ((1 : Nat) : Int)); omega
                       · rw [up2_c (by decide), Seg_app]
                         refine ⟨Seg_le v3 (fun i i1 i2 => by rw [mE_y (by omega) (by omega)]), ?_⟩
                         rw [show 214 + 140 * A + m 122 (209 + A) + (t.length : Int) = 214 + 140 * A + m_80 122 (209 + A) by omega]
                         exact ⟨mE_v m_80 A _ hA hcr.1, trivial⟩
                     · exact absurd u (by simp)
                   · rw [w2]
                     rw [w1] at g2 g3 g4
                     have o1 : m_80 121 7 = 1 := by
                       rcases g4 with ⟨_, u, _⟩ | ⟨_, u⟩
                       · exact absurd u (by simp)
                       · exact u
                     have hm : m_85 = m_80 := by
                       rcases h_85 with ⟨h, _⟩ | ⟨_, h⟩
                       · omega
                       · exact h
                     rw [hm]
                     exact ⟨MoF_open ho g1, by rw [up2_k (by decide)]; exact g2, by rw [up2_c (by decide)]; exact g3, Or.inr ⟨rfl, by rw [up2_k (by decide)]; exact o1⟩⟩)
                | (rw [if_neg h33, if_pos h40]
                   rcases rr with ⟨a1, t, a2, a3, a4, a5, a6⟩ | ⟨a1, a2⟩
                   · rw [a2, bnd_some]
                     rcases h_98 with ⟨_, b2, b3⟩ | ⟨b1, b3⟩
                     · rw [if_pos b2, b3]
                       refine ⟨MoF_open ho (MoF.trans g1 (MoF_mS m_92 0 (q + 1) A)), by rw [up2_k (by decide), mS_5], ?_, Or.inl ⟨t, rfl, by rw [up2_k (by decide), mS_7], ?_, ?_⟩⟩
                       · rw [up2_c (by decide), mS_c (by decide)]; show _ ≤ q + 1; omega
                       · rw [up2_c (by decide), mS_c (by decide)]; exact a5
                       · rw [up2_c (by decide), mS_c (by decide)]; exact a6
                     · rw [if_neg (fun x => b1 ⟨a1, x⟩), b3]
                       exact ⟨MoF_open ho (MoF.trans g1 (MoF_mS m_92 1 q A)), by rw [up2_k (by decide), mS_5], by rw [up2_c (by decide), mS_c (by decide)]; exact hcq, Or.inr ⟨rfl, by rw [up2_k (by decide), mS_7]⟩⟩
                   · rw [a2, bnd_none]
                     rcases h_98 with ⟨b1, _, _⟩ | ⟨_, b3⟩
                     · exfalso; omega
                     · rw [b3]
                       exact ⟨MoF_open ho (MoF.trans g1 (MoF_mS m_92 1 q A)), by rw [up2_k (by decide), mS_5], by rw [up2_c (by decide), mS_c (by decide)]; exact hcq, Or.inr ⟨rfl, by rw [up2_k (by decide), mS_7]⟩⟩)
          · exfalso
            omega
        · exfalso
          omega
      · refine r_loadI a130_19 rfl ?_
        refine r_pushI a130_20 ?_
        refine r_icne a130_22 (fun h_22 => ?_) (fun h_22 => ?_)
        · rw [if_neg (by omega), if_neg (by omega)]
          exact c_Mo_test (e + 1) z m f E A _ p (by omega) hP hp5 _ _ _
        · refine r_loadA a130_25 rfl (by decide) ?_
          refine r_loadA a130_26 rfl (by decide) ?_
          refine r_getI (ki := 8) a130_27 ty121 rfl ?_
          refine r_pushI a130_30 ?_
          rw [ho]
          refine r_icne a130_31 (fun h_31 => ?_) (fun h_31 => ?_)
          · refine r_pushI a130_38 ?_
            refine r_putZ (ki := 7) a130_39 ty121 rfl (by omega) ?_
            refine r_loadA a130_42 rfl (by decide) ?_
            refine r_dup a130_43 rfl ?_
            refine r_getI (ki := 8) a130_44 ty121 rfl ?_
            refine r_pushI a130_47 ?_
            rw [up2_k (by decide), ho]
            refine r_add a130_48 (by omega) ?_
            refine r_putI (ki := 8) a130_49 ty121 rfl ?_
            refine r_loadA a130_52 rfl (by decide) ?_
            refine r_dup a130_53 rfl ?_
            refine r_getI (ki := 5) a130_54 ty121 rfl ?_
            rw [up2_k (by decide), up2_k (by decide), hp5]
            refine r_loadA a130_57 rfl (by decide) ?_
            refine r_getI (ki := 7) a130_58 ty121 rfl ?_
            rw [up2_k (by decide), up2_s]
            refine r_ifeq a130_61 (fun h_61 => ?_) (fun h_61 => ?_)
            · refine r_pushI a130_68 ?_
              refine r_add a130_69 (by omega) ?_
              refine r_putI (ki := 5) a130_70 ty121 rfl ?_
              have em : up2 (up2 (up2 m 121 7 0) 121 8 (o + 1)) 121 5 (p + 1) = mO m 0 (o + 1) (p + 1) := rfl
              rw [em]
              have hpE := hlt (by omega)
              have t80 := hC e z (mO m 0 (o + 1) (p + 1)) (by omega) (hP2 hpE) e8
              have t92 := hso e z (mO m 0 (o + 1) (p + 1)) (by omega) (hP2 hpE) e8
              rw [mO_5] at t80 t92
              have gd := gF (p + 1) (by omega) (by omega)
              have gs := gS (p + 1) (by omega) (by omega)
              refine r_loadI a130_73 rfl ?_
              refine r_pushI a130_74 ?_
              refine r_icne a130_76 (fun h_76 => ?_) (fun h_76 => ?_)
              · refine r_loadA a130_91 rfl (by decide) ?_
                refine r_callV_1 a130_92 (Nat.le_of_ble_eq_true rfl) (le_mx mx132 (Nat.le_of_ble_eq_true rfl)) (Or.inr (recv_ok ty121 ow132 (by decide))) (t92) (fun m_92 h_92 => ?_)
                have h33 : ¬ atP f E p = 33 := by omega
                have h40 : atP f E p = 40 := by omega
                obtain ⟨g1, g2, g3, g4⟩ := h_92
                have hcg : m 122 (209 + A) ≤ m_92 122 (209 + A) := by have := g1.2.2.2; rw [e122] at this; exact this
                rw [e122] at g4
                have e88 : m_92 121 8 = o + 1 := by rw [g1.2.1 8 (by decide) (by decide)]; exact e8
                have hr : ∃ q w, m_92 121 5 = q ∧ m_92 121 7 = w ∧ (w = 0 ∨ w = 1) ∧ p + 1 ≤ q ∧ q ≤ E ∧ (soP (faP f E k) f E (p + 1)).1 = q ∧ ((w = 0 ∧ ∃ t, (soP (faP f E k) f E (p + 1)) = (q, some t) ∧ p + 1 < q ∧ (t.length : Int) ≤ q - (p + 1) ∧ m_92 122 (209 + A) = m 122 (209 + A) + t.length ∧ Seg (m_92 122) (214 + 140 * A + m 122 (209 + A)) t) ∨ (w = 1 ∧ (soP (faP f E k) f E (p + 1)) = (q, none))) := by
                  rcases bnd_cases (soP (faP f E k) f E (p + 1)) (fun q t => (q, some t)) with ⟨q3, t, w1, _⟩ | ⟨q3, w1, _⟩
                  · obtain ⟨k1, k2, k3, _⟩ := gs.1 q3 t w1
                    rw [w1] at g2 g4
                    rcases g4 with ⟨t', u, v1, v2, v3⟩ | ⟨u, _⟩
                    · have u' : some t = some t' := u
                      rw [Option.some.injEq] at u'
                      rw [← u'] at v2 v3
                      exact ⟨q3, 0, g2, v1, by omega, by omega, k2, by rw [w1], Or.inl ⟨rfl, t, w1, k1, k3, v2, v3⟩⟩
                    · exact absurd u (by simp)
                  · obtain ⟨k1, k2⟩ := gs.2 q3 w1
                    rw [w1] at g2 g4
                    rcases g4 with ⟨_, u, _⟩ | ⟨_, u⟩
                    · exact absurd u (by simp)
                    · exact ⟨q3, 1, g2, u, by omega, by omega, k2, by rw [w1], Or.inr ⟨rfl, w1⟩⟩
                obtain ⟨q, w, r5, r7, rw01, rq1, rq2, rq3, rr⟩ := hr
                have hS3 : MoS m_92 f E A := MoF_S g1 (MoS_mO hS (by omega)) (by rw [e122]; exact hc1) (by omega)
                have hcq : m_92 122 (209 + A) ≤ q := by rw [← rq3]; exact g3
                refine r_loadA a130_95 rfl (by decide) ?_
                refine r_pushI a130_96 ?_
                refine r_callV_2 a130_98 (Nat.le_of_ble_eq_true rfl) (le_mx mx125 (Nat.le_of_ble_eq_true rfl)) (Or.inr (recv_ok ty121 ow125 (by decide))) (c_Mo_must e z m_92 f E A 41 w q (by omega) hS3 r7 r5 rw01) (fun m_98 h_98 => ?_)
                have e988 : m_98 121 8 = o + 1 := by
                  rcases h_98 with ⟨_, _, h⟩ | ⟨_, h⟩ <;> rw [h, mS_k (by decide) (by decide)] <;> exact e88
                refine r_loadA a130_101 rfl (by decide) ?_
                refine r_dup a130_102 rfl ?_
                refine r_getI (ki := 8) a130_103 ty121 rfl ?_
                refine r_pushI a130_106 ?_
                first
                  | rw [e858]
                  | rw [e988]
                refine r_sub a130_107 (by omega) ?_
                refine r_putI (ki := 8) a130_108 ty121 rfl ?_
                refine r_retVq a130_111 ?_
                have eo : o + 1 - 1 = o := by omega
                rw [eo]
                first
                  | (rw [if_pos (show atP f E p = 33 by omega)]
                     rcases bnd_cases (faP f E k (p + 1)) (fun q t => (q, some (t ++ [-1]))) with ⟨q3, t, w1, w2⟩ | ⟨q3, w1, w2⟩
                     · rw [w2]
                       obtain ⟨k1, k2, k3, _⟩ := gd.1 q3 t w1
                       rw [w1] at g2 g3 g4
                       rcases g4 with ⟨t', u, v1, v2, v3⟩ | ⟨u, _⟩
                       · have u' : some t = some t' := u
                         rw [Option.some.injEq] at u'
                         rw [← u'] at v2 v3
                         have hm : m_85 = mE m_80 A (-1) := by
                           rcases h_85 with ⟨_, h⟩ | ⟨h, _⟩
                           · exact h
                           · exact absurd v1 h
                         have hcr : 0 ≤ m_80 122 (209 + A) ∧ m_80 122 (209 + A) < 140 := by omega
                         have g2' : m_80 121 5 = q3 := g2
                         rw [hm]
                         refine ⟨MoF_open ho (MoF.trans g1 (MoF_E m_80 A (-1) hcr)), by rw [up2_k (by decide), mE_x (by decide)]; exact g2', ?_, Or.inl ⟨_, rfl, by rw [up2_k (by decide), mE_x (by decide)]; exact v1, ?_, ?_⟩⟩
                         · rw [up2_c (by decide), mE_c m_80 A _ hcr.1, v2]; show _ ≤ q3; omega
                         · rw [up2_c (by decide), mE_c m_80 A _ hcr.1, v2, List.length_append]; push_cast; show _ = _ + (_ + ((1 : Nat) : Int)); omega
                         · rw [up2_c (by decide), Seg_app]
                           refine ⟨Seg_le v3 (fun i i1 i2 => by rw [mE_y (by omega) (by omega)]), ?_⟩
                           rw [show 214 + 140 * A + m 122 (209 + A) + (t.length : Int) = 214 + 140 * A + m_80 122 (209 + A) by omega]
                           exact ⟨mE_v m_80 A _ hA hcr.1, trivial⟩
                       · exact absurd u (by simp)
                     · rw [w2]
                       rw [w1] at g2 g3 g4
                       have o1 : m_80 121 7 = 1 := by
                         rcases g4 with ⟨_, u, _⟩ | ⟨_, u⟩
                         · exact absurd u (by simp)
                         · exact u
                       have hm : m_85 = m_80 := by
                         rcases h_85 with ⟨h, _⟩ | ⟨_, h⟩
                         · omega
                         · exact h
                       rw [hm]
                       exact ⟨MoF_open ho g1, by rw [up2_k (by decide)]; exact g2, by rw [up2_c (by decide)]; exact g3, Or.inr ⟨rfl, by rw [up2_k (by decide)]; exact o1⟩⟩)
                  | (rw [if_neg h33, if_pos h40]
                     rcases rr with ⟨a1, t, a2, a3, a4, a5, a6⟩ | ⟨a1, a2⟩
                     · rw [a2, bnd_some]
                       rcases h_98 with ⟨_, b2, b3⟩ | ⟨b1, b3⟩
                       · rw [if_pos b2, b3]
                         refine ⟨MoF_open ho (MoF.trans g1 (MoF_mS m_92 0 (q + 1) A)), by rw [up2_k (by decide), mS_5], ?_, Or.inl ⟨t, rfl, by rw [up2_k (by decide), mS_7], ?_, ?_⟩⟩
                         · rw [up2_c (by decide), mS_c (by decide)]; show _ ≤ q + 1; omega
                         · rw [up2_c (by decide), mS_c (by decide)]; exact a5
                         · rw [up2_c (by decide), mS_c (by decide)]; exact a6
                       · rw [if_neg (fun x => b1 ⟨a1, x⟩), b3]
                         exact ⟨MoF_open ho (MoF.trans g1 (MoF_mS m_92 1 q A)), by rw [up2_k (by decide), mS_5], by rw [up2_c (by decide), mS_c (by decide)]; exact hcq, Or.inr ⟨rfl, by rw [up2_k (by decide), mS_7]⟩⟩
                     · rw [a2, bnd_none]
                       rcases h_98 with ⟨b1, _, _⟩ | ⟨_, b3⟩
                       · exfalso; omega
                       · rw [b3]
                         exact ⟨MoF_open ho (MoF.trans g1 (MoF_mS m_92 1 q A)), by rw [up2_k (by decide), mS_5], by rw [up2_c (by decide), mS_c (by decide)]; exact hcq, Or.inr ⟨rfl, by rw [up2_k (by decide), mS_7]⟩⟩)
              · refine r_loadA a130_79 rfl (by decide) ?_
                refine r_callV_1 a130_80 (Nat.le_of_ble_eq_true rfl) (le_mx mx130 (Nat.le_of_ble_eq_true rfl)) (Or.inr (recv_ok ty121 ow130 (by decide))) (t80) (fun m_80 h_80 => ?_)
                obtain ⟨g1, g2, g3, g4⟩ := h_80
                have e4 : m_80 121 4 = A := by rw [g1.2.1 4 (by decide) (by decide), mO_k (by decide) (by decide) (by decide)]; exact hS.2.2.2.2.2.1
                have hcg : m 122 (209 + A) ≤ m_80 122 (209 + A) := by have := g1.2.2.2; rw [e122] at this; exact this
                rw [e122] at g4
                have hcb : m_80 122 (209 + A) < 140 := by
                  rcases bnd_cases (faP f E k (p + 1)) (fun q t => (q, some t)) with ⟨q3, t, w1, _⟩ | ⟨q3, w1, _⟩
                  · have := (gd.1 q3 t w1).2.1
                    rw [w1] at g3
                    have g3' : m_80 122 (209 + A) ≤ q3 := g3
                    omega
                  · have := (gd.2 q3 w1).2
                    rw [w1] at g3
                    have g3' : m_80 122 (209 + A) ≤ q3 := g3
                    omega
                have e88 : m_80 121 8 = o + 1 := by rw [g1.2.1 8 (by decide) (by decide)]; exact e8
                refine r_loadA a130_83 rfl (by decide) ?_
                refine r_pushI a130_84 ?_
                refine r_callV_2 a130_85 (Nat.le_of_ble_eq_true rfl) (le_mx mx129 (Nat.le_of_ble_eq_true rfl)) (Or.inr (recv_ok ty121 ow129 (by decide))) (c_Mo_emits e z m_80 A (-1) e4 hA (by omega)) (fun m_85 h_85 => ?_)
                have e858 : m_85 121 8 = o + 1 := by
                  rcases h_85 with ⟨_, h⟩ | ⟨_, h⟩ <;> rw [h]
                  · rw [mE_x (by decide)]; exact e88
                  · exact e88
                refine r_goto a130_88 ?_
                refine r_loadA a130_101 rfl (by decide) ?_
                refine r_dup a130_102 rfl ?_
                refine r_getI (ki := 8) a130_103 ty121 rfl ?_
                refine r_pushI a130_106 ?_
                first
                  | rw [e858]
                  | rw [e988]
                refine r_sub a130_107 (by omega) ?_
                refine r_putI (ki := 8) a130_108 ty121 rfl ?_
                refine r_retVq a130_111 ?_
                have eo : o + 1 - 1 = o := by omega
                rw [eo]
                first
                  | (rw [if_pos (show atP f E p = 33 by omega)]
                     rcases bnd_cases (faP f E k (p + 1)) (fun q t => (q, some (t ++ [-1]))) with ⟨q3, t, w1, w2⟩ | ⟨q3, w1, w2⟩
                     · rw [w2]
                       obtain ⟨k1, k2, k3, _⟩ := gd.1 q3 t w1
                       rw [w1] at g2 g3 g4
                       rcases g4 with ⟨t', u, v1, v2, v3⟩ | ⟨u, _⟩
                       · have u' : some t = some t' := u
                         rw [Option.some.injEq] at u'
                         rw [← u'] at v2 v3
                         have hm : m_85 = mE m_80 A (-1) := by
                           rcases h_85 with ⟨_, h⟩ | ⟨h, _⟩
                           · exact h
                           · exact absurd v1 h
                         have hcr : 0 ≤ m_80 122 (209 + A) ∧ m_80 122 (209 + A) < 140 := by omega
                         have g2' : m_80 121 5 = q3 := g2
                         rw [hm]
                         refine ⟨MoF_open ho (MoF.trans g1 (MoF_E m_80 A (-1) hcr)), by rw [up2_k (by decide), mE_x (by decide)]; exact g2', ?_, Or.inl ⟨_, rfl, by rw [up2_k (by decide), mE_x (by decide)]; exact v1, ?_, ?_⟩⟩
                         · rw [up2_c (by decide), mE_c m_80 A _ hcr.1, v2]; show _ ≤ q3; omega
                         · rw [up2_c (by decide), mE_c m_80 A _ hcr.1, v2, List.length_append]; push_cast; show _ = _ + (_ + ((1 : Nat) : Int)); omega
                         · rw [up2_c (by decide), Seg_app]
                           refine ⟨Seg_le v3 (fun i i1 i2 => by rw [mE_y (by omega) (by omega)]), ?_⟩
                           rw [show 214 + 140 * A + m 122 (209 + A) + (t.length : Int) = 214 + 140 * A + m_80 122 (209 + A) by omega]
                           exact ⟨mE_v m_80 A _ hA hcr.1, trivial⟩
                       · exact absurd u (by simp)
                     · rw [w2]
                       rw [w1] at g2 g3 g4
                       have o1 : m_80 121 7 = 1 := by
                         rcases g4 with ⟨_, u, _⟩ | ⟨_, u⟩
                         · exact absurd u (by simp)
                         · exact u
                       have hm : m_85 = m_80 := by
                         rcases h_85 with ⟨h, _⟩ | ⟨_, h⟩
                         · omega
                         · exact h
                       rw [hm]
                       exact ⟨MoF_open ho g1, by rw [up2_k (by decide)]; exact g2, by rw [up2_c (by decide)]; exact g3, Or.inr ⟨rfl, by rw [up2_k (by decide)]; exact o1⟩⟩)
                  | (rw [if_neg h33, if_pos h40]
                     rcases rr with ⟨a1, t, a2, a3, a4, a5, a6⟩ | ⟨a1, a2⟩
                     · rw [a2, bnd_some]
                       rcases h_98 with ⟨_, b2, b3⟩ | ⟨b1, b3⟩
                       · rw [if_pos b2, b3]
                         refine ⟨MoF_open ho (MoF.trans g1 (MoF_mS m_92 0 (q + 1) A)), by rw [up2_k (by decide), mS_5], ?_, Or.inl ⟨t, rfl, by rw [up2_k (by decide), mS_7], ?_, ?_⟩⟩
                         · rw [up2_c (by decide), mS_c (by decide)]; show _ ≤ q + 1; omega
                         · rw [up2_c (by decide), mS_c (by decide)]; exact a5
                         · rw [up2_c (by decide), mS_c (by decide)]; exact a6
                       · rw [if_neg (fun x => b1 ⟨a1, x⟩), b3]
                         exact ⟨MoF_open ho (MoF.trans g1 (MoF_mS m_92 1 q A)), by rw [up2_k (by decide), mS_5], by rw [up2_c (by decide), mS_c (by decide)]; exact hcq, Or.inr ⟨rfl, by rw [up2_k (by decide), mS_7]⟩⟩
                     · rw [a2, bnd_none]
                       rcases h_98 with ⟨b1, _, _⟩ | ⟨_, b3⟩
                       · exfalso; omega
                       · rw [b3]
                         exact ⟨MoF_open ho (MoF.trans g1 (MoF_mS m_92 1 q A)), by rw [up2_k (by decide), mS_5], by rw [up2_c (by decide), mS_c (by decide)]; exact hcq, Or.inr ⟨rfl, by rw [up2_k (by decide), mS_7]⟩⟩)
            · exfalso
              omega
          · exfalso
            omega
    · exfalso
      omega
