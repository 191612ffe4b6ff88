-- ===== slopes, both sides =====
def hdT (f : Int → Int) (E : Int) (n : Nat) (q r fo : Int) (cl : CLs) : CRes := if E ≤ q then (q, some (r, fo, cl)) else if n = 0 then (q, none) else if atP f E q = 59 then pTape f E n (q + 1) r fo cl else (q, none)
theorem pTape_s (f : Int → Int) (E : Int) (n : Nat) (p r fo : Int) (cl : CLs) : pTape f E (n + 1) p r fo cl = match pClause f E p r fo cl with
    | (q, none) => (q, none)
    | (q, some (r', fo', cl')) => hdT f E n q r' fo' cl' := by
  show (match pClause f E p r fo cl with
    | (q, none) => (q, none)
    | (q, some (r', fo', cl')) => if E ≤ q then (q, some (r', fo', cl')) else if n = 0 then (q, none) else if atP f E q = 59 then pTape f E n (q + 1) r' fo' cl' else (q, none)) = _
  rfl
/-- what a slope says is within bounds -/
def GdT (E : Int) (R : CRes) : Prop := (0 ≤ R.1 ∧ R.1 ≤ E) ∧ ∀ r fo cl, R.2 = some (r, fo, cl) → (0 ≤ r ∧ r ≤ 99) ∧ (0 ≤ fo ∧ fo ≤ 99) ∧ (∀ c ∈ cl, okC c) ∧ cl.length ≤ 10 ∧ ((mSteps cl).length : Int) ≤ R.1 ∧ R.1 = E
theorem pTape_good (f : Int → Int) (E : Int) : ∀ (n : Nat) (p r fo : Int) (cl : CLs), 0 ≤ p → p ≤ E → (0 ≤ r ∧ r ≤ 99) → (0 ≤ fo ∧ fo ≤ 99) → (∀ c ∈ cl, okC c) → cl.length + n ≤ 10 → ((mSteps cl).length : Int) ≤ p → GdT E (pTape f E n p r fo cl) := by
  intro n
  induction n with
  | zero => intro p r fo cl h0 h1 _ _ _ _ _; exact ⟨⟨h0, h1⟩, fun r' fo' cl' h => by have h' : (none : Option (Int × Int × CLs)) = some (r', fo', cl') := h; simp at h'⟩
  | succ n ih =>
    intro p r fo cl h0 h1 hr hf hc hl hm
    rw [pTape_s]
    have g := pClause_good (f := f) (r := r) (fo := fo) (cl := cl) h0 h1
    obtain ⟨C, hC⟩ : ∃ C, pClause f E p r fo cl = C := ⟨_, rfl⟩
    rw [hC] at g ⊢
    obtain ⟨q, C2⟩ := C
    obtain ⟨g1, g2, g3⟩ := g
    have g1' : p ≤ q := g1
    have g2' : q ≤ E := g2
    cases C2 with
    | none => exact ⟨⟨by show 0 ≤ q; omega, g2⟩, fun r' fo' cl' h => by have h' : (none : Option (Int × Int × CLs)) = some (r', fo', cl') := h; simp at h'⟩
    | some x =>
      obtain ⟨r', fo', cl'⟩ := x
      obtain ⟨k1, k2⟩ := g3 r' fo' cl' rfl
      have k1' : p < q := k1
      have cc : (0 ≤ r' ∧ r' ≤ 99) ∧ (0 ≤ fo' ∧ fo' ≤ 99) ∧ (∀ c ∈ cl', okC c) ∧ cl'.length + n ≤ 10 ∧ ((mSteps cl').length : Int) ≤ q := by
        rcases k2 with ⟨a, b, c, d, e, g⟩ | ⟨a, b⟩
        · subst d
          have g' : (c.2.2.length : Int) + 1 ≤ q - p := g
          refine ⟨by omega, by omega, fun x hx => ?_, by rw [List.length_append]; show cl.length + 1 + n ≤ 10; omega, by rw [mSteps_app, List.length_append, List.length_append]; push_cast; show _ + (_ + ((1 : Nat) : Int)) ≤ q; omega⟩
          rcases List.mem_append.mp hx with h | h
          · exact hc x h
          · rw [List.mem_singleton] at h; rw [h]; exact e
        · subst a
          exact ⟨by omega, by omega, hc, by omega, by omega⟩
      obtain ⟨c1, c2, c3, c4, c5⟩ := cc
      show GdT E (hdT f E n q r' fo' cl')
      unfold hdT
      by_cases e1 : E ≤ q
      · rw [if_pos e1]
        refine ⟨⟨by show 0 ≤ q; omega, g2⟩, fun r2 fo2 cl2 h => ?_⟩
        have h' : some (r', fo', cl') = some (r2, fo2, cl2) := h
        simp only [Option.some.injEq, Prod.mk.injEq] at h'
        obtain ⟨a, b, c⟩ := h'
        subst a; subst b; subst c
        exact ⟨c1, c2, c3, by omega, c5, by show q = E; omega⟩
      · rw [if_neg e1]
        have bad : GdT E (q, none) := ⟨⟨by show 0 ≤ q; omega, g2⟩, fun r' fo' cl' h => by have h' : (none : Option (Int × Int × CLs)) = some (r', fo', cl') := h; simp at h'⟩
        by_cases e2 : n = 0
        · rw [if_pos e2]; exact bad
        · rw [if_neg e2]
          by_cases e3 : atP f E q = 59
          · rw [if_pos e3]; exact ih (q + 1) r' fo' cl' (by omega) (by omega) c1 c2 c3 c4 (by omega)
          · rw [if_neg e3]; exact bad
/-- what a slope call leaves in the reference -/
def MoT (m m' : XM) (s : Int → Int) (x : Int) (R : CRes) : Prop :=
  (∀ c, c ≠ 121 → c ≠ 122 → m' c = m c) ∧ (∀ y, (y = 3 ∨ y = 16 ∨ y = 43) → m' 121 y = m 121 y) ∧
  (∀ y, y ≠ 5 → y ≠ 2 → y ≠ 6 → y ≠ 199 + s 2 → y ≠ 204 + s 2 → y ≠ 209 + s 2 → ¬ (214 + 140 * s 2 ≤ y ∧ y < 214 + 140 * s 2 + 140) → m' 122 y = s y) ∧ m' 122 5 = 0 ∧
  ((∃ r fo cl, R.2 = some (r, fo, cl) ∧ x = s 2 ∧ m' 122 2 = s 2 + 1 ∧ m' 122 6 = s 2 ∧ MdM m' r fo cl (s 2)) ∨
   (R.2 = none ∧ x = -10 - R.1 ∧ m' 122 2 = s 2 ∧ m' 122 6 = s 6 ∧ (0 ≤ m' 122 (199 + s 2) ∧ m' 122 (199 + s 2) ≤ 99) ∧ (0 ≤ m' 122 (204 + s 2) ∧ m' 122 (204 + s 2) ≤ 99) ∧ 0 ≤ m' 122 (209 + s 2) ∧ m' 122 (209 + s 2) ≤ 140))
theorem c_Mo_slope5 (d z : Nat) (m : XM) (h : m 122 2 = 5) : CI d k_Mo_slope z m [vR 121] (fun x m' => x = -4 ∧ m' = m) := by
  refine r_entry mx136 rfl ?_
  refine r_loadA a136_0 rfl (by decide) ?_
  refine r_getR a136_1 ty121 rf121_1 (by decide) ?_
  refine r_pushI a136_4 ?_
  refine r_iald a136_5 ty122 (by omega) ?_
  refine r_pushI a136_6 ?_
  rw [h]
  refine r_icne a136_7 (fun h_7 => ?_) (fun h_7 => ?_)
  · exfalso
    omega
  · refine r_pushI a136_10 ?_
    refine r_retIq a136_12 ?_
    exact ⟨rfl, rfl⟩
theorem c_Mo_slope (d z : Nat) (m : XM) (f s : Int → Int) (hd : 29 ≤ d) (hm : m 122 = s) (hS : okS s) (h2 : s 2 < 5) (hf : ∀ i, 0 ≤ i → i < 100 → s (99 + i) = f i) :
    CI d k_Mo_slope z m [vR 121] (fun x m' => MoT m m' s x (pTape f (s 5) 10 0 0 0 [])) := by
  obtain ⟨e, rfl⟩ : ∃ e, d = e + 1 := ⟨d - 1, by omega⟩
  obtain ⟨A, hA⟩ : ∃ A, s 2 = A := ⟨_, rfl⟩
  obtain ⟨E, hE⟩ : ∃ E, s 5 = E := ⟨_, rfl⟩
  have b2 := hS.1.2.2.1
  have b5 := hS.1.2.2.2.2.2.1
  have b6 := hS.1.2.2.2.2.2.2.1
  have bt := hS.2.2.2.2.2.2.1
  rw [hA] at b2 h2 b6
  rw [hE] at b5
  obtain ⟨R, hR⟩ : ∃ R, pTape f (s 5) 10 0 0 0 [] = R := ⟨_, rfl⟩
  rw [hR]
  rw [hE] at hR
  have hfr : ∀ i, 0 ≤ i → i < 100 → 0 ≤ f i ∧ f i ≤ 127 := fun i a b => by rw [← hf i a b]; exact bt i a b
  have gR := pTape_good f E 10 0 0 0 [] (by omega) (by omega) (by omega) (by omega) (fun c h => by simp at h) (by decide) (by show ((0 : Nat) : Int) ≤ 0; omega)
  rw [hR] at gR
  -- what stands at each clause
  let In : XM → Prop := fun m1 => (∀ c, c ≠ 121 → c ≠ 122 → m1 c = m c) ∧ (∀ y, (y = 3 ∨ y = 16 ∨ y = 43) → m1 121 y = m 121 y) ∧ (m1 121 4 = A ∧ m1 121 6 = E ∧ m1 121 8 = 0) ∧
    (∀ y, y ≠ 5 → y ≠ 199 + A → y ≠ 204 + A → y ≠ 209 + A → ¬ (214 + 140 * A ≤ y ∧ y < 214 + 140 * A + 140) → m1 122 y = s y) ∧ m1 122 5 = 0 ∧ (0 ≤ m1 122 (199 + A) ∧ m1 122 (199 + A) ≤ 99) ∧ (0 ≤ m1 122 (204 + A) ∧ m1 122 (204 + A) ≤ 99) ∧ 0 ≤ m1 122 (209 + A)
  have inK : ∀ m1 m2, In m1 → MoK m1 m2 A → In m2 := by
    intro m1 m2 ⟨a1, a2, ⟨a3, a4, a5⟩, a6, a7, a8, a9, a10⟩ ⟨k1, k2, k3, k4, k5, k6⟩
    refine ⟨fun c c1 c2 => by rw [k1 c c1 c2]; exact a1 c c1 c2, fun y hy => by rw [k2 y (by omega) (by omega)]; exact a2 y hy, ⟨by rw [k2 4 (by decide) (by decide)]; exact a3, by rw [k2 6 (by decide) (by decide)]; exact a4, by rw [k2 8 (by decide) (by decide)]; exact a5⟩, fun y y0 y1 y2 y3 y4 => by rw [k3 y y1 y2 y3 y4]; exact a6 y y0 y1 y2 y3 y4, by rw [k3 5 (by omega) (by omega) (by omega) (by omega)]; exact a7, by omega, by omega, by omega⟩
  have inS : ∀ m1 p, In m1 → m1 121 5 = p → 0 ≤ p → p ≤ E → MoS m1 f E A := by
    intro m1 p ⟨a1, a2, ⟨a3, a4, a5⟩, a6, a7, a8⟩ h5 p0 p1
    exact ⟨a4, b5, by rw [h5]; exact ⟨p0, p1⟩, fun i i1 i2 => by rw [a6 (99 + i) (by omega) (by omega) (by omega) (by omega) (by omega)]; exact hf i i1 i2, hfr, a3, b2.1, h2⟩
  have bad : ∀ (m1 : XM) (q v1 : Int), In m1 → m1 121 5 = q → m1 122 (209 + A) ≤ 140 → (m1 121 7 = 1 ∨ (m1 121 7 = 0 ∧ q ≠ E)) → R = (q, none) → (0 ≤ q ∧ q ≤ E) → RZ (e + 1) k_Mo_slope 145 [vR 121, vI v1] [] (zH z m1) (qz z (qi fun x m' => MoT m m' s x R)) := by
    intro m1 q v1 hI h5 hc h7 hh hq
    obtain ⟨a1, a2, ⟨a3, a4, a5⟩, a6, a7, a8, a9, a10⟩ := hI
    have e2 := a6 2 (by omega) (by omega) (by omega) (by omega) (by omega)
    have e6 := a6 6 (by omega) (by omega) (by omega) (by omega) (by omega)
    refine r_loadA a136_145 rfl (by decide) ?_
    refine r_getI (ki := 7) a136_146 ty121 rfl ?_
    refine r_ifne a136_149 (fun h_149 => ?_) (fun h_149 => ?_)
    · refine r_pushI a136_163 ?_
      refine r_loadA a136_165 rfl (by decide) ?_
      refine r_getI (ki := 5) a136_166 ty121 rfl ?_
      rw [h5]
      refine r_sub a136_169 (by omega) ?_
      refine r_retIq a136_170 ?_
      rw [hh]
      unfold MoT
      rw [hA]
      exact ⟨a1, a2, fun y y1 y2 y3 y4 y5 y6 y7 => a6 y y1 y4 y5 y6 y7, a7, Or.inr ⟨rfl, rfl, by rw [e2]; exact hA, e6, a8, a9, a10, hc⟩⟩
    · refine r_loadA a136_152 rfl (by decide) ?_
      refine r_getI (ki := 5) a136_153 ty121 rfl ?_
      rw [h5]
      refine r_loadA a136_156 rfl (by decide) ?_
      refine r_getI (ki := 6) a136_157 ty121 rfl ?_
      rw [a4]
      refine r_iceq a136_160 (fun h_160 => ?_) (fun h_160 => ?_)
      · exfalso
        omega
      · refine r_pushI a136_163 ?_
        refine r_loadA a136_165 rfl (by decide) ?_
        refine r_getI (ki := 5) a136_166 ty121 rfl ?_
        rw [h5]
        refine r_sub a136_169 (by omega) ?_
        refine r_retIq a136_170 ?_
        rw [hh]
        unfold MoT
        rw [hA]
        exact ⟨a1, a2, fun y y1 y2 y3 y4 y5 y6 y7 => a6 y y1 y4 y5 y6 y7, a7, Or.inr ⟨rfl, rfl, by rw [e2]; exact hA, e6, a8, a9, a10, hc⟩⟩
  have good : ∀ (m1 : XM) (q v1 r fo : Int) (cl : CLs), In m1 → m1 121 5 = q → m1 121 7 = 0 → q = E → R = (q, some (r, fo, cl)) → MdM m1 r fo cl A → RZ (e + 1) k_Mo_slope 145 [vR 121, vI v1] [] (zH z m1) (qz z (qi fun x m' => MoT m m' s x R)) := by
    intro m1 q v1 r fo cl hI h5 h7 hq hh hM
    obtain ⟨a1, a2, ⟨a3, a4, a5⟩, a6, a7, a8, a9, a10⟩ := hI
    have e2 := a6 2 (by omega) (by omega) (by omega) (by omega) (by omega)
    rw [hA] at e2
    have g2 := gR.2 r fo cl (by rw [hh])
    have hml : ((mSteps cl).length : Int) ≤ E := by
      have := g2.2.2.2.2.1
      rw [hh] at this
      have h' : ((mSteps cl).length : Int) ≤ q := this
      omega
    refine r_loadA a136_145 rfl (by decide) ?_
    refine r_getI (ki := 7) a136_146 ty121 rfl ?_
    rw [h7]
    refine r_ifne a136_149 (fun h_149 => ?_) (fun h_149 => ?_)
    · exfalso
      omega
    · refine r_loadA a136_152 rfl (by decide) ?_
      refine r_getI (ki := 5) a136_153 ty121 rfl ?_
      rw [h5]
      refine r_loadA a136_156 rfl (by decide) ?_
      refine r_getI (ki := 6) a136_157 ty121 rfl ?_
      rw [a4]
      refine r_iceq a136_160 (fun h_160 => ?_) (fun h_160 => ?_)
      · refine r_loadA a136_171 rfl (by decide) ?_
        refine r_getR a136_172 ty121 rf121_1 (by decide) ?_
        refine r_pushI a136_175 ?_
        refine r_dup2 a136_176 rfl rfl ?_
        refine r_iald a136_177 ty122 (by omega) ?_
        rw [e2]
        refine r_pushI a136_178 ?_
        refine r_add a136_179 (by omega) ?_
        refine r_iast a136_180 ty122 (by omega) ?_
        refine r_loadA a136_181 rfl (by decide) ?_
        refine r_getR a136_182 ty121 rf121_1 (by decide) ?_
        refine r_pushI a136_185 ?_
        refine r_loadA a136_187 rfl (by decide) ?_
        refine r_getI (ki := 4) a136_188 ty121 rfl ?_
        rw [up2_c (by decide), a3]
        refine r_iast a136_191 ty122 (by omega) ?_
        refine r_loadA a136_192 rfl (by decide) ?_
        refine r_getI (ki := 4) a136_193 ty121 rfl ?_
        rw [up2_c (by decide), up2_c (by decide), a3]
        refine r_retIq a136_196 ?_
        rw [hh]
        unfold MoT
        rw [hA]
        obtain ⟨d1, d2, d3, d4⟩ := hM
        have ey : ∀ y, y ≠ 2 → y ≠ 6 → up2 (up2 m1 122 2 (A + 1)) 122 6 A 122 y = m1 122 y := fun y y1 y2 => by rw [up2_k y2, up2_k y1]
        refine ⟨fun c c1 c2 => by rw [up2_c c2, up2_c c2]; exact a1 c c1 c2, fun y hy => by rw [up2_c (by decide), up2_c (by decide)]; exact a2 y hy, fun y y1 y2 y3 y4 y5 y6 y7 => by rw [ey y y2 y3]; exact a6 y y1 y4 y5 y6 y7, by rw [ey 5 (by decide) (by decide)]; exact a7, Or.inl ⟨r, fo, cl, rfl, rfl, by rw [up2_k (by decide), up2_s], by rw [up2_s], ?_, ?_, ?_, ?_⟩⟩
        · rw [ey _ (by omega) (by omega)]; exact d1
        · rw [ey _ (by omega) (by omega)]; exact d2
        · rw [ey _ (by omega) (by omega)]; exact d3
        · exact Seg_le d4 (fun i i1 i2 => ey i (by omega) (by omega))
      · exfalso
        omega
  -- behind a clause
  have head : ∀ (n : Nat) (v1 : Int), v1 + n = 10 → 1 ≤ v1 → (∀ (m1 : XM) (p r fo : Int) (cl : CLs), 0 < n → In m1 → m1 121 5 = p → 0 ≤ p → p ≤ E → m1 121 7 = 0 → MdM m1 r fo cl A → m1 122 (209 + A) ≤ p → pTape f E n p r fo cl = R → RZ (e + 1) k_Mo_slope 135 [vR 121, vI v1] [] (zH z m1) (qz z (qi fun x m' => MoT m m' s x R))) →
      ∀ (m1 : XM) (p0 r0 fo0 : Int) (cl0 : CLs) (m0 : XM), In m0 → 0 ≤ p0 → p0 ≤ E → MoC m0 m1 A (pClause f E p0 r0 fo0 cl0) → pTape f E (n + 1) p0 r0 fo0 cl0 = R → RZ (e + 1) k_Mo_slope 103 [vR 121, vI v1] [] (zH z m1) (qz z (qi fun x m' => MoT m m' s x R)) := by
    intro n v1 hv hv1 next m1 p0 r0 fo0 cl0 m0 hI0 hp0 hp1 hC hh
    have gc := pClause_good (f := f) (r := r0) (fo := fo0) (cl := cl0) hp0 hp1
    rw [pTape_s] at hh
    obtain ⟨C, hCC⟩ : ∃ C, pClause f E p0 r0 fo0 cl0 = C := ⟨_, rfl⟩
    rw [hCC] at hC gc hh
    obtain ⟨q, C2⟩ := C
    obtain ⟨kk, k5, kc, kr⟩ := hC
    have k5' : m1 121 5 = q := k5
    have kc' : m1 122 (209 + A) ≤ q := kc
    have gc1 : p0 ≤ q := gc.1
    have gc2 : q ≤ E := gc.2.1
    have hI := inK m0 m1 hI0 kk
    cases C2 with
    | none =>
      have hh' : (q, none) = R := hh
      have h7 : m1 121 7 = 1 := by
        rcases kr with ⟨_, _, _, u, _⟩ | ⟨_, u⟩
        · have u' : (none : Option (Int × Int × CLs)) = some _ := u
          simp at u'
        · exact u
      have b := bad m1 q v1 hI k5' (by omega) (Or.inl h7) hh'.symm (by omega)
      refine r_loadA a136_103 rfl (by decide) ?_
      refine r_getI (ki := 7) a136_104 ty121 rfl ?_
      rw [h7]
      refine r_ifne a136_107 (fun h_107 => ?_) (fun h_107 => ?_)
      · exact b
      · exfalso
        omega
    | some x =>
      obtain ⟨r', fo', cl'⟩ := x
      have hh' : hdT f E n q r' fo' cl' = R := hh
      have ok : m1 121 7 = 0 ∧ MdM m1 r' fo' cl' A := by
        rcases kr with ⟨r2, fo2, cl2, u, v, w⟩ | ⟨u, _⟩
        · have u' : some (r', fo', cl') = some (r2, fo2, cl2) := u
          simp only [Option.some.injEq, Prod.mk.injEq] at u'
          obtain ⟨a, b, c⟩ := u'
          subst a; subst b; subst c
          exact ⟨v, w⟩
        · have u' : some (r', fo', cl') = (none : Option (Int × Int × CLs)) := u
          simp at u'
      obtain ⟨h7, hM⟩ := ok
      have hS1 := inS m1 q hI k5' (by omega) gc2
      have t117 := c_Mo_here e z m1 f E A hS1
      rw [k5'] at t117
      have hlt := @atP_lt f E q
      unfold hdT at hh'
      have exit : (E ≤ q ∨ n = 0 ∨ atP f E q ≠ 59) → RZ (e + 1) k_Mo_slope 145 [vR 121, vI v1] [] (zH z m1) (qz z (qi fun x m' => MoT m m' s x R)) := by
        intro hx
        by_cases e1 : E ≤ q
        · rw [if_pos e1] at hh'
          exact good m1 q v1 r' fo' cl' hI k5' h7 (by omega) hh'.symm hM
        · rw [if_neg e1] at hh'
          by_cases e2 : n = 0
          · rw [if_pos e2] at hh'
            exact bad m1 q v1 hI k5' (by omega) (Or.inr ⟨h7, by omega⟩) hh'.symm (by omega)
          · have e3 : atP f E q ≠ 59 := by
              rcases hx with h | h | h
              · exact absurd h e1
              · exact absurd h e2
              · exact h
            rw [if_neg e2, if_neg e3] at hh'
            exact bad m1 q v1 hI k5' (by omega) (Or.inr ⟨h7, by omega⟩) hh'.symm (by omega)
      refine r_loadA a136_103 rfl (by decide) ?_
      refine r_getI (ki := 7) a136_104 ty121 rfl ?_
      rw [h7]
      refine r_ifne a136_107 (fun h_107 => ?_) (fun h_107 => ?_)
      · exfalso
        omega
      · refine r_loadI a136_110 rfl ?_
        refine r_pushI a136_111 ?_
        refine r_icge a136_113 (fun h_113 => ?_) (fun h_113 => ?_)
        · exact exit (Or.inr (Or.inl (by omega)))
        · refine r_loadA a136_116 rfl (by decide) ?_
          refine r_callI_1 a136_117 (Nat.le_of_ble_eq_true rfl) (le_mx mx124 (Nat.le_of_ble_eq_true rfl)) (Or.inr (recv_ok ty121 ow124 (by decide))) (t117) (fun x_117 m_117 h_117 => ?_)
          obtain ⟨hm_117, h_117⟩ := h_117
          rw [hm_117]
          refine r_pushI a136_120 ?_
          refine r_icne a136_122 (fun h_122 => ?_) (fun h_122 => ?_)
          · exact exit (Or.inr (Or.inr (by omega)))
          · refine r_loadA a136_125 rfl (by decide) ?_
            refine r_dup a136_126 rfl ?_
            refine r_getI (ki := 5) a136_127 ty121 rfl ?_
            rw [k5']
            refine r_pushI a136_130 ?_
            refine r_add a136_131 (by omega) ?_
            refine r_putI (ki := 5) a136_132 ty121 rfl ?_
            have hq := hlt (by omega)
            rw [if_neg (by omega), if_neg (by omega), if_pos (by omega)] at hh'
            obtain ⟨a1, a2, ⟨a3, a4, a5⟩, a6, a7, a8, a9, a10⟩ := hI
            obtain ⟨d1, d2, d3, d4⟩ := hM
            refine next (up2 m1 121 5 (q + 1)) (q + 1) r' fo' cl' (by omega) ⟨fun c c1 c2 => by rw [up2_c c1]; exact a1 c c1 c2, fun y hy => by rw [up2_k (by omega)]; exact a2 y hy, ⟨by rw [up2_k (by decide)]; exact a3, by rw [up2_k (by decide)]; exact a4, by rw [up2_k (by decide)]; exact a5⟩, by rw [up2_c (by decide)]; exact a6, by rw [up2_c (by decide)]; exact a7, by rw [up2_c (by decide)]; exact a8, by rw [up2_c (by decide)]; exact a9, by rw [up2_c (by decide)]; exact a10⟩ (up2_s _ _ _ _) (by omega) (by omega) (by rw [up2_k (by decide)]; exact h7) ⟨by rw [up2_c (by decide)]; exact d1, by rw [up2_c (by decide)]; exact d2, by rw [up2_c (by decide)]; exact d3, by rw [up2_c (by decide)]; exact d4⟩ (by rw [up2_c (by decide)]; omega) hh'
  -- a clause is called
  have clause : ∀ (m1 : XM) (p r fo : Int) (cl : CLs), In m1 → m1 121 5 = p → 0 ≤ p → p ≤ E → m1 121 7 = 0 → MdM m1 r fo cl A → m1 122 (209 + A) ≤ p → CV e k_Mo_clauseHere z m1 [vR 121] (fun m' => MoC m1 m' A (pClause f E p r fo cl)) := by
    intro m1 p r fo cl hI h5 p0 p1 h7 hM hc
    exact c_Mo_clauseHere e z m1 f E A p r fo cl (by omega) ⟨inS m1 p hI h5 p0 p1, h7, hI.2.2.2.2.2.2.2, by rw [h5]; exact hc⟩ hI.2.2.1.2.2 h5 hM
  have all : ∀ (n : Nat) (v1 : Int), v1 + n = 10 → 1 ≤ v1 → ∀ (m1 : XM) (p0 r0 fo0 : Int) (cl0 : CLs) (m0 : XM), In m0 → 0 ≤ p0 → p0 ≤ E → MoC m0 m1 A (pClause f E p0 r0 fo0 cl0) → pTape f E (n + 1) p0 r0 fo0 cl0 = R → RZ (e + 1) k_Mo_slope 103 [vR 121, vI v1] [] (zH z m1) (qz z (qi fun x m' => MoT m m' s x R)) := by
    intro n
    induction n with
    | zero => intro v1 hv hv1; exact head 0 v1 hv hv1 (fun m1 p r fo cl h => absurd h (by decide))
    | succ n ih =>
      intro v1 hv hv1
      refine head (n + 1) v1 hv hv1 (fun m1 p r fo cl _ hI h5 p0 p1 h7 hM hc hh => ?_)
      refine r_loadA a136_135 rfl (by decide) ?_
      refine r_callV_1 a136_136 (Nat.le_of_ble_eq_true rfl) (le_mx mx135 (Nat.le_of_ble_eq_true rfl)) (Or.inr (recv_ok ty121 ow135 (by decide))) (clause m1 p r fo cl hI h5 p0 p1 h7 hM hc) (fun m_136 h_136 => ?_)
      refine r_iinc_1 a136_139 rfl (by push_cast at hv; omega) ?_
      refine r_goto a136_142 ?_
      exact ih (v1 + 1) (by push_cast at hv; omega) (by omega) m_136 p r fo cl m1 hI p0 p1 h_136 hh
  have start : ∀ m1 : XM, In m1 → m1 121 5 = 0 → m1 121 7 = 0 → m1 122 (199 + A) = 0 → m1 122 (204 + A) = 0 → m1 122 (209 + A) = 0 → RZ (e + 1) k_Mo_slope 97 [vR 121, vR 0] [] (zH z m1) (qz z (qi fun x m' => MoT m m' s x R)) := by
    intro m1 hI h5 h7 z1 z2 z3
    refine r_pushI a136_97 ?_
    refine r_storeI_1 a136_98 rfl ?_
    refine r_loadA a136_99 rfl (by decide) ?_
    refine r_callV_1 a136_100 (Nat.le_of_ble_eq_true rfl) (le_mx mx135 (Nat.le_of_ble_eq_true rfl)) (Or.inr (recv_ok ty121 ow135 (by decide))) (clause m1 0 0 0 [] hI h5 (by omega) b5.1 h7 ⟨z1, z2, z3, trivial⟩ (by omega)) (fun m_100 h_100 => ?_)
    exact all 9 1 (by omega) (by omega) m_100 0 0 0 [] m1 hI (by omega) b5.1 h_100 hR
  refine r_entry mx136 rfl ?_
  refine r_loadA a136_0 rfl (by decide) ?_
  refine r_getR a136_1 ty121 rf121_1 (by decide) ?_
  refine r_pushI a136_4 ?_
  refine r_iald a136_5 ty122 (by omega) ?_
  rw [hm, hA]
  refine r_pushI a136_6 ?_
  refine r_icne a136_7 (fun h_7 => ?_) (fun h_7 => ?_)
  · refine r_loadA a136_13 rfl (by decide) ?_
    refine r_loadA a136_14 rfl (by decide) ?_
    refine r_getR a136_15 ty121 rf121_1 (by decide) ?_
    refine r_pushI a136_18 ?_
    refine r_iald a136_19 ty122 (by omega) ?_
    rw [hm, hA]
    refine r_putI (ki := 4) a136_20 ty121 rfl ?_
    refine r_loadA a136_23 rfl (by decide) ?_
    refine r_loadA a136_24 rfl (by decide) ?_
    refine r_getR a136_25 ty121 rf121_1 (by decide) ?_
    refine r_pushI a136_28 ?_
    refine r_iald a136_29 ty122 (by omega) ?_
    rw [up2_c (by decide), hm, hE]
    refine r_putI (ki := 6) a136_30 ty121 rfl ?_
    refine r_loadA a136_33 rfl (by decide) ?_
    refine r_getR a136_34 ty121 rf121_1 (by decide) ?_
    refine r_pushI a136_37 ?_
    refine r_pushI a136_38 ?_
    refine r_iast a136_39 ty122 (by omega) ?_
    refine r_loadA a136_40 rfl (by decide) ?_
    refine r_getR a136_41 ty121 rf121_1 (by decide) ?_
    refine r_pushI a136_44 ?_
    refine r_loadA a136_47 rfl (by decide) ?_
    refine r_getI (ki := 4) a136_48 ty121 rfl ?_
    rw [up2_c (by decide), up2_k (by decide), up2_s]
    refine r_add a136_51 (by omega) ?_
    refine r_pushI a136_52 ?_
    refine r_iast a136_53 ty122 (by omega) ?_
    refine r_loadA a136_54 rfl (by decide) ?_
    refine r_getR a136_55 ty121 rf121_1 (by decide) ?_
    refine r_pushI a136_58 ?_
    refine r_loadA a136_61 rfl (by decide) ?_
    refine r_getI (ki := 4) a136_62 ty121 rfl ?_
    rw [up2_c (by decide), up2_c (by decide), up2_k (by decide), up2_s]
    refine r_add a136_65 (by omega) ?_
    refine r_pushI a136_66 ?_
    refine r_iast a136_67 ty122 (by omega) ?_
    refine r_loadA a136_68 rfl (by decide) ?_
    refine r_getR a136_69 ty121 rf121_1 (by decide) ?_
    refine r_pushI a136_72 ?_
    refine r_loadA a136_75 rfl (by decide) ?_
    refine r_getI (ki := 4) a136_76 ty121 rfl ?_
    rw [up2_c (by decide), up2_c (by decide), up2_c (by decide), up2_k (by decide), up2_s]
    refine r_add a136_79 (by omega) ?_
    refine r_pushI a136_80 ?_
    refine r_iast a136_81 ty122 (by omega) ?_
    refine r_loadA a136_82 rfl (by decide) ?_
    refine r_pushI a136_83 ?_
    refine r_putI (ki := 5) a136_84 ty121 rfl ?_
    refine r_loadA a136_87 rfl (by decide) ?_
    refine r_pushI a136_88 ?_
    refine r_putZ (ki := 7) a136_89 ty121 rfl (by omega) ?_
    refine r_loadA a136_92 rfl (by decide) ?_
    refine r_pushI a136_93 ?_
    refine r_putI (ki := 8) a136_94 ty121 rfl ?_
    have ey : ∀ y, y ≠ 5 → y ≠ 199 + A → y ≠ 204 + A → y ≠ 209 + A → up2 (up2 (up2 (up2 (up2 (up2 (up2 (up2 (up2 m 121 4 A) 121 6 E) 122 5 0) 122 (199 + A) 0) 122 (204 + A) 0) 122 (209 + A) 0) 121 5 0) 121 7 0) 121 8 0 122 y = s y := fun y y1 y2 y3 y4 => by
      rw [up2_c (by decide), up2_c (by decide), up2_c (by decide), up2_k y4, up2_k y3, up2_k y2, up2_k y1, up2_c (by decide), up2_c (by decide), hm]
    refine start _ ⟨fun c c1 c2 => ?_, fun y hy => ?_, ⟨?_, ?_, ?_⟩, fun y y1 y2 y3 y4 _ => ey y y1 y2 y3 y4, ?_, ?_, ?_, ?_⟩ ?_ ?_ ?_ ?_ ?_
    · rw [up2_c c1, up2_c c1, up2_c c1, up2_c c2, up2_c c2, up2_c c2, up2_c c2, up2_c c1, up2_c c1]
    · rw [up2_k (by omega), up2_k (by omega), up2_k (by omega), up2_c (by decide), up2_c (by decide), up2_c (by decide), up2_c (by decide), up2_k (by omega), up2_k (by omega)]
    · rw [up2_k (by decide), up2_k (by decide), up2_k (by decide), up2_c (by decide), up2_c (by decide), up2_c (by decide), up2_c (by decide), up2_k (by decide), up2_s]
    · rw [up2_k (by decide), up2_k (by decide), up2_k (by decide), up2_c (by decide), up2_c (by decide), up2_c (by decide), up2_c (by decide), up2_s]
    · rw [up2_s]
    · rw [up2_c (by decide), up2_c (by decide), up2_c (by decide), up2_k (by omega), up2_k (by omega), up2_k (by omega), up2_s]
    · rw [up2_c (by decide), up2_c (by decide), up2_c (by decide), up2_k (by omega), up2_k (by omega), up2_s]; omega
    · rw [up2_c (by decide), up2_c (by decide), up2_c (by decide), up2_k (by omega), up2_s]; omega
    · rw [up2_c (by decide), up2_c (by decide), up2_c (by decide), up2_s]; omega
    · rw [up2_k (by decide), up2_k (by decide), up2_s]
    · rw [up2_k (by decide), up2_s]
    · rw [up2_c (by decide), up2_c (by decide), up2_c (by decide), up2_k (by omega), up2_k (by omega), up2_s]
    · rw [up2_c (by decide), up2_c (by decide), up2_c (by decide), up2_k (by omega), up2_s]
    · rw [up2_c (by decide), up2_c (by decide), up2_c (by decide), up2_s]
  · exfalso
    omega
