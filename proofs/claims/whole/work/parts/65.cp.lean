-- ===== both sides alike =====
def ImgOk (m : XM) : Prop := m 32 2 = m 121 3 ∧ (m 121 3 = 0 ∨ m 121 3 = 1) ∧ (m 121 3 = 1 → ∃ cl, okS (m 123) ∧ RepB m (m 123) 55 ∧ ClB m 55 cl ∧ ClS (m 123) cl)
def ActOk (m : XM) : Prop := m 118 0 = m 121 43 ∧ (0 ≤ m 121 43 ∧ m 121 43 < 1000) ∧ ∀ i, 0 ≤ i → i < 20 → i < m 121 43 → m 119 i = m 140 i
def Cpl (m : XM) : Prop := ∃ s cl, CpC m s cl ∧ CpM m s cl ∧ ImgOk m ∧ ActOk m
theorem ImgOk_c {m m2 : XM} (h1 : m2 32 2 = m 32 2) (h2 : m2 121 3 = m 121 3) (h3 : m2 123 = m 123) (h4 : ∀ x, 55 ≤ x → x ≤ 76 → m2 x = m x) (h : ImgOk m) : ImgOk m2 := by
  obtain ⟨a, b, c⟩ := h
  refine ⟨by rw [h1, h2]; exact a, by rw [h2]; exact b, fun q => ?_⟩
  rw [h2] at q
  obtain ⟨cl, c1, c2, c3, c4⟩ := c q
  rw [h3]
  exact ⟨cl, c1, RepB_cong (fun x x1 x2 _ => h4 x x1 (by omega)) c2, ClB_cong (fun x x1 x2 => h4 x (by omega) (by omega)) c3, c4⟩
theorem ActOk_c {m m2 : XM} (h1 : m2 118 0 = m 118 0) (h2 : m2 121 43 = m 121 43) (h3 : m2 119 = m 119) (h4 : m2 140 = m 140) (h : ActOk m) : ActOk m2 := by
  unfold ActOk; rw [h1, h2, h3, h4]; exact h
theorem CpM_C {m m1 : XM} {s : Int → Int} {cl : CLs} (k : KC m m1) (h : CpM m s cl) : CpM m1 s cl := by
  obtain ⟨a, b, c, e⟩ := h
  exact ⟨by rw [k.1 122 (by decide) (by decide) (by decide)]; exact a, b, c, by rw [k.1 121 (by decide) (by decide) (by decide)]; exact e⟩
theorem CpC_M {m m1 : XM} {s : Int → Int} {cl : CLs} (k : KM m m1) (h : CpC m s cl) : CpC m1 s cl := by
  obtain ⟨h1, h2, h3, h4, h5⟩ := h
  exact ⟨h1, RepB_cong (fun x a b c => k.1 x (by omega) (by omega)) h2, ClB_cong (fun x a b => k.1 x (by omega) (by omega)) h3, by rw [k.1 90 (by decide) (by decide)]; exact h4, by rw [k.1 103 (by decide) (by decide)]; exact h5⟩
theorem Cpl_q {m m1 m2 : XM} (hC : Cpl m) (k1 : KC m m1) (k2 : KM m1 m2) : Cpl m2 := by
  obtain ⟨s, cl, h1, h2, h3, h4⟩ := hC
  have f : ∀ x, ¬ (85 ≤ x ∧ x ≤ 117) → x ≠ 48 → x ≠ 120 → x ≠ 121 → ¬ (124 ≤ x ∧ x ≤ 139) → m2 x = m x := fun x a b c d e => by rw [k2.1 x d e, k1.1 x a b c]
  have e3 : m2 121 3 = m 121 3 := by rw [k2.2.1, k1.1 121 (by decide) (by decide) (by decide)]
  have e43 : m2 121 43 = m 121 43 := by rw [k2.2.2.2.2, k1.1 121 (by decide) (by decide) (by decide)]
  exact ⟨s, cl, CpC_M k2 (CpC_K k1 h1), CpM_K k2 (CpM_C k1 h2),
    ImgOk_c (by rw [f 32 (by decide) (by decide) (by decide) (by decide) (by decide)]) e3 (f 123 (by decide) (by decide) (by decide) (by decide) (by decide)) (fun x a b => f x (by omega) (by omega) (by omega) (by omega) (by omega)) h3,
    ActOk_c (by rw [f 118 (by decide) (by decide) (by decide) (by decide) (by decide)]) e43 (f 119 (by decide) (by decide) (by decide) (by decide) (by decide)) (f 140 (by decide) (by decide) (by decide) (by decide) (by decide)) h4⟩
theorem Cpl_1 {m m1 m2 : XM} (k1 : KC m m1) (k2 : KM m1 m2) : m2 1 = m 1 := by rw [k2.1 1 (by decide) (by decide), k1.1 1 (by decide) (by decide) (by decide)]
/-- one answer of both, as a whole number -/
abbrev JI (d z F M : Nat) (m : XM) (as1 as2 : List XV) : Prop := CI d F z m as1 (fun x m1 => CI d M z m1 as2 (fun y m2 => x = y ∧ Cpl m2 ∧ m2 1 = m 1))
abbrev JL (d z F M : Nat) (m : XM) (as1 as2 : List XV) : Prop := CL d F z m as1 (fun x m1 => CL d M z m1 as2 (fun y m2 => x = y ∧ Cpl m2 ∧ m2 1 = m 1))
theorem pairI {d z F M : Nat} {m : XM} {as1 as2 : List XV} {f : (Int → Int) → CLs → Int} (hC : Cpl m) (hF : ∀ s cl, CpC m s cl → CI d F z m as1 (fun x m1 => KC m m1 ∧ x = f s cl))
    (hM : ∀ m1 s cl, CpM m1 s cl → CI d M z m1 as2 (fun y m2 => KM m1 m2 ∧ y = f s cl)) : JI d z F M m as1 as2 := by
  have hC' := hC
  obtain ⟨s, cl, h1, h2, h3, h4⟩ := hC'
  exact (hF s cl h1).imp fun x m1 ⟨k1, e1⟩ => (hM m1 s cl (CpM_C k1 h2)).imp fun y m2 ⟨k2, e2⟩ => ⟨e1.trans e2.symm, Cpl_q hC k1 k2, Cpl_1 k1 k2⟩
theorem pairL {d z F M : Nat} {m : XM} {as1 as2 : List XV} {f : (Int → Int) → CLs → Int} (hC : Cpl m) (hF : ∀ s cl, CpC m s cl → CL d F z m as1 (fun x m1 => KC m m1 ∧ x = f s cl))
    (hM : ∀ m1 s cl, CpM m1 s cl → CL d M z m1 as2 (fun y m2 => KM m1 m2 ∧ y = f s cl)) : JL d z F M m as1 as2 := by
  have hC' := hC
  obtain ⟨s, cl, h1, h2, h3, h4⟩ := hC'
  exact (hF s cl h1).imp fun x m1 ⟨k1, e1⟩ => (hM m1 s cl (CpM_C k1 h2)).imp fun y m2 ⟨k2, e2⟩ => ⟨e1.trans e2.symm, Cpl_q hC k1 k2, Cpl_1 k1 k2⟩
theorem J_would (d z : Nat) (m : XM) (k v : Int) (hd : 25 ≤ d) (hv : -2147483648 ≤ v ∧ v < 2147483648) (hC : Cpl m) : JI d z k_Fg_would k_Mo_would m [vR 32, vI k, vI v] [vR 121, vI k, vI v] :=
  pairI (f := fun s cl => aWould s cl k v) hC (fun s cl h => c_Fg_would d z m s cl k v (by omega) h hv) (fun m1 s cl h => c_Mo_would d z m1 s cl k v (by omega) h hv)
theorem J_quickest (d z : Nat) (m : XM) (k i : Int) (hd : 25 ≤ d) (hC : Cpl m) : JI d z k_Fg_quickest k_Mo_quickest m [vR 32, vI k, vI i] [vR 121, vI k, vI i] :=
  pairI (f := fun s cl => aBest s cl k i 0) hC (fun s cl h => c_Fg_quickest d z m s cl k i (by omega) h) (fun m1 s cl h => c_Mo_quickest d z m1 s cl k i (by omega) h)
theorem J_clean (d z : Nat) (m : XM) (k i : Int) (hd : 25 ≤ d) (hC : Cpl m) : JI d z k_Fg_clean k_Mo_clean m [vR 32, vI k, vI i] [vR 121, vI k, vI i] :=
  pairI (f := fun s cl => aBest s cl k i 1) hC (fun s cl h => c_Fg_clean d z m s cl k i (by omega) h) (fun m1 s cl h => c_Mo_clean d z m1 s cl k i (by omega) h)
theorem J_sure (d z : Nat) (m : XM) (k l i : Int) (hd : 25 ≤ d) (hC : Cpl m) : JI d z k_Fg_sure k_Mo_sure m [vR 32, vI k, vI l, vI i] [vR 121, vI k, vI l, vI i] :=
  pairI (f := fun s cl => aSure s cl k l i) hC (fun s cl h => c_Fg_sure d z m s cl k l i (by omega) h) (fun m1 s cl h => c_Mo_sure d z m1 s cl k l i (by omega) h)
theorem J_carry (d z : Nat) (m : XM) (k g : Int) (hd : 25 ≤ d) (hC : Cpl m) : JI d z k_Fg_carry k_Mo_carry m [vR 32, vI k, vI g] [vR 121, vI k, vI g] :=
  pairI (f := fun s cl => aCarry s cl k g) hC (fun s cl h => c_Fg_carry d z m s cl k g (by omega) h) (fun m1 s cl h => c_Mo_carry d z m1 s cl k g (by omega) h)
theorem J_start (d z : Nat) (m : XM) (k n : Int) (hd : 25 ≤ d) (hC : Cpl m) : JI d z k_Fg_start k_Mo_start m [vR 32, vI k, vI n] [vR 121, vI k, vI n] :=
  pairI (f := fun s cl => aStart s cl k n) hC (fun s cl h => c_Fg_start d z m s cl k n (by omega) h) (fun m1 s cl h => c_Mo_start d z m1 s cl k n (by omega) h)
theorem J_rutted (d z : Nat) (m : XM) (k : Int) (hd : 25 ≤ d) (hC : Cpl m) : JI d z k_Fg_rutted k_Mo_rutted m [vR 32, vI k] [vR 121, vI k] :=
  pairI (f := fun s cl => aRutted s cl k) hC (fun s cl h => c_Fg_rutted d z m s cl k (by omega) h) (fun m1 s cl h => c_Mo_rutted d z m1 s cl k (by omega) h)
theorem J_wax (d z : Nat) (m : XM) (k : Int) (hd : 25 ≤ d) (hC : Cpl m) : JI d z k_Fg_wax k_Mo_wax m [vR 32, vI k] [vR 121, vI k] :=
  pairI (f := fun s cl => aWax s cl k) hC (fun s cl h => c_Fg_wax d z m s cl k (by omega) h) (fun m1 s cl h => c_Mo_wax d z m1 s cl k (by omega) h)
theorem J_loses (d z : Nat) (m : XM) (a b p : Int) (hd : 25 ≤ d) (hC : Cpl m) : JI d z k_Fg_loses k_Mo_loses m [vR 32, vI a, vI b, vI p] [vR 121, vI a, vI b, vI p] :=
  pairI (f := fun s cl => aLoses s cl a b p) hC (fun s cl h => c_Fg_loses d z m s cl a b p (by omega) h) (fun m1 s cl h => c_Mo_loses d z m1 s cl a b p (by omega) h)
theorem J_set (d z : Nat) (m : XM) (a b : Int) (hd : 25 ≤ d) (hC : Cpl m) : JI d z k_Fg_set k_Mo_set m [vR 32, vI a, vI b] [vR 121, vI a, vI b] :=
  pairI (f := fun s cl => aSet s cl a b) hC (fun s cl h => c_Fg_set d z m s cl a b (by omega) h) (fun m1 s cl h => c_Mo_set d z m1 s cl a b (by omega) h)
theorem J_rank (d z : Nat) (m : XM) (k : Int) (hd : 25 ≤ d) (hC : Cpl m) : JI d z k_Fg_rank k_Mo_rank m [vR 32, vI k] [vR 121, vI k] :=
  pairI (f := fun s cl => aRank s cl k) hC (fun s cl h => c_Fg_rank d z m s cl k (by omega) h) (fun m1 s cl h => c_Mo_rank d z m1 s cl k (by omega) h)
theorem J_slowest (d z : Nat) (m : XM) (k : Int) (hd : 25 ≤ d) (hC : Cpl m) : JI d z k_Fg_slowest k_Mo_slowest m [vR 32, vI k] [vR 121, vI k] :=
  pairI (f := fun s cl => aSlow s cl k) hC (fun s cl h => c_Fg_slowest d z m s cl k (by omega) h) (fun m1 s cl h => c_Mo_slowest d z m1 s cl k (by omega) h)
theorem J_fits (d z : Nat) (m : XM) (k i : Int) (hd : 25 ≤ d) (hC : Cpl m) : JI d z k_Fg_fits k_Mo_fits m [vR 32, vI k, vI i] [vR 121, vI k, vI i] :=
  pairI (f := fun s cl => aFits s cl k i) hC (fun s cl h => c_Fg_fits d z m s cl k i (by omega) h) (fun m1 s cl h => c_Mo_fits d z m1 s cl k i (by omega) h)
theorem J_who (d z : Nat) (m : XM) (hd : 25 ≤ d) (hC : Cpl m) : JI d z k_Fg_who k_Mo_who m [vR 32] [vR 121] :=
  pairI (f := fun s cl => whoI s cl (s 1).toNat) hC (fun s cl h => c_Fg_who d z m s cl (by omega) h) (fun m1 s cl h => c_Mo_who d z m1 s cl (by omega) h)
theorem J_looked (d z : Nat) (m : XM) (hd : 25 ≤ d) (hC : Cpl m) : JI d z k_Fg_looked k_Mo_looked m [vR 32] [vR 121] :=
  pairI (f := fun s cl => aLooked s cl) hC (fun s cl h => c_Fg_looked d z m s cl (by omega) h) (fun m1 s cl h => c_Mo_looked d z m1 s cl (by omega) h)
theorem J_up (d z : Nat) (m : XM) (k p : Int) (hd : 25 ≤ d) (hC : Cpl m) : JL d z k_Fg_up k_Mo_up m [vR 32, vI k, vI p] [vR 121, vI k, vI p] :=
  pairL (f := fun s cl => aUp s cl k p) hC (fun s cl h => c_Fg_up d z m s cl k p (by omega) h) (fun m1 s cl h => c_Mo_up d z m1 s cl k p (by omega) h)
theorem J_surest (d z : Nat) (m : XM) (k l p : Int) (hd : 25 ≤ d) (hC : Cpl m) : JL d z k_Fg_surest k_Mo_surest m [vR 32, vI k, vI l, vI p] [vR 121, vI k, vI l, vI p] :=
  pairL (f := fun s cl => aSurest s cl k l p) hC (fun s cl h => c_Fg_surest d z m s cl k l p (by omega) h) (fun m1 s cl h => c_Mo_surest d z m1 s cl k l p (by omega) h)
theorem J_wins (d z : Nat) (m : XM) (a b v p : Int) (hd : 25 ≤ d) (hC : Cpl m) : JL d z k_Fg_wins k_Mo_wins m [vR 32, vI a, vI b, vI v, vI p] [vR 121, vI a, vI b, vI v, vI p] :=
  pairL (f := fun s cl => aWins s cl a b v p) hC (fun s cl h => c_Fg_wins d z m s cl a b v p (by omega) h) (fun m1 s cl h => c_Mo_wins d z m1 s cl a b v p (by omega) h)
theorem J_risk (d z : Nat) (m : XM) (a b v p : Int) (hd : 25 ≤ d) (hC : Cpl m) : JL d z k_Fg_risk k_Mo_risk m [vR 32, vI a, vI b, vI v, vI p] [vR 121, vI a, vI b, vI v, vI p] :=
  pairL (f := fun s cl => aRisk s cl a b v p) hC (fun s cl h => c_Fg_risk d z m s cl a b v p (by omega) h) (fun m1 s cl h => c_Mo_risk d z m1 s cl a b v p (by omega) h)
theorem J_mean (d z : Nat) (m : XM) (p : Int) (hd : 25 ≤ d) (hC : Cpl m) : JL d z k_Fg_mean k_Mo_mean m [vR 32, vI p] [vR 121, vI p] :=
  pairL (f := fun s cl => aMean s cl p) hC (fun s cl h => c_Fg_mean d z m s cl p (by omega) h) (fun m1 s cl h => c_Mo_mean d z m1 s cl p (by omega) h)
theorem Cpl_rt (s : Int → Int) : ((s 6 = -1 ∧ rutS s = 0) ∨ (0 ≤ s 6 ∧ rutS s = s (199 + s 6)) ∨ s 6 < -1) ∧ ((s 6 = -1 ∧ fogS s = 0) ∨ (0 ≤ s 6 ∧ fogS s = s (204 + s 6)) ∨ s 6 < -1) := by
  unfold rutS fogS
  by_cases q : s 6 = -1
  · rw [if_pos q, if_pos q]; omega
  · rw [if_neg q, if_neg q]; omega
theorem Cpl_s {m : XM} (hC : Cpl m) : okS (m 122) := by
  obtain ⟨s, cl, h1, h2, _⟩ := hC
  rw [h2.1]; exact h2.2.1
theorem J_of (d z : Nat) (m : XM) (g w : Int) (hd : 25 ≤ d) (hC : Cpl m) : JI d z k_Fg_of k_Mo_of m [vR 32, vI g, vI w] [vR 121, vI g, vI w] := by
  have hC' := hC
  obtain ⟨s, cl, h1, h2, h3, h4⟩ := hC'
  refine (c_Fg_of d z m s cl g w (by omega) h1).imp fun x m1 ⟨a, b⟩ => ?_
  rw [a]
  refine (c_Mo_of d z m g w (by omega) (Cpl_s hC)).imp fun y m2 ⟨p, q⟩ => ?_
  rw [p]
  rw [h2.1] at q
  exact ⟨by omega, hC, rfl⟩
theorem J_told (d z : Nat) (m : XM) (w : Int) (hd : 25 ≤ d) (hC : Cpl m) : JI d z k_Fg_told k_Mo_told m [vR 32, vI w] [vR 121, vI w] := by
  have hC' := hC
  obtain ⟨s, cl, h1, h2, h3, h4⟩ := hC'
  refine (c_Fg_told d z m s cl w h1).imp fun x m1 ⟨a, b⟩ => ?_
  rw [a]
  refine (c_Mo_told d z m w (by omega) (Cpl_s hC)).imp fun y m2 ⟨p, q⟩ => ?_
  rw [p]
  rw [h2.1] at q
  have hr := Cpl_rt s
  exact ⟨by omega, hC, rfl⟩
theorem J_count (d z : Nat) (m : XM) (w : Int) (hd : 25 ≤ d) (hC : Cpl m) : JI d z k_Fg_count k_Mo_count m [vR 32, vI w] [vR 121, vI w] := by
  have hC' := hC
  obtain ⟨s, cl, h1, h2, h3, h4⟩ := hC'
  refine (c_Fg_count d z m s cl w h1).imp fun x m1 ⟨a, b⟩ => ?_
  rw [a]
  refine (c_Mo_count d z m w (by omega)).imp fun y m2 ⟨p, q⟩ => ?_
  rw [p]
  rw [h2.1] at q
  have h := h4.1
  exact ⟨by omega, hC, rfl⟩
theorem J_trace (d z : Nat) (m : XM) (i : Int) (hd : 25 ≤ d) (hC : Cpl m) : JI d z k_Fg_trace k_Mo_trace m [vR 32, vI i] [vR 121, vI i] := by
  have hC' := hC
  obtain ⟨s, cl, h1, h2, h3, a1, a2, a3⟩ := hC'
  refine (c_Fg_trace d z m i (by omega) (by rw [a1]; exact a2)).imp fun x m1 ⟨a, b⟩ => ?_
  rw [a]
  refine (c_Mo_trace d z m i (by omega) a2).imp fun y m2 ⟨p, q⟩ => ?_
  rw [p]
  have h := a3 i
  refine ⟨?_, hC, rfl⟩
  by_cases c : 0 ≤ i ∧ i < m 121 43 ∧ i < 20
  · have := h c.1 c.2.2 c.2.1
    omega
  · omega
theorem J_as (d z : Nat) (m : XM) (g k : Int) (hd : 25 ≤ d) (hC : Cpl m) : JI d z k_Fg_as k_Mo_as m [vR 32, vI g, vI k] [vR 121, vI g, vI k] := by
  have hC' := hC
  obtain ⟨s, cl, h1, h2, h3, h4⟩ := hC'
  refine (c_Fg_as d z m s cl g k (by omega) h1).imp fun x m1 ⟨a, b⟩ => ?_
  rw [a]
  refine (c_Mo_as d z m g k (by omega) (Cpl_s hC)).imp fun y m2 ⟨p, q⟩ => ?_
  rw [p]
  rw [h2.1] at q
  exact ⟨by omega, hC, rfl⟩
-- ===== both sides change alike =====
theorem Cpl_put {m m2 : XM} {s' : Int → Int} {cl' : CLs} (hI : ImgOk m) (hA : ActOk m) (fr : ∀ x, (x = 32 ∨ (55 ≤ x ∧ x ≤ 76) ∨ x = 118 ∨ x = 119 ∨ x = 123 ∨ x = 140) → m2 x = m x) (e3 : m2 121 3 = m 121 3) (e43 : m2 121 43 = m 121 43) (h16 : m2 121 16 = 0)
    (h90 : m2 90 3 = 0) (h103 : m2 103 3 = 0) (hS : okS s') (hR : RepB m2 s' 33) (hB : ClB m2 33 cl') (h122 : m2 122 = s') (hCS : ClS s' cl') : Cpl m2 :=
  ⟨s', cl', ⟨hS, hR, hB, h90, h103⟩, ⟨h122, hS, hCS, h16⟩, ImgOk_c (by rw [fr 32 (by omega)]) e3 (fr 123 (by omega)) (fun x a b => fr x (by omega)) hI, ActOk_c (by rw [fr 118 (by omega)]) e43 (fr 119 (by omega)) (fr 140 (by omega)) hA⟩
theorem ClS_c {s s' : Int → Int} {cl : CLs} (h6 : s' 6 = s 6) (h : ∀ y, 199 ≤ y → s' y = s y) (hC : ClS s cl) : ClS s' cl := by
  obtain ⟨h1, h2⟩ := hC
  refine ⟨?_, h2⟩
  rw [h6]
  rcases h1 with q | ⟨q1, q2, q3⟩
  · exact Or.inl q
  · exact Or.inr ⟨q1, by rw [h _ (by omega)]; exact q2, Seg_le q3 (fun i a b => h i (by omega))⟩
theorem rt_c {s s' : Int → Int} (hS : okS s) (h6 : s' 6 = s 6) (h : ∀ y, 199 ≤ y → s' y = s y) : rutS s' = rutS s ∧ fogS s' = fogS s := by
  have h2 := hS.1.2.2.1
  have h62 := hS.1.2.2.2.2.2.2.1
  unfold rutS fogS
  rw [h6]
  by_cases q : s 6 = -1
  · rw [if_pos q, if_pos q, if_pos q, if_pos q]; exact ⟨rfl, rfl⟩
  · rw [if_neg q, if_neg q, if_neg q, if_neg q, h _ (by omega), h _ (by omega)]; exact ⟨rfl, rfl⟩
theorem A_feed {m m2 : XM} {s s' : Int → Int} {cl : CLs} {a : Int} (hS : okS s) (hR : RepB m s 33) (hC : ClB m 33 cl) (hCS : ClS s cl) (h5 : s 5 < 100) (ha : 0 ≤ a ∧ a ≤ 127) (fs : ∀ y, (y ≠ 5 ∧ y ≠ 99 + s 5) → s' y = s y) (fm : ∀ x, (x ≠ 41 ∧ x ≠ 42 ∧ x ≠ 122) → m2 x = m x) (v1 : s' 5 = s 5 + 1) (v2 : s' (99 + s 5) = a) (c1 : m2 41 0 = s 5 + 1) (c2 : m2 42 (s 5) = a) (c3 : ∀ i, i ≠ s 5 → m2 42 i = m 42 i) : okS s' ∧ RepB m2 s' 33 ∧ ClB m2 33 cl ∧ ClS s' cl := by
  have b1 := hS.1
  have hrt := rt_c hS (fs 6 (by omega)) (fun y a => fs y (by omega))
  refine ⟨⟨?_, ?_, ?_, ?_, ?_, ?_, ?_, ?_⟩, ⟨?_, ?_, ?_, ?_, ?_, ?_, ?_⟩, ClB_cong (fun x a b => fm x (by omega)) hC, ClS_c (fs 6 (by omega)) (fun y a => fs y (by omega)) hCS⟩
  · rw [fs 0 (by omega), fs 1 (by omega), fs 2 (by omega), fs 3 (by omega), fs 4 (by omega), v1, fs 6 (by omega), fs 7 (by omega)]; omega
  · exact fun g a b => by rw [fs (8 + g) (by omega), fs (15 + g) (by omega), fs (22 + g) (by omega), fs (29 + g) (by omega)]; exact hS.2.1 g a b
  · exact fun k a b => by rw [fs (36 + k) (by omega), fs 0 (by omega)]; exact hS.2.2.1 k a b
  · exact fun p a b => by rw [fs (64 + p) (by omega)]; exact hS.2.2.2.1 p a b
  · exact fun k a b => by rw [fs (69 + k) (by omega), fs (76 + k) (by omega), fs 3 (by omega), fs 0 (by omega)]; exact hS.2.2.2.2.1 k a b
  · exact fun k a b => by rw [fs (83 + k) (by omega), fs (91 + k) (by omega), fs 4 (by omega), fs 1 (by omega)]; exact hS.2.2.2.2.2.1 k a b
  · exact fun i a b => by
      by_cases q : i = s 5
      · rw [q, v2]; exact ha
      · rw [fs (99 + i) (by omega)]; exact hS.2.2.2.2.2.2.1 i a b
  · exact fun a x y => by rw [fs (199 + a) (by omega), fs (204 + a) (by omega), fs (209 + a) (by omega)]; exact hS.2.2.2.2.2.2.2 a x y
  · exact ⟨by show m2 34 0 = s' 0; rw [fm 34 (by omega), fs 0 (by omega)]; exact hR.1.1, fun g a b => by show m2 35 g = s' (8 + g) ∧ m2 36 g = s' (15 + g) ∧ m2 37 g = s' (22 + g) ∧ m2 38 g = s' (29 + g); rw [fm 35 (by omega), fm 36 (by omega), fm 37 (by omega), fm 38 (by omega), fs (8 + g) (by omega), fs (15 + g) (by omega), fs (22 + g) (by omega), fs (29 + g) (by omega)]; exact hR.1.2 g a b⟩
  · exact fun k a b => by show m2 39 k = s' (36 + k); rw [fm 39 (by omega), fs (36 + k) (by omega)]; exact hR.2.1 k a b
  · exact ⟨by rw [fm 33 (by omega), fs 1 (by omega)]; exact hR.2.2.1.1, by rw [fm 33 (by omega), fs 7 (by omega)]; exact hR.2.2.1.2.1, by rw [fm 33 (by omega), fs 2 (by omega)]; exact hR.2.2.1.2.2.1, fun p a b => by show m2 40 p = s' (64 + p); rw [fm 40 (by omega), fs (64 + p) (by omega)]; exact hR.2.2.1.2.2.2 p a b⟩
  · exact ⟨by show m2 41 0 = s' 5; rw [c1, v1], fun i a b => by
      show m2 42 i = s' (99 + i)
      by_cases q : i = s 5
      · rw [q, c2, v2]
      · rw [c3 i q, fs (99 + i) (by omega)]; exact hR.2.2.2.1.2 i a b⟩
  · exact ⟨by show m2 43 0 = rutS s'; rw [fm 43 (by omega), hrt.1]; exact hR.2.2.2.2.1.1, by show m2 43 1 = fogS s'; rw [fm 43 (by omega), hrt.2]; exact hR.2.2.2.2.1.2⟩
  · exact ⟨by show m2 49 0 = s' 3; rw [fm 49 (by omega), fs 3 (by omega)]; exact hR.2.2.2.2.2.1.1, fun k a b => by show m2 50 k = s' (69 + k) ∧ m2 51 k = s' (76 + k); rw [fm 50 (by omega), fm 51 (by omega), fs (69 + k) (by omega), fs (76 + k) (by omega)]; exact hR.2.2.2.2.2.1.2 k a b⟩
  · exact ⟨by show m2 52 0 = s' 4; rw [fm 52 (by omega), fs 4 (by omega)]; exact hR.2.2.2.2.2.2.1, fun k a b => by show m2 53 k = s' (83 + k) ∧ m2 54 k = s' (91 + k); rw [fm 53 (by omega), fm 54 (by omega), fs (83 + k) (by omega), fs (91 + k) (by omega)]; exact hR.2.2.2.2.2.2.2 k a b⟩
theorem A_gate {m m2 : XM} {s s' : Int → Int} {cl : CLs} {kd v t : Int} (hS : okS s) (hR : RepB m s 33) (hC : ClB m 33 cl) (hCS : ClS s cl) (h0 : s 0 < 7) (hk : 0 ≤ kd ∧ kd ≤ 6) (hv : 0 ≤ v ∧ v ≤ 9) (ht : 0 ≤ t ∧ t ≤ 9) (fs : ∀ y, (y ≠ 0 ∧ y ≠ 8 + s 0 ∧ y ≠ 15 + s 0 ∧ y ≠ 22 + s 0 ∧ y ≠ 29 + s 0) → s' y = s y) (fm : ∀ x, (¬ (34 ≤ x ∧ x ≤ 38) ∧ x ≠ 122) → m2 x = m x) (v0 : s' 0 = s 0 + 1) (v1 : s' (8 + s 0) = kd) (v2 : s' (15 + s 0) = v) (v3 : s' (22 + s 0) = t) (v4 : s' (29 + s 0) = 1) (c0 : m2 34 0 = s 0 + 1) (cN : m2 35 (s 0) = kd ∧ m2 36 (s 0) = v ∧ m2 37 (s 0) = t ∧ m2 38 (s 0) = 1) (cO : ∀ g, g ≠ s 0 → m2 35 g = m 35 g ∧ m2 36 g = m 36 g ∧ m2 37 g = m 37 g ∧ m2 38 g = m 38 g) : okS s' ∧ RepB m2 s' 33 ∧ ClB m2 33 cl ∧ ClS s' cl := by
  have b1 := hS.1
  have hrt := rt_c hS (fs 6 (by omega)) (fun y a => fs y (by omega))
  refine ⟨⟨?_, ?_, ?_, ?_, ?_, ?_, ?_, ?_⟩, ⟨?_, ?_, ?_, ?_, ?_, ?_, ?_⟩, ClB_cong (fun x a b => fm x (by omega)) hC, ClS_c (fs 6 (by omega)) (fun y a => fs y (by omega)) hCS⟩
  · rw [v0, fs 1 (by omega), fs 2 (by omega), fs 3 (by omega), fs 4 (by omega), fs 5 (by omega), fs 6 (by omega), fs 7 (by omega)]; omega
  · exact fun g a b => by
      by_cases q : g = s 0
      · rw [q, v1, v2, v3, v4]; omega
      · rw [fs (8 + g) (by omega), fs (15 + g) (by omega), fs (22 + g) (by omega), fs (29 + g) (by omega)]; exact hS.2.1 g a b
  · exact fun k a b => by
      have q := hS.2.2.1 k a b
      rw [fs (36 + k) (by omega), v0]
      exact ⟨q.1, fun w => q.2 (by omega)⟩
  · exact fun p a b => by rw [fs (64 + p) (by omega)]; exact hS.2.2.2.1 p a b
  · exact fun k a b => by
      have q := hS.2.2.2.2.1 k a b
      rw [fs (69 + k) (by omega), fs (76 + k) (by omega), fs 3 (by omega), v0]
      exact ⟨⟨q.1.1, fun w => by have := q.1.2 w; omega⟩, q.2⟩
  · exact fun k a b => by rw [fs (83 + k) (by omega), fs (91 + k) (by omega), fs 4 (by omega), fs 1 (by omega)]; exact hS.2.2.2.2.2.1 k a b
  · exact fun i a b => by rw [fs (99 + i) (by omega)]; exact hS.2.2.2.2.2.2.1 i a b
  · exact fun a x y => by rw [fs (199 + a) (by omega), fs (204 + a) (by omega), fs (209 + a) (by omega)]; exact hS.2.2.2.2.2.2.2 a x y
  · exact ⟨by show m2 34 0 = s' 0; rw [c0, v0], fun g a b => by
      show m2 35 g = s' (8 + g) ∧ m2 36 g = s' (15 + g) ∧ m2 37 g = s' (22 + g) ∧ m2 38 g = s' (29 + g)
      by_cases q : g = s 0
      · rw [q, v1, v2, v3, v4]; exact cN
      · obtain ⟨w1, w2, w3, w4⟩ := cO g q
        rw [w1, w2, w3, w4, fs (8 + g) (by omega), fs (15 + g) (by omega), fs (22 + g) (by omega), fs (29 + g) (by omega)]; exact hR.1.2 g a b⟩
  · exact fun k a b => by show m2 39 k = s' (36 + k); rw [fm 39 (by omega), fs (36 + k) (by omega)]; exact hR.2.1 k a b
  · exact ⟨by rw [fm 33 (by omega), fs 1 (by omega)]; exact hR.2.2.1.1, by rw [fm 33 (by omega), fs 7 (by omega)]; exact hR.2.2.1.2.1, by rw [fm 33 (by omega), fs 2 (by omega)]; exact hR.2.2.1.2.2.1, fun p a b => by show m2 40 p = s' (64 + p); rw [fm 40 (by omega), fs (64 + p) (by omega)]; exact hR.2.2.1.2.2.2 p a b⟩
  · exact ⟨by show m2 41 0 = s' 5; rw [fm 41 (by omega), fs 5 (by omega)]; exact hR.2.2.2.1.1, fun i a b => by show m2 42 i = s' (99 + i); rw [fm 42 (by omega), fs (99 + i) (by omega)]; exact hR.2.2.2.1.2 i a b⟩
  · exact ⟨by show m2 43 0 = rutS s'; rw [fm 43 (by omega), hrt.1]; exact hR.2.2.2.2.1.1, by show m2 43 1 = fogS s'; rw [fm 43 (by omega), hrt.2]; exact hR.2.2.2.2.1.2⟩
  · exact ⟨by show m2 49 0 = s' 3; rw [fm 49 (by omega), fs 3 (by omega)]; exact hR.2.2.2.2.2.1.1, fun k a b => by show m2 50 k = s' (69 + k) ∧ m2 51 k = s' (76 + k); rw [fm 50 (by omega), fm 51 (by omega), fs (69 + k) (by omega), fs (76 + k) (by omega)]; exact hR.2.2.2.2.2.1.2 k a b⟩
  · exact ⟨by show m2 52 0 = s' 4; rw [fm 52 (by omega), fs 4 (by omega)]; exact hR.2.2.2.2.2.2.1, fun k a b => by show m2 53 k = s' (83 + k) ∧ m2 54 k = s' (91 + k); rw [fm 53 (by omega), fm 54 (by omega), fs (83 + k) (by omega), fs (91 + k) (by omega)]; exact hR.2.2.2.2.2.2.2 k a b⟩
theorem A_turn {m m2 : XM} {s s' : Int → Int} {cl : CLs} {g0 n : Int} (hS : okS s) (hR : RepB m s 33) (hC : ClB m 33 cl) (hCS : ClS s cl) (hg : 0 ≤ g0 ∧ g0 < 7) (hn : 0 ≤ n ∧ n ≤ 9) (fs : ∀ y, (y ≠ 22 + g0) → s' y = s y) (fm : ∀ x, (x ≠ 37 ∧ x ≠ 122) → m2 x = m x) (v1 : s' (22 + g0) = n) (c1 : m2 37 g0 = n) (c2 : ∀ g, g ≠ g0 → m2 37 g = m 37 g) : okS s' ∧ RepB m2 s' 33 ∧ ClB m2 33 cl ∧ ClS s' cl := by
  have b1 := hS.1
  have hrt := rt_c hS (fs 6 (by omega)) (fun y a => fs y (by omega))
  refine ⟨⟨?_, ?_, ?_, ?_, ?_, ?_, ?_, ?_⟩, ⟨?_, ?_, ?_, ?_, ?_, ?_, ?_⟩, ClB_cong (fun x a b => fm x (by omega)) hC, ClS_c (fs 6 (by omega)) (fun y a => fs y (by omega)) hCS⟩
  · rw [fs 0 (by omega), fs 1 (by omega), fs 2 (by omega), fs 3 (by omega), fs 4 (by omega), fs 5 (by omega), fs 6 (by omega), fs 7 (by omega)]; omega
  · exact fun g a b => by
      have q := hS.2.1 g a b
      by_cases e : g = g0
      · rw [fs (8 + g) (by omega), fs (15 + g) (by omega), fs (29 + g) (by omega), e, v1]; rw [e] at q; omega
      · rw [fs (8 + g) (by omega), fs (15 + g) (by omega), fs (22 + g) (by omega), fs (29 + g) (by omega)]; exact q
  · exact fun k a b => by rw [fs (36 + k) (by omega), fs 0 (by omega)]; exact hS.2.2.1 k a b
  · exact fun p a b => by rw [fs (64 + p) (by omega)]; exact hS.2.2.2.1 p a b
  · exact fun k a b => by rw [fs (69 + k) (by omega), fs (76 + k) (by omega), fs 3 (by omega), fs 0 (by omega)]; exact hS.2.2.2.2.1 k a b
  · exact fun k a b => by rw [fs (83 + k) (by omega), fs (91 + k) (by omega), fs 4 (by omega), fs 1 (by omega)]; exact hS.2.2.2.2.2.1 k a b
  · exact fun i a b => by rw [fs (99 + i) (by omega)]; exact hS.2.2.2.2.2.2.1 i a b
  · exact fun a x y => by rw [fs (199 + a) (by omega), fs (204 + a) (by omega), fs (209 + a) (by omega)]; exact hS.2.2.2.2.2.2.2 a x y
  · exact ⟨by show m2 34 0 = s' 0; rw [fm 34 (by omega), fs 0 (by omega)]; exact hR.1.1, fun g a b => by
      show m2 35 g = s' (8 + g) ∧ m2 36 g = s' (15 + g) ∧ m2 37 g = s' (22 + g) ∧ m2 38 g = s' (29 + g)
      have q : m 35 g = s (8 + g) ∧ m 36 g = s (15 + g) ∧ m 37 g = s (22 + g) ∧ m 38 g = s (29 + g) := hR.1.2 g a b
      rw [fm 35 (by omega), fm 36 (by omega), fm 38 (by omega), fs (8 + g) (by omega), fs (15 + g) (by omega), fs (29 + g) (by omega)]
      by_cases e : g = g0
      · rw [e, c1, v1]; rw [e] at q; exact ⟨q.1, q.2.1, rfl, q.2.2.2⟩
      · rw [c2 g e, fs (22 + g) (by omega)]; exact q⟩
  · exact fun k a b => by show m2 39 k = s' (36 + k); rw [fm 39 (by omega), fs (36 + k) (by omega)]; exact hR.2.1 k a b
  · exact ⟨by rw [fm 33 (by omega), fs 1 (by omega)]; exact hR.2.2.1.1, by rw [fm 33 (by omega), fs 7 (by omega)]; exact hR.2.2.1.2.1, by rw [fm 33 (by omega), fs 2 (by omega)]; exact hR.2.2.1.2.2.1, fun p a b => by show m2 40 p = s' (64 + p); rw [fm 40 (by omega), fs (64 + p) (by omega)]; exact hR.2.2.1.2.2.2 p a b⟩
  · exact ⟨by show m2 41 0 = s' 5; rw [fm 41 (by omega), fs 5 (by omega)]; exact hR.2.2.2.1.1, fun i a b => by show m2 42 i = s' (99 + i); rw [fm 42 (by omega), fs (99 + i) (by omega)]; exact hR.2.2.2.1.2 i a b⟩
  · exact ⟨by show m2 43 0 = rutS s'; rw [fm 43 (by omega), hrt.1]; exact hR.2.2.2.2.1.1, by show m2 43 1 = fogS s'; rw [fm 43 (by omega), hrt.2]; exact hR.2.2.2.2.1.2⟩
  · exact ⟨by show m2 49 0 = s' 3; rw [fm 49 (by omega), fs 3 (by omega)]; exact hR.2.2.2.2.2.1.1, fun k a b => by show m2 50 k = s' (69 + k) ∧ m2 51 k = s' (76 + k); rw [fm 50 (by omega), fm 51 (by omega), fs (69 + k) (by omega), fs (76 + k) (by omega)]; exact hR.2.2.2.2.2.1.2 k a b⟩
  · exact ⟨by show m2 52 0 = s' 4; rw [fm 52 (by omega), fs 4 (by omega)]; exact hR.2.2.2.2.2.2.1, fun k a b => by show m2 53 k = s' (83 + k) ∧ m2 54 k = s' (91 + k); rw [fm 53 (by omega), fm 54 (by omega), fs (83 + k) (by omega), fs (91 + k) (by omega)]; exact hR.2.2.2.2.2.2.2 k a b⟩
theorem A_plan {m m2 : XM} {s s' : Int → Int} {cl : CLs} {g0 n : Int} (hS : okS s) (hR : RepB m s 33) (hC : ClB m 33 cl) (hCS : ClS s cl) (hg : 0 ≤ g0 ∧ g0 < 7) (hn : 0 ≤ n ∧ n ≤ 2) (fs : ∀ y, (y ≠ 29 + g0) → s' y = s y) (fm : ∀ x, (x ≠ 38 ∧ x ≠ 122) → m2 x = m x) (v1 : s' (29 + g0) = n) (c1 : m2 38 g0 = n) (c2 : ∀ g, g ≠ g0 → m2 38 g = m 38 g) : okS s' ∧ RepB m2 s' 33 ∧ ClB m2 33 cl ∧ ClS s' cl := by
  have b1 := hS.1
  have hrt := rt_c hS (fs 6 (by omega)) (fun y a => fs y (by omega))
  refine ⟨⟨?_, ?_, ?_, ?_, ?_, ?_, ?_, ?_⟩, ⟨?_, ?_, ?_, ?_, ?_, ?_, ?_⟩, ClB_cong (fun x a b => fm x (by omega)) hC, ClS_c (fs 6 (by omega)) (fun y a => fs y (by omega)) hCS⟩
  · rw [fs 0 (by omega), fs 1 (by omega), fs 2 (by omega), fs 3 (by omega), fs 4 (by omega), fs 5 (by omega), fs 6 (by omega), fs 7 (by omega)]; omega
  · exact fun g a b => by
      have q := hS.2.1 g a b
      by_cases e : g = g0
      · rw [fs (8 + g) (by omega), fs (15 + g) (by omega), fs (22 + g) (by omega), e, v1]; rw [e] at q; omega
      · rw [fs (8 + g) (by omega), fs (15 + g) (by omega), fs (22 + g) (by omega), fs (29 + g) (by omega)]; exact q
  · exact fun k a b => by rw [fs (36 + k) (by omega), fs 0 (by omega)]; exact hS.2.2.1 k a b
  · exact fun p a b => by rw [fs (64 + p) (by omega)]; exact hS.2.2.2.1 p a b
  · exact fun k a b => by rw [fs (69 + k) (by omega), fs (76 + k) (by omega), fs 3 (by omega), fs 0 (by omega)]; exact hS.2.2.2.2.1 k a b
  · exact fun k a b => by rw [fs (83 + k) (by omega), fs (91 + k) (by omega), fs 4 (by omega), fs 1 (by omega)]; exact hS.2.2.2.2.2.1 k a b
  · exact fun i a b => by rw [fs (99 + i) (by omega)]; exact hS.2.2.2.2.2.2.1 i a b
  · exact fun a x y => by rw [fs (199 + a) (by omega), fs (204 + a) (by omega), fs (209 + a) (by omega)]; exact hS.2.2.2.2.2.2.2 a x y
  · exact ⟨by show m2 34 0 = s' 0; rw [fm 34 (by omega), fs 0 (by omega)]; exact hR.1.1, fun g a b => by
      show m2 35 g = s' (8 + g) ∧ m2 36 g = s' (15 + g) ∧ m2 37 g = s' (22 + g) ∧ m2 38 g = s' (29 + g)
      have q : m 35 g = s (8 + g) ∧ m 36 g = s (15 + g) ∧ m 37 g = s (22 + g) ∧ m 38 g = s (29 + g) := hR.1.2 g a b
      rw [fm 35 (by omega), fm 36 (by omega), fm 37 (by omega), fs (8 + g) (by omega), fs (15 + g) (by omega), fs (22 + g) (by omega)]
      by_cases e : g = g0
      · rw [e, c1, v1]; rw [e] at q; exact ⟨q.1, q.2.1, q.2.2.1, rfl⟩
      · rw [c2 g e, fs (29 + g) (by omega)]; exact q⟩
  · exact fun k a b => by show m2 39 k = s' (36 + k); rw [fm 39 (by omega), fs (36 + k) (by omega)]; exact hR.2.1 k a b
  · exact ⟨by rw [fm 33 (by omega), fs 1 (by omega)]; exact hR.2.2.1.1, by rw [fm 33 (by omega), fs 7 (by omega)]; exact hR.2.2.1.2.1, by rw [fm 33 (by omega), fs 2 (by omega)]; exact hR.2.2.1.2.2.1, fun p a b => by show m2 40 p = s' (64 + p); rw [fm 40 (by omega), fs (64 + p) (by omega)]; exact hR.2.2.1.2.2.2 p a b⟩
  · exact ⟨by show m2 41 0 = s' 5; rw [fm 41 (by omega), fs 5 (by omega)]; exact hR.2.2.2.1.1, fun i a b => by show m2 42 i = s' (99 + i); rw [fm 42 (by omega), fs (99 + i) (by omega)]; exact hR.2.2.2.1.2 i a b⟩
  · exact ⟨by show m2 43 0 = rutS s'; rw [fm 43 (by omega), hrt.1]; exact hR.2.2.2.2.1.1, by show m2 43 1 = fogS s'; rw [fm 43 (by omega), hrt.2]; exact hR.2.2.2.2.1.2⟩
  · exact ⟨by show m2 49 0 = s' 3; rw [fm 49 (by omega), fs 3 (by omega)]; exact hR.2.2.2.2.2.1.1, fun k a b => by show m2 50 k = s' (69 + k) ∧ m2 51 k = s' (76 + k); rw [fm 50 (by omega), fm 51 (by omega), fs (69 + k) (by omega), fs (76 + k) (by omega)]; exact hR.2.2.2.2.2.1.2 k a b⟩
  · exact ⟨by show m2 52 0 = s' 4; rw [fm 52 (by omega), fs 4 (by omega)]; exact hR.2.2.2.2.2.2.1, fun k a b => by show m2 53 k = s' (83 + k) ∧ m2 54 k = s' (91 + k); rw [fm 53 (by omega), fm 54 (by omega), fs (83 + k) (by omega), fs (91 + k) (by omega)]; exact hR.2.2.2.2.2.2.2 k a b⟩
theorem A_row {m m2 : XM} {s s' : Int → Int} {cl : CLs} {j n : Int} (hS : okS s) (hR : RepB m s 33) (hC : ClB m 33 cl) (hCS : ClS s cl) (hj : 0 ≤ j ∧ j < 4 * s 0) (hn : 0 ≤ n ∧ n ≤ 9) (fs : ∀ y, (y ≠ 36 + j) → s' y = s y) (fm : ∀ x, (x ≠ 39 ∧ x ≠ 122) → m2 x = m x) (v1 : s' (36 + j) = n) (c1 : m2 39 j = n) (c2 : ∀ g, g ≠ j → m2 39 g = m 39 g) : okS s' ∧ RepB m2 s' 33 ∧ ClB m2 33 cl ∧ ClS s' cl := by
  have b1 := hS.1
  have hrt := rt_c hS (fs 6 (by omega)) (fun y a => fs y (by omega))
  refine ⟨⟨?_, ?_, ?_, ?_, ?_, ?_, ?_, ?_⟩, ⟨?_, ?_, ?_, ?_, ?_, ?_, ?_⟩, ClB_cong (fun x a b => fm x (by omega)) hC, ClS_c (fs 6 (by omega)) (fun y a => fs y (by omega)) hCS⟩
  · rw [fs 0 (by omega), fs 1 (by omega), fs 2 (by omega), fs 3 (by omega), fs 4 (by omega), fs 5 (by omega), fs 6 (by omega), fs 7 (by omega)]; omega
  · exact fun g a b => by rw [fs (8 + g) (by omega), fs (15 + g) (by omega), fs (22 + g) (by omega), fs (29 + g) (by omega)]; exact hS.2.1 g a b
  · exact fun k a b => by
      have q := hS.2.2.1 k a b
      rw [fs 0 (by omega)]
      by_cases e : k = j
      · rw [e, v1]; exact ⟨hn, fun w => by omega⟩
      · rw [fs (36 + k) (by omega)]; exact q
  · exact fun p a b => by rw [fs (64 + p) (by omega)]; exact hS.2.2.2.1 p a b
  · exact fun k a b => by rw [fs (69 + k) (by omega), fs (76 + k) (by omega), fs 3 (by omega), fs 0 (by omega)]; exact hS.2.2.2.2.1 k a b
  · exact fun k a b => by rw [fs (83 + k) (by omega), fs (91 + k) (by omega), fs 4 (by omega), fs 1 (by omega)]; exact hS.2.2.2.2.2.1 k a b
  · exact fun i a b => by rw [fs (99 + i) (by omega)]; exact hS.2.2.2.2.2.2.1 i a b
  · exact fun a x y => by rw [fs (199 + a) (by omega), fs (204 + a) (by omega), fs (209 + a) (by omega)]; exact hS.2.2.2.2.2.2.2 a x y
  · exact ⟨by show m2 34 0 = s' 0; rw [fm 34 (by omega), fs 0 (by omega)]; exact hR.1.1, fun g a b => by show m2 35 g = s' (8 + g) ∧ m2 36 g = s' (15 + g) ∧ m2 37 g = s' (22 + g) ∧ m2 38 g = s' (29 + g); rw [fm 35 (by omega), fm 36 (by omega), fm 37 (by omega), fm 38 (by omega), fs (8 + g) (by omega), fs (15 + g) (by omega), fs (22 + g) (by omega), fs (29 + g) (by omega)]; exact hR.1.2 g a b⟩
  · exact fun k a b => by
      show m2 39 k = s' (36 + k)
      by_cases e : k = j
      · rw [e, c1, v1]
      · rw [c2 k e, fs (36 + k) (by omega)]; exact hR.2.1 k a b
  · exact ⟨by rw [fm 33 (by omega), fs 1 (by omega)]; exact hR.2.2.1.1, by rw [fm 33 (by omega), fs 7 (by omega)]; exact hR.2.2.1.2.1, by rw [fm 33 (by omega), fs 2 (by omega)]; exact hR.2.2.1.2.2.1, fun p a b => by show m2 40 p = s' (64 + p); rw [fm 40 (by omega), fs (64 + p) (by omega)]; exact hR.2.2.1.2.2.2 p a b⟩
  · exact ⟨by show m2 41 0 = s' 5; rw [fm 41 (by omega), fs 5 (by omega)]; exact hR.2.2.2.1.1, fun i a b => by show m2 42 i = s' (99 + i); rw [fm 42 (by omega), fs (99 + i) (by omega)]; exact hR.2.2.2.1.2 i a b⟩
  · exact ⟨by show m2 43 0 = rutS s'; rw [fm 43 (by omega), hrt.1]; exact hR.2.2.2.2.1.1, by show m2 43 1 = fogS s'; rw [fm 43 (by omega), hrt.2]; exact hR.2.2.2.2.1.2⟩
  · exact ⟨by show m2 49 0 = s' 3; rw [fm 49 (by omega), fs 3 (by omega)]; exact hR.2.2.2.2.2.1.1, fun k a b => by show m2 50 k = s' (69 + k) ∧ m2 51 k = s' (76 + k); rw [fm 50 (by omega), fm 51 (by omega), fs (69 + k) (by omega), fs (76 + k) (by omega)]; exact hR.2.2.2.2.2.1.2 k a b⟩
  · exact ⟨by show m2 52 0 = s' 4; rw [fm 52 (by omega), fs 4 (by omega)]; exact hR.2.2.2.2.2.2.1, fun k a b => by show m2 53 k = s' (83 + k) ∧ m2 54 k = s' (91 + k); rw [fm 53 (by omega), fm 54 (by omega), fs (83 + k) (by omega), fs (91 + k) (by omega)]; exact hR.2.2.2.2.2.2.2 k a b⟩
theorem A_skier {m m2 : XM} {s s' : Int → Int} {cl : CLs} {a : Int} (hS : okS s) (hR : RepB m s 33) (hC : ClB m 33 cl) (hCS : ClS s cl) (h1 : s 1 < 5) (ha : 0 ≤ a ∧ a ≤ 9) (fs : ∀ y, (y ≠ 1 ∧ y ≠ 64 + s 1) → s' y = s y) (fm : ∀ x, (x ≠ 33 ∧ x ≠ 40 ∧ x ≠ 122) → m2 x = m x) (v1 : s' 1 = s 1 + 1) (v2 : s' (64 + s 1) = a) (c1 : m2 33 2 = s 1 + 1) (c2 : ∀ y, y ≠ 2 → m2 33 y = m 33 y) (c3 : m2 40 (s 1) = a) (c4 : ∀ p, p ≠ s 1 → m2 40 p = m 40 p) : okS s' ∧ RepB m2 s' 33 ∧ ClB m2 33 cl ∧ ClS s' cl := by
  have b1 := hS.1
  have hrt := rt_c hS (fs 6 (by omega)) (fun y a => fs y (by omega))
  refine ⟨⟨?_, ?_, ?_, ?_, ?_, ?_, ?_, ?_⟩, ⟨?_, ?_, ?_, ?_, ?_, ?_, ?_⟩, ClB_cong (fun x a b => fm x (by omega)) hC, ClS_c (fs 6 (by omega)) (fun y a => fs y (by omega)) hCS⟩
  · rw [fs 0 (by omega), v1, fs 2 (by omega), fs 3 (by omega), fs 4 (by omega), fs 5 (by omega), fs 6 (by omega), fs 7 (by omega)]; omega
  · exact fun g a b => by rw [fs (8 + g) (by omega), fs (15 + g) (by omega), fs (22 + g) (by omega), fs (29 + g) (by omega)]; exact hS.2.1 g a b
  · exact fun k a b => by rw [fs (36 + k) (by omega), fs 0 (by omega)]; exact hS.2.2.1 k a b
  · exact fun p a b => by
      by_cases e : p = s 1
      · rw [e, v2]; exact ha
      · rw [fs (64 + p) (by omega)]; exact hS.2.2.2.1 p a b
  · exact fun k a b => by rw [fs (69 + k) (by omega), fs (76 + k) (by omega), fs 3 (by omega), fs 0 (by omega)]; exact hS.2.2.2.2.1 k a b
  · exact fun k a b => by
      have q := hS.2.2.2.2.2.1 k a b
      rw [fs (83 + k) (by omega), fs (91 + k) (by omega), fs 4 (by omega), v1]
      exact ⟨⟨q.1.1, fun w => by have := q.1.2 w; omega⟩, q.2⟩
  · exact fun i a b => by rw [fs (99 + i) (by omega)]; exact hS.2.2.2.2.2.2.1 i a b
  · exact fun a x y => by rw [fs (199 + a) (by omega), fs (204 + a) (by omega), fs (209 + a) (by omega)]; exact hS.2.2.2.2.2.2.2 a x y
  · exact ⟨by show m2 34 0 = s' 0; rw [fm 34 (by omega), fs 0 (by omega)]; exact hR.1.1, fun g a b => by show m2 35 g = s' (8 + g) ∧ m2 36 g = s' (15 + g) ∧ m2 37 g = s' (22 + g) ∧ m2 38 g = s' (29 + g); rw [fm 35 (by omega), fm 36 (by omega), fm 37 (by omega), fm 38 (by omega), fs (8 + g) (by omega), fs (15 + g) (by omega), fs (22 + g) (by omega), fs (29 + g) (by omega)]; exact hR.1.2 g a b⟩
  · exact fun k a b => by show m2 39 k = s' (36 + k); rw [fm 39 (by omega), fs (36 + k) (by omega)]; exact hR.2.1 k a b
  · exact ⟨by rw [c1, v1], by rw [c2 3 (by decide), fs 7 (by omega)]; exact hR.2.2.1.2.1, by rw [c2 6 (by decide), fs 2 (by omega)]; exact hR.2.2.1.2.2.1, fun p a b => by
      show m2 40 p = s' (64 + p)
      by_cases e : p = s 1
      · rw [e, c3, v2]
      · rw [c4 p e, fs (64 + p) (by omega)]; exact hR.2.2.1.2.2.2 p a b⟩
  · exact ⟨by show m2 41 0 = s' 5; rw [fm 41 (by omega), fs 5 (by omega)]; exact hR.2.2.2.1.1, fun i a b => by show m2 42 i = s' (99 + i); rw [fm 42 (by omega), fs (99 + i) (by omega)]; exact hR.2.2.2.1.2 i a b⟩
  · exact ⟨by show m2 43 0 = rutS s'; rw [fm 43 (by omega), hrt.1]; exact hR.2.2.2.2.1.1, by show m2 43 1 = fogS s'; rw [fm 43 (by omega), hrt.2]; exact hR.2.2.2.2.1.2⟩
  · exact ⟨by show m2 49 0 = s' 3; rw [fm 49 (by omega), fs 3 (by omega)]; exact hR.2.2.2.2.2.1.1, fun k a b => by show m2 50 k = s' (69 + k) ∧ m2 51 k = s' (76 + k); rw [fm 50 (by omega), fm 51 (by omega), fs (69 + k) (by omega), fs (76 + k) (by omega)]; exact hR.2.2.2.2.2.1.2 k a b⟩
  · exact ⟨by show m2 52 0 = s' 4; rw [fm 52 (by omega), fs 4 (by omega)]; exact hR.2.2.2.2.2.2.1, fun k a b => by show m2 53 k = s' (83 + k) ∧ m2 54 k = s' (91 + k); rw [fm 53 (by omega), fm 54 (by omega), fs (83 + k) (by omega), fs (91 + k) (by omega)]; exact hR.2.2.2.2.2.2.2 k a b⟩
theorem A_skill {m m2 : XM} {s s' : Int → Int} {cl : CLs} {p0 a : Int} (hS : okS s) (hR : RepB m s 33) (hC : ClB m 33 cl) (hCS : ClS s cl) (h1 : 0 ≤ p0 ∧ p0 < 5) (ha : 0 ≤ a ∧ a ≤ 9) (fs : ∀ y, (y ≠ 64 + p0) → s' y = s y) (fm : ∀ x, (x ≠ 40 ∧ x ≠ 122) → m2 x = m x) (v2 : s' (64 + p0) = a) (c3 : m2 40 p0 = a) (c4 : ∀ p, p ≠ p0 → m2 40 p = m 40 p) : okS s' ∧ RepB m2 s' 33 ∧ ClB m2 33 cl ∧ ClS s' cl := by
  have b1 := hS.1
  have hrt := rt_c hS (fs 6 (by omega)) (fun y a => fs y (by omega))
  refine ⟨⟨?_, ?_, ?_, ?_, ?_, ?_, ?_, ?_⟩, ⟨?_, ?_, ?_, ?_, ?_, ?_, ?_⟩, ClB_cong (fun x a b => fm x (by omega)) hC, ClS_c (fs 6 (by omega)) (fun y a => fs y (by omega)) hCS⟩
  · rw [fs 0 (by omega), fs 1 (by omega), fs 2 (by omega), fs 3 (by omega), fs 4 (by omega), fs 5 (by omega), fs 6 (by omega), fs 7 (by omega)]; omega
  · exact fun g a b => by rw [fs (8 + g) (by omega), fs (15 + g) (by omega), fs (22 + g) (by omega), fs (29 + g) (by omega)]; exact hS.2.1 g a b
  · exact fun k a b => by rw [fs (36 + k) (by omega), fs 0 (by omega)]; exact hS.2.2.1 k a b
  · exact fun p a b => by
      by_cases e : p = p0
      · rw [e, v2]; exact ha
      · rw [fs (64 + p) (by omega)]; exact hS.2.2.2.1 p a b
  · exact fun k a b => by rw [fs (69 + k) (by omega), fs (76 + k) (by omega), fs 3 (by omega), fs 0 (by omega)]; exact hS.2.2.2.2.1 k a b
  · exact fun k a b => by rw [fs (83 + k) (by omega), fs (91 + k) (by omega), fs 4 (by omega), fs 1 (by omega)]; exact hS.2.2.2.2.2.1 k a b
  · exact fun i a b => by rw [fs (99 + i) (by omega)]; exact hS.2.2.2.2.2.2.1 i a b
  · exact fun a x y => by rw [fs (199 + a) (by omega), fs (204 + a) (by omega), fs (209 + a) (by omega)]; exact hS.2.2.2.2.2.2.2 a x y
  · exact ⟨by show m2 34 0 = s' 0; rw [fm 34 (by omega), fs 0 (by omega)]; exact hR.1.1, fun g a b => by show m2 35 g = s' (8 + g) ∧ m2 36 g = s' (15 + g) ∧ m2 37 g = s' (22 + g) ∧ m2 38 g = s' (29 + g); rw [fm 35 (by omega), fm 36 (by omega), fm 37 (by omega), fm 38 (by omega), fs (8 + g) (by omega), fs (15 + g) (by omega), fs (22 + g) (by omega), fs (29 + g) (by omega)]; exact hR.1.2 g a b⟩
  · exact fun k a b => by show m2 39 k = s' (36 + k); rw [fm 39 (by omega), fs (36 + k) (by omega)]; exact hR.2.1 k a b
  · exact ⟨by rw [fm 33 (by omega), fs 1 (by omega)]; exact hR.2.2.1.1, by rw [fm 33 (by omega), fs 7 (by omega)]; exact hR.2.2.1.2.1, by rw [fm 33 (by omega), fs 2 (by omega)]; exact hR.2.2.1.2.2.1, fun p a b => by
      show m2 40 p = s' (64 + p)
      by_cases e : p = p0
      · rw [e, c3, v2]
      · rw [c4 p e, fs (64 + p) (by omega)]; exact hR.2.2.1.2.2.2 p a b⟩
  · exact ⟨by show m2 41 0 = s' 5; rw [fm 41 (by omega), fs 5 (by omega)]; exact hR.2.2.2.1.1, fun i a b => by show m2 42 i = s' (99 + i); rw [fm 42 (by omega), fs (99 + i) (by omega)]; exact hR.2.2.2.1.2 i a b⟩
  · exact ⟨by show m2 43 0 = rutS s'; rw [fm 43 (by omega), hrt.1]; exact hR.2.2.2.2.1.1, by show m2 43 1 = fogS s'; rw [fm 43 (by omega), hrt.2]; exact hR.2.2.2.2.1.2⟩
  · exact ⟨by show m2 49 0 = s' 3; rw [fm 49 (by omega), fs 3 (by omega)]; exact hR.2.2.2.2.2.1.1, fun k a b => by show m2 50 k = s' (69 + k) ∧ m2 51 k = s' (76 + k); rw [fm 50 (by omega), fm 51 (by omega), fs (69 + k) (by omega), fs (76 + k) (by omega)]; exact hR.2.2.2.2.2.1.2 k a b⟩
  · exact ⟨by show m2 52 0 = s' 4; rw [fm 52 (by omega), fs 4 (by omega)]; exact hR.2.2.2.2.2.2.1, fun k a b => by show m2 53 k = s' (83 + k) ∧ m2 54 k = s' (91 + k); rw [fm 53 (by omega), fm 54 (by omega), fs (83 + k) (by omega), fs (91 + k) (by omega)]; exact hR.2.2.2.2.2.2.2 k a b⟩
theorem A_runs {m m2 : XM} {s s' : Int → Int} {cl : CLs} {n : Int} (hS : okS s) (hR : RepB m s 33) (hC : ClB m 33 cl) (hCS : ClS s cl) (hn : 0 ≤ n ∧ n ≤ 9999) (fs : ∀ y, (y ≠ 7) → s' y = s y) (fm : ∀ x, (x ≠ 33 ∧ x ≠ 122 ∧ x ≠ 48 ∧ ¬ (85 ≤ x)) → m2 x = m x) (v1 : s' 7 = n) (c1 : m2 33 3 = n) (c2 : ∀ y, y ≠ 3 → m2 33 y = m 33 y) : okS s' ∧ RepB m2 s' 33 ∧ ClB m2 33 cl ∧ ClS s' cl := by
  have b1 := hS.1
  have hrt := rt_c hS (fs 6 (by omega)) (fun y a => fs y (by omega))
  refine ⟨⟨?_, ?_, ?_, ?_, ?_, ?_, ?_, ?_⟩, ⟨?_, ?_, ?_, ?_, ?_, ?_, ?_⟩, ClB_cong (fun x a b => fm x (by omega)) hC, ClS_c (fs 6 (by omega)) (fun y a => fs y (by omega)) hCS⟩
  · rw [fs 0 (by omega), fs 1 (by omega), fs 2 (by omega), fs 3 (by omega), fs 4 (by omega), fs 5 (by omega), fs 6 (by omega), v1]; omega
  · exact fun g a b => by rw [fs (8 + g) (by omega), fs (15 + g) (by omega), fs (22 + g) (by omega), fs (29 + g) (by omega)]; exact hS.2.1 g a b
  · exact fun k a b => by rw [fs (36 + k) (by omega), fs 0 (by omega)]; exact hS.2.2.1 k a b
  · exact fun p a b => by rw [fs (64 + p) (by omega)]; exact hS.2.2.2.1 p a b
  · exact fun k a b => by rw [fs (69 + k) (by omega), fs (76 + k) (by omega), fs 3 (by omega), fs 0 (by omega)]; exact hS.2.2.2.2.1 k a b
  · exact fun k a b => by rw [fs (83 + k) (by omega), fs (91 + k) (by omega), fs 4 (by omega), fs 1 (by omega)]; exact hS.2.2.2.2.2.1 k a b
  · exact fun i a b => by rw [fs (99 + i) (by omega)]; exact hS.2.2.2.2.2.2.1 i a b
  · exact fun a x y => by rw [fs (199 + a) (by omega), fs (204 + a) (by omega), fs (209 + a) (by omega)]; exact hS.2.2.2.2.2.2.2 a x y
  · exact ⟨by show m2 34 0 = s' 0; rw [fm 34 (by omega), fs 0 (by omega)]; exact hR.1.1, fun g a b => by show m2 35 g = s' (8 + g) ∧ m2 36 g = s' (15 + g) ∧ m2 37 g = s' (22 + g) ∧ m2 38 g = s' (29 + g); rw [fm 35 (by omega), fm 36 (by omega), fm 37 (by omega), fm 38 (by omega), fs (8 + g) (by omega), fs (15 + g) (by omega), fs (22 + g) (by omega), fs (29 + g) (by omega)]; exact hR.1.2 g a b⟩
  · exact fun k a b => by show m2 39 k = s' (36 + k); rw [fm 39 (by omega), fs (36 + k) (by omega)]; exact hR.2.1 k a b
  · exact ⟨by rw [c2 2 (by decide), fs 1 (by omega)]; exact hR.2.2.1.1, by rw [c1, v1], by rw [c2 6 (by decide), fs 2 (by omega)]; exact hR.2.2.1.2.2.1, fun p a b => by show m2 40 p = s' (64 + p); rw [fm 40 (by omega), fs (64 + p) (by omega)]; exact hR.2.2.1.2.2.2 p a b⟩
  · exact ⟨by show m2 41 0 = s' 5; rw [fm 41 (by omega), fs 5 (by omega)]; exact hR.2.2.2.1.1, fun i a b => by show m2 42 i = s' (99 + i); rw [fm 42 (by omega), fs (99 + i) (by omega)]; exact hR.2.2.2.1.2 i a b⟩
  · exact ⟨by show m2 43 0 = rutS s'; rw [fm 43 (by omega), hrt.1]; exact hR.2.2.2.2.1.1, by show m2 43 1 = fogS s'; rw [fm 43 (by omega), hrt.2]; exact hR.2.2.2.2.1.2⟩
  · exact ⟨by show m2 49 0 = s' 3; rw [fm 49 (by omega), fs 3 (by omega)]; exact hR.2.2.2.2.2.1.1, fun k a b => by show m2 50 k = s' (69 + k) ∧ m2 51 k = s' (76 + k); rw [fm 50 (by omega), fm 51 (by omega), fs (69 + k) (by omega), fs (76 + k) (by omega)]; exact hR.2.2.2.2.2.1.2 k a b⟩
  · exact ⟨by show m2 52 0 = s' 4; rw [fm 52 (by omega), fs 4 (by omega)]; exact hR.2.2.2.2.2.2.1, fun k a b => by show m2 53 k = s' (83 + k) ∧ m2 54 k = s' (91 + k); rw [fm 53 (by omega), fm 54 (by omega), fs (83 + k) (by omega), fs (91 + k) (by omega)]; exact hR.2.2.2.2.2.2.2 k a b⟩
theorem A_see0 {m m2 : XM} {s s' : Int → Int} {cl : CLs}  (hS : okS s) (hR : RepB m s 33) (hC : ClB m 33 cl) (hCS : ClS s cl) (fs : ∀ y, (y ≠ 3) → s' y = s y) (fm : ∀ x, (x ≠ 49 ∧ x ≠ 122) → m2 x = m x) (v1 : s' 3 = 0) (c1 : m2 49 0 = 0) : okS s' ∧ RepB m2 s' 33 ∧ ClB m2 33 cl ∧ ClS s' cl := by
  have b1 := hS.1
  have hrt := rt_c hS (fs 6 (by omega)) (fun y a => fs y (by omega))
  refine ⟨⟨?_, ?_, ?_, ?_, ?_, ?_, ?_, ?_⟩, ⟨?_, ?_, ?_, ?_, ?_, ?_, ?_⟩, ClB_cong (fun x a b => fm x (by omega)) hC, ClS_c (fs 6 (by omega)) (fun y a => fs y (by omega)) hCS⟩
  · rw [fs 0 (by omega), fs 1 (by omega), fs 2 (by omega), v1, fs 4 (by omega), fs 5 (by omega), fs 6 (by omega), fs 7 (by omega)]; omega
  · exact fun g a b => by rw [fs (8 + g) (by omega), fs (15 + g) (by omega), fs (22 + g) (by omega), fs (29 + g) (by omega)]; exact hS.2.1 g a b
  · exact fun k a b => by rw [fs (36 + k) (by omega), fs 0 (by omega)]; exact hS.2.2.1 k a b
  · exact fun p a b => by rw [fs (64 + p) (by omega)]; exact hS.2.2.2.1 p a b
  · exact fun k a b => by
      have q := hS.2.2.2.2.1 k a b
      rw [fs (69 + k) (by omega), fs (76 + k) (by omega), fs 0 (by omega), v1]
      exact ⟨⟨q.1.1, fun w => by omega⟩, q.2⟩
  · exact fun k a b => by rw [fs (83 + k) (by omega), fs (91 + k) (by omega), fs 4 (by omega), fs 1 (by omega)]; exact hS.2.2.2.2.2.1 k a b
  · exact fun i a b => by rw [fs (99 + i) (by omega)]; exact hS.2.2.2.2.2.2.1 i a b
  · exact fun a x y => by rw [fs (199 + a) (by omega), fs (204 + a) (by omega), fs (209 + a) (by omega)]; exact hS.2.2.2.2.2.2.2 a x y
  · exact ⟨by show m2 34 0 = s' 0; rw [fm 34 (by omega), fs 0 (by omega)]; exact hR.1.1, fun g a b => by show m2 35 g = s' (8 + g) ∧ m2 36 g = s' (15 + g) ∧ m2 37 g = s' (22 + g) ∧ m2 38 g = s' (29 + g); rw [fm 35 (by omega), fm 36 (by omega), fm 37 (by omega), fm 38 (by omega), fs (8 + g) (by omega), fs (15 + g) (by omega), fs (22 + g) (by omega), fs (29 + g) (by omega)]; exact hR.1.2 g a b⟩
  · exact fun k a b => by show m2 39 k = s' (36 + k); rw [fm 39 (by omega), fs (36 + k) (by omega)]; exact hR.2.1 k a b
  · exact ⟨by rw [fm 33 (by omega), fs 1 (by omega)]; exact hR.2.2.1.1, by rw [fm 33 (by omega), fs 7 (by omega)]; exact hR.2.2.1.2.1, by rw [fm 33 (by omega), fs 2 (by omega)]; exact hR.2.2.1.2.2.1, fun p a b => by show m2 40 p = s' (64 + p); rw [fm 40 (by omega), fs (64 + p) (by omega)]; exact hR.2.2.1.2.2.2 p a b⟩
  · exact ⟨by show m2 41 0 = s' 5; rw [fm 41 (by omega), fs 5 (by omega)]; exact hR.2.2.2.1.1, fun i a b => by show m2 42 i = s' (99 + i); rw [fm 42 (by omega), fs (99 + i) (by omega)]; exact hR.2.2.2.1.2 i a b⟩
  · exact ⟨by show m2 43 0 = rutS s'; rw [fm 43 (by omega), hrt.1]; exact hR.2.2.2.2.1.1, by show m2 43 1 = fogS s'; rw [fm 43 (by omega), hrt.2]; exact hR.2.2.2.2.1.2⟩
  · exact ⟨by show m2 49 0 = s' 3; rw [c1, v1], fun k a b => by show m2 50 k = s' (69 + k) ∧ m2 51 k = s' (76 + k); rw [fm 50 (by omega), fm 51 (by omega), fs (69 + k) (by omega), fs (76 + k) (by omega)]; exact hR.2.2.2.2.2.1.2 k a b⟩
  · exact ⟨by show m2 52 0 = s' 4; rw [fm 52 (by omega), fs 4 (by omega)]; exact hR.2.2.2.2.2.2.1, fun k a b => by show m2 53 k = s' (83 + k) ∧ m2 54 k = s' (91 + k); rw [fm 53 (by omega), fm 54 (by omega), fs (83 + k) (by omega), fs (91 + k) (by omega)]; exact hR.2.2.2.2.2.2.2 k a b⟩
theorem A_see1 {m m2 : XM} {s s' : Int → Int} {cl : CLs} {g t : Int} (hS : okS s) (hR : RepB m s 33) (hC : ClB m 33 cl) (hCS : ClS s cl) (h3 : s 3 < 7) (hg : 0 ≤ g ∧ g < s 0) (ht : 0 ≤ t ∧ t ≤ 9999) (fs : ∀ y, (y ≠ 3 ∧ y ≠ 69 + s 3 ∧ y ≠ 76 + s 3) → s' y = s y) (fm : ∀ x, (¬ (49 ≤ x ∧ x ≤ 51) ∧ x ≠ 122) → m2 x = m x) (v0 : s' 3 = s 3 + 1) (v1 : s' (69 + s 3) = g) (v2 : s' (76 + s 3) = t) (c0 : m2 49 0 = s 3 + 1) (cN : m2 50 (s 3) = g ∧ m2 51 (s 3) = t) (cO : ∀ k, k ≠ s 3 → m2 50 k = m 50 k ∧ m2 51 k = m 51 k) : okS s' ∧ RepB m2 s' 33 ∧ ClB m2 33 cl ∧ ClS s' cl := by
  have b1 := hS.1
  have hrt := rt_c hS (fs 6 (by omega)) (fun y a => fs y (by omega))
  refine ⟨⟨?_, ?_, ?_, ?_, ?_, ?_, ?_, ?_⟩, ⟨?_, ?_, ?_, ?_, ?_, ?_, ?_⟩, ClB_cong (fun x a b => fm x (by omega)) hC, ClS_c (fs 6 (by omega)) (fun y a => fs y (by omega)) hCS⟩
  · rw [fs 0 (by omega), fs 1 (by omega), fs 2 (by omega), v0, fs 4 (by omega), fs 5 (by omega), fs 6 (by omega), fs 7 (by omega)]; omega
  · exact fun g a b => by rw [fs (8 + g) (by omega), fs (15 + g) (by omega), fs (22 + g) (by omega), fs (29 + g) (by omega)]; exact hS.2.1 g a b
  · exact fun k a b => by rw [fs (36 + k) (by omega), fs 0 (by omega)]; exact hS.2.2.1 k a b
  · exact fun p a b => by rw [fs (64 + p) (by omega)]; exact hS.2.2.2.1 p a b
  · exact fun k a b => by
      have q := hS.2.2.2.2.1 k a b
      rw [fs 0 (by omega), v0]
      by_cases e : k = s 3
      · rw [e, v1, v2]; exact ⟨⟨hg.1, fun _ => hg.2⟩, ht⟩
      · rw [fs (69 + k) (by omega), fs (76 + k) (by omega)]; exact ⟨⟨q.1.1, fun w => q.1.2 (by omega)⟩, q.2⟩
  · exact fun k a b => by rw [fs (83 + k) (by omega), fs (91 + k) (by omega), fs 4 (by omega), fs 1 (by omega)]; exact hS.2.2.2.2.2.1 k a b
  · exact fun i a b => by rw [fs (99 + i) (by omega)]; exact hS.2.2.2.2.2.2.1 i a b
  · exact fun a x y => by rw [fs (199 + a) (by omega), fs (204 + a) (by omega), fs (209 + a) (by omega)]; exact hS.2.2.2.2.2.2.2 a x y
  · exact ⟨by show m2 34 0 = s' 0; rw [fm 34 (by omega), fs 0 (by omega)]; exact hR.1.1, fun g a b => by show m2 35 g = s' (8 + g) ∧ m2 36 g = s' (15 + g) ∧ m2 37 g = s' (22 + g) ∧ m2 38 g = s' (29 + g); rw [fm 35 (by omega), fm 36 (by omega), fm 37 (by omega), fm 38 (by omega), fs (8 + g) (by omega), fs (15 + g) (by omega), fs (22 + g) (by omega), fs (29 + g) (by omega)]; exact hR.1.2 g a b⟩
  · exact fun k a b => by show m2 39 k = s' (36 + k); rw [fm 39 (by omega), fs (36 + k) (by omega)]; exact hR.2.1 k a b
  · exact ⟨by rw [fm 33 (by omega), fs 1 (by omega)]; exact hR.2.2.1.1, by rw [fm 33 (by omega), fs 7 (by omega)]; exact hR.2.2.1.2.1, by rw [fm 33 (by omega), fs 2 (by omega)]; exact hR.2.2.1.2.2.1, fun p a b => by show m2 40 p = s' (64 + p); rw [fm 40 (by omega), fs (64 + p) (by omega)]; exact hR.2.2.1.2.2.2 p a b⟩
  · exact ⟨by show m2 41 0 = s' 5; rw [fm 41 (by omega), fs 5 (by omega)]; exact hR.2.2.2.1.1, fun i a b => by show m2 42 i = s' (99 + i); rw [fm 42 (by omega), fs (99 + i) (by omega)]; exact hR.2.2.2.1.2 i a b⟩
  · exact ⟨by show m2 43 0 = rutS s'; rw [fm 43 (by omega), hrt.1]; exact hR.2.2.2.2.1.1, by show m2 43 1 = fogS s'; rw [fm 43 (by omega), hrt.2]; exact hR.2.2.2.2.1.2⟩
  · exact ⟨by show m2 49 0 = s' 3; rw [c0, v0], fun k a b => by
      show m2 50 k = s' (69 + k) ∧ m2 51 k = s' (76 + k)
      by_cases e : k = s 3
      · rw [e, v1, v2]; exact cN
      · rw [(cO k e).1, (cO k e).2, fs (69 + k) (by omega), fs (76 + k) (by omega)]; exact hR.2.2.2.2.2.1.2 k a b⟩
  · exact ⟨by show m2 52 0 = s' 4; rw [fm 52 (by omega), fs 4 (by omega)]; exact hR.2.2.2.2.2.2.1, fun k a b => by show m2 53 k = s' (83 + k) ∧ m2 54 k = s' (91 + k); rw [fm 53 (by omega), fm 54 (by omega), fs (83 + k) (by omega), fs (91 + k) (by omega)]; exact hR.2.2.2.2.2.2.2 k a b⟩
theorem A_book0 {m m2 : XM} {s s' : Int → Int} {cl : CLs}  (hS : okS s) (hR : RepB m s 33) (hC : ClB m 33 cl) (hCS : ClS s cl) (fs : ∀ y, (y ≠ 4) → s' y = s y) (fm : ∀ x, (x ≠ 52 ∧ x ≠ 122) → m2 x = m x) (v1 : s' 4 = 0) (c1 : m2 52 0 = 0) : okS s' ∧ RepB m2 s' 33 ∧ ClB m2 33 cl ∧ ClS s' cl := by
  have b1 := hS.1
  have hrt := rt_c hS (fs 6 (by omega)) (fun y a => fs y (by omega))
  refine ⟨⟨?_, ?_, ?_, ?_, ?_, ?_, ?_, ?_⟩, ⟨?_, ?_, ?_, ?_, ?_, ?_, ?_⟩, ClB_cong (fun x a b => fm x (by omega)) hC, ClS_c (fs 6 (by omega)) (fun y a => fs y (by omega)) hCS⟩
  · rw [fs 0 (by omega), fs 1 (by omega), fs 2 (by omega), fs 3 (by omega), v1, fs 5 (by omega), fs 6 (by omega), fs 7 (by omega)]; omega
  · exact fun g a b => by rw [fs (8 + g) (by omega), fs (15 + g) (by omega), fs (22 + g) (by omega), fs (29 + g) (by omega)]; exact hS.2.1 g a b
  · exact fun k a b => by rw [fs (36 + k) (by omega), fs 0 (by omega)]; exact hS.2.2.1 k a b
  · exact fun p a b => by rw [fs (64 + p) (by omega)]; exact hS.2.2.2.1 p a b
  · exact fun k a b => by rw [fs (69 + k) (by omega), fs (76 + k) (by omega), fs 3 (by omega), fs 0 (by omega)]; exact hS.2.2.2.2.1 k a b
  · exact fun k a b => by
      have q := hS.2.2.2.2.2.1 k a b
      rw [fs (83 + k) (by omega), fs (91 + k) (by omega), fs 1 (by omega), v1]
      exact ⟨⟨q.1.1, fun w => by omega⟩, q.2⟩
  · exact fun i a b => by rw [fs (99 + i) (by omega)]; exact hS.2.2.2.2.2.2.1 i a b
  · exact fun a x y => by rw [fs (199 + a) (by omega), fs (204 + a) (by omega), fs (209 + a) (by omega)]; exact hS.2.2.2.2.2.2.2 a x y
  · exact ⟨by show m2 34 0 = s' 0; rw [fm 34 (by omega), fs 0 (by omega)]; exact hR.1.1, fun g a b => by show m2 35 g = s' (8 + g) ∧ m2 36 g = s' (15 + g) ∧ m2 37 g = s' (22 + g) ∧ m2 38 g = s' (29 + g); rw [fm 35 (by omega), fm 36 (by omega), fm 37 (by omega), fm 38 (by omega), fs (8 + g) (by omega), fs (15 + g) (by omega), fs (22 + g) (by omega), fs (29 + g) (by omega)]; exact hR.1.2 g a b⟩
  · exact fun k a b => by show m2 39 k = s' (36 + k); rw [fm 39 (by omega), fs (36 + k) (by omega)]; exact hR.2.1 k a b
  · exact ⟨by rw [fm 33 (by omega), fs 1 (by omega)]; exact hR.2.2.1.1, by rw [fm 33 (by omega), fs 7 (by omega)]; exact hR.2.2.1.2.1, by rw [fm 33 (by omega), fs 2 (by omega)]; exact hR.2.2.1.2.2.1, fun p a b => by show m2 40 p = s' (64 + p); rw [fm 40 (by omega), fs (64 + p) (by omega)]; exact hR.2.2.1.2.2.2 p a b⟩
  · exact ⟨by show m2 41 0 = s' 5; rw [fm 41 (by omega), fs 5 (by omega)]; exact hR.2.2.2.1.1, fun i a b => by show m2 42 i = s' (99 + i); rw [fm 42 (by omega), fs (99 + i) (by omega)]; exact hR.2.2.2.1.2 i a b⟩
  · exact ⟨by show m2 43 0 = rutS s'; rw [fm 43 (by omega), hrt.1]; exact hR.2.2.2.2.1.1, by show m2 43 1 = fogS s'; rw [fm 43 (by omega), hrt.2]; exact hR.2.2.2.2.1.2⟩
  · exact ⟨by show m2 49 0 = s' 3; rw [fm 49 (by omega), fs 3 (by omega)]; exact hR.2.2.2.2.2.1.1, fun k a b => by show m2 50 k = s' (69 + k) ∧ m2 51 k = s' (76 + k); rw [fm 50 (by omega), fm 51 (by omega), fs (69 + k) (by omega), fs (76 + k) (by omega)]; exact hR.2.2.2.2.2.1.2 k a b⟩
  · exact ⟨by show m2 52 0 = s' 4; rw [c1, v1], fun k a b => by show m2 53 k = s' (83 + k) ∧ m2 54 k = s' (91 + k); rw [fm 53 (by omega), fm 54 (by omega), fs (83 + k) (by omega), fs (91 + k) (by omega)]; exact hR.2.2.2.2.2.2.2 k a b⟩
theorem A_book1 {m m2 : XM} {s s' : Int → Int} {cl : CLs} {g t : Int} (hS : okS s) (hR : RepB m s 33) (hC : ClB m 33 cl) (hCS : ClS s cl) (h3 : s 4 < 8) (hg : 0 ≤ g ∧ g < s 1) (ht : 0 ≤ t ∧ t ≤ 9999) (fs : ∀ y, (y ≠ 4 ∧ y ≠ 83 + s 4 ∧ y ≠ 91 + s 4) → s' y = s y) (fm : ∀ x, (¬ (52 ≤ x ∧ x ≤ 54) ∧ x ≠ 122) → m2 x = m x) (v0 : s' 4 = s 4 + 1) (v1 : s' (83 + s 4) = g) (v2 : s' (91 + s 4) = t) (c0 : m2 52 0 = s 4 + 1) (cN : m2 53 (s 4) = g ∧ m2 54 (s 4) = t) (cO : ∀ k, k ≠ s 4 → m2 53 k = m 53 k ∧ m2 54 k = m 54 k) : okS s' ∧ RepB m2 s' 33 ∧ ClB m2 33 cl ∧ ClS s' cl := by
  have b1 := hS.1
  have hrt := rt_c hS (fs 6 (by omega)) (fun y a => fs y (by omega))
  refine ⟨⟨?_, ?_, ?_, ?_, ?_, ?_, ?_, ?_⟩, ⟨?_, ?_, ?_, ?_, ?_, ?_, ?_⟩, ClB_cong (fun x a b => fm x (by omega)) hC, ClS_c (fs 6 (by omega)) (fun y a => fs y (by omega)) hCS⟩
  · rw [fs 0 (by omega), fs 1 (by omega), fs 2 (by omega), fs 3 (by omega), v0, fs 5 (by omega), fs 6 (by omega), fs 7 (by omega)]; omega
  · exact fun g a b => by rw [fs (8 + g) (by omega), fs (15 + g) (by omega), fs (22 + g) (by omega), fs (29 + g) (by omega)]; exact hS.2.1 g a b
  · exact fun k a b => by rw [fs (36 + k) (by omega), fs 0 (by omega)]; exact hS.2.2.1 k a b
  · exact fun p a b => by rw [fs (64 + p) (by omega)]; exact hS.2.2.2.1 p a b
  · exact fun k a b => by rw [fs (69 + k) (by omega), fs (76 + k) (by omega), fs 3 (by omega), fs 0 (by omega)]; exact hS.2.2.2.2.1 k a b
  · exact fun k a b => by
      have q := hS.2.2.2.2.2.1 k a b
      rw [fs 1 (by omega), v0]
      by_cases e : k = s 4
      · rw [e, v1, v2]; exact ⟨⟨hg.1, fun _ => hg.2⟩, ht⟩
      · rw [fs (83 + k) (by omega), fs (91 + k) (by omega)]; exact ⟨⟨q.1.1, fun w => q.1.2 (by omega)⟩, q.2⟩
  · exact fun i a b => by rw [fs (99 + i) (by omega)]; exact hS.2.2.2.2.2.2.1 i a b
  · exact fun a x y => by rw [fs (199 + a) (by omega), fs (204 + a) (by omega), fs (209 + a) (by omega)]; exact hS.2.2.2.2.2.2.2 a x y
  · exact ⟨by show m2 34 0 = s' 0; rw [fm 34 (by omega), fs 0 (by omega)]; exact hR.1.1, fun g a b => by show m2 35 g = s' (8 + g) ∧ m2 36 g = s' (15 + g) ∧ m2 37 g = s' (22 + g) ∧ m2 38 g = s' (29 + g); rw [fm 35 (by omega), fm 36 (by omega), fm 37 (by omega), fm 38 (by omega), fs (8 + g) (by omega), fs (15 + g) (by omega), fs (22 + g) (by omega), fs (29 + g) (by omega)]; exact hR.1.2 g a b⟩
  · exact fun k a b => by show m2 39 k = s' (36 + k); rw [fm 39 (by omega), fs (36 + k) (by omega)]; exact hR.2.1 k a b
  · exact ⟨by rw [fm 33 (by omega), fs 1 (by omega)]; exact hR.2.2.1.1, by rw [fm 33 (by omega), fs 7 (by omega)]; exact hR.2.2.1.2.1, by rw [fm 33 (by omega), fs 2 (by omega)]; exact hR.2.2.1.2.2.1, fun p a b => by show m2 40 p = s' (64 + p); rw [fm 40 (by omega), fs (64 + p) (by omega)]; exact hR.2.2.1.2.2.2 p a b⟩
  · exact ⟨by show m2 41 0 = s' 5; rw [fm 41 (by omega), fs 5 (by omega)]; exact hR.2.2.2.1.1, fun i a b => by show m2 42 i = s' (99 + i); rw [fm 42 (by omega), fs (99 + i) (by omega)]; exact hR.2.2.2.1.2 i a b⟩
  · exact ⟨by show m2 43 0 = rutS s'; rw [fm 43 (by omega), hrt.1]; exact hR.2.2.2.2.1.1, by show m2 43 1 = fogS s'; rw [fm 43 (by omega), hrt.2]; exact hR.2.2.2.2.1.2⟩
  · exact ⟨by show m2 49 0 = s' 3; rw [fm 49 (by omega), fs 3 (by omega)]; exact hR.2.2.2.2.2.1.1, fun k a b => by show m2 50 k = s' (69 + k) ∧ m2 51 k = s' (76 + k); rw [fm 50 (by omega), fm 51 (by omega), fs (69 + k) (by omega), fs (76 + k) (by omega)]; exact hR.2.2.2.2.2.1.2 k a b⟩
  · exact ⟨by show m2 52 0 = s' 4; rw [c0, v0], fun k a b => by
      show m2 53 k = s' (83 + k) ∧ m2 54 k = s' (91 + k)
      by_cases e : k = s 4
      · rw [e, v1, v2]; exact cN
      · rw [(cO k e).1, (cO k e).2, fs (83 + k) (by omega), fs (91 + k) (by omega)]; exact hR.2.2.2.2.2.2.2 k a b⟩
