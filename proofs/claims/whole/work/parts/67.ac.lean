-- ===== acts =====
def t0 (kd g n : Int) : Int := if kd = 1 ∨ kd = 4 then w32 (w32 (n * 3) + g) else if kd = 5 then iXor (w32 (n + g)) g else w32 (n + g)
def b0 (kd : Int) : List Int := if kd = 1 ∨ kd = 4 then [11, 1] else if kd = 5 then [51, 1] else [1]
def t1 (kd g v n : Int) : Int := if kd = 2 ∨ kd = 5 then w32 (-(w32 (t0 kd g n - v))) else if kd = 6 then w32 (w32 (t0 kd g n - v) + v) else w32 (t0 kd g n - v)
def b1 (kd : Int) : List Int := if kd = 2 ∨ kd = 5 then 21 :: 2 :: b0 kd else if kd = 6 then 61 :: 2 :: b0 kd else 2 :: b0 kd
def t2 (kd g v n : Int) : Int := if kd = 3 ∨ kd = 6 then iXor (w32 (t1 kd g v n * 2)) 7 else if kd = 4 then w32 (w32 (t1 kd g v (w32 (n - 1)) * 2) + t0 kd g 2) else w32 (t1 kd g v n * 2)
def b2 (kd : Int) : List Int := if kd = 3 ∨ kd = 6 then 31 :: 3 :: b1 kd else if kd = 4 then 41 :: 3 :: (b1 kd ++ b0 kd) else 3 :: b1 kd
/-- a body is run: the class's list, the reference's -/
def pC (m : XM) (b : Int) : XM := up2 (up2 m 119 (m 118 0) b) 118 0 (m 118 0 + 1)
def pR (m : XM) (b : Int) : XM := up2 (up2 m 140 (m 121 43) b) 121 43 (m 121 43 + 1)
def pCs (m : XM) : List Int → XM
  | [] => m
  | b :: L => pCs (pC m b) L
def pRs (m : XM) : List Int → XM
  | [] => m
  | b :: L => pRs (pR m b) L
theorem pCs_app (m : XM) (L1 L2 : List Int) : pCs m (L1 ++ L2) = pCs (pCs m L1) L2 := by
  induction L1 generalizing m with
  | nil => rfl
  | cons b L ih => exact ih (pC m b)
theorem pRs_app (m : XM) (L1 L2 : List Int) : pRs m (L1 ++ L2) = pRs (pRs m L1) L2 := by
  induction L1 generalizing m with
  | nil => rfl
  | cons b L ih => exact ih (pR m b)
theorem pC_0 (m : XM) (b : Int) : pC m b 118 0 = m 118 0 + 1 := up2_s _ _ _ _
theorem pC_k {m : XM} {b y : Int} (h : y ≠ 0) : pC m b 118 y = m 118 y := by unfold pC; rw [up2_k h, up2_c (by decide)]
theorem pC_c {m : XM} {b : Int} {x : Nat} (h1 : x ≠ 118) (h2 : x ≠ 119) : pC m b x = m x := by unfold pC; rw [up2_c h1, up2_c h2]
theorem pR_0 (m : XM) (b : Int) : pR m b 121 43 = m 121 43 + 1 := up2_s _ _ _ _
theorem pR_k {m : XM} {b y : Int} (h : y ≠ 43) : pR m b 121 y = m 121 y := by unfold pR; rw [up2_k h, up2_c (by decide)]
theorem pR_c {m : XM} {b : Int} {x : Nat} (h1 : x ≠ 121) (h2 : x ≠ 140) : pR m b x = m x := by unfold pR; rw [up2_c h1, up2_c h2]
theorem pCs_0 (L : List Int) : ∀ m : XM, pCs m L 118 0 = m 118 0 + L.length := by
  induction L with
  | nil => intro m; show m 118 0 = _ + ((0 : Nat) : Int); omega
  | cons b L ih => intro m; show pCs (pC m b) L 118 0 = _; rw [ih, pC_0, List.length_cons]; push_cast; omega
theorem pCs_k (L : List Int) {y : Int} (h : y ≠ 0) : ∀ m : XM, pCs m L 118 y = m 118 y := by
  induction L with
  | nil => intro m; rfl
  | cons b L ih => intro m; show pCs (pC m b) L 118 y = _; rw [ih, pC_k h]
theorem pCs_c (L : List Int) {x : Nat} (h1 : x ≠ 118) (h2 : x ≠ 119) : ∀ m : XM, pCs m L x = m x := by
  induction L with
  | nil => intro m; rfl
  | cons b L ih => intro m; show pCs (pC m b) L x = _; rw [ih, pC_c h1 h2]
theorem pRs_0 (L : List Int) : ∀ m : XM, pRs m L 121 43 = m 121 43 + L.length := by
  induction L with
  | nil => intro m; show m 121 43 = _ + ((0 : Nat) : Int); omega
  | cons b L ih => intro m; show pRs (pR m b) L 121 43 = _; rw [ih, pR_0, List.length_cons]; push_cast; omega
theorem pRs_k (L : List Int) {y : Int} (h : y ≠ 43) : ∀ m : XM, pRs m L 121 y = m 121 y := by
  induction L with
  | nil => intro m; rfl
  | cons b L ih => intro m; show pRs (pR m b) L 121 y = _; rw [ih, pR_k h]
theorem pRs_c (L : List Int) {x : Nat} (h1 : x ≠ 121) (h2 : x ≠ 140) : ∀ m : XM, pRs m L x = m x := by
  induction L with
  | nil => intro m; rfl
  | cons b L ih => intro m; show pRs (pR m b) L x = _; rw [ih, pR_c h1 h2]
/-- both lists are alike -/
theorem p_same (L : List Int) : ∀ a b : XM, a 118 0 = b 121 43 → (∀ i, 0 ≤ i → i < a 118 0 → a 119 i = b 140 i) → ∀ i, 0 ≤ i → i < pCs a L 118 0 → pCs a L 119 i = pRs b L 140 i := by
  induction L with
  | nil => intro a b _ h2; exact h2
  | cons c L ih =>
    intro a b h1 h2
    refine ih (pC a c) (pR b c) (by rw [pC_0, pR_0, h1]) (fun i i1 i2 => ?_)
    rw [pC_0] at i2
    unfold pC pR
    rw [up2_c (show 119 ≠ 118 by decide), up2_c (show 140 ≠ 121 by decide), h1]
    by_cases q : i = b 121 43
    · rw [q, up2_s, up2_s]
    · rw [up2_k q, up2_k q]; exact h2 i i1 (by omega)
theorem b_len (kd : Int) : (b0 kd).length ≤ 2 ∧ (b1 kd).length ≤ 4 ∧ (b2 kd).length ≤ 8 := by
  have h0 : (b0 kd).length ≤ 2 := by unfold b0; (repeat' split) <;> decide
  have h1 : (b1 kd).length ≤ 4 := by unfold b1; (repeat' split) <;> (simp only [List.length_cons]; omega)
  refine ⟨h0, h1, ?_⟩
  unfold b2; (repeat' split) <;> (simp only [List.length_cons, List.length_append]; omega)
def resF (c w b a : Int) : Prop := (0 ≤ c ∧ c ≤ 6) ∧ zTab 4 (c * 3 + w) = b ∧ b ≠ 0 ∧ zTab 2 c = a
def resP (c w b a : Int) : Prop := resF c w b a ∨ ((0 < c ∧ c ≤ 6) ∧ zTab 4 (c * 3 + w) = 0 ∧ resF (zTab 2 c) w b a) ∨ ((0 < c ∧ c ≤ 6) ∧ zTab 4 (c * 3 + w) = 0 ∧ (0 < zTab 2 c ∧ zTab 2 c ≤ 6) ∧ zTab 4 (zTab 2 c * 3 + w) = 0 ∧ resF (zTab 2 (zTab 2 c)) w b a)
theorem c_perf (d z : Nat) (m : XM) (c w b a n dep : Int) (P : Int → XM → Prop) (hw : 0 ≤ w ∧ w ≤ 2) (hdep : 0 ≤ dep ∧ dep ≤ 20) (hr : 0 ≤ m 118 0 ∧ m 118 0 < 20) (hres : resP c w b a)
    (hcall : CI d k_Ac_doBody z (pC m b) [vR 118, vI b, vI a, vI n, vI (dep + 1)] P) : CI (d + 1) k_Ac_perform z m [vR 118, vI c, vI w, vI n, vI dep] P := by
  have fin : ∀ (c2 c0 j : Int), resF c2 w b a → (0 ≤ j ∧ j < 7) → RZ (d + 1) k_Ac_perform 6 [vR 118, vI c0, vI w, vI n, vI dep, vI c2, vI j] [] (zH z m) (qz z (qi P)) := by
    intro c2 c0 j ⟨h1, h2, h3, h4⟩ hj
    have go : RZ (d + 1) k_Ac_perform 45 [vR 118, vI c0, vI w, vI n, vI dep, vI c2, vI j] [] (zH z m) (qz z (qi P)) := by
      refine r_loadI a2_45 rfl ?_
      refine r_iflt a2_47 (fun h_47 => ?_) (fun h_47 => ?_)
      · exfalso
        omega
      · refine r_loadI a2_50 rfl ?_
        refine r_pushI a2_52 ?_
        refine r_icle a2_54 (fun h_54 => ?_) (fun h_54 => ?_)
        · refine r_statR a2_59 ?_
          refine r_loadI a2_62 rfl ?_
          refine r_pushI a2_64 ?_
          refine r_mul a2_65 (by omega) ?_
          refine r_loadI a2_66 rfl ?_
          refine r_add a2_67 (by omega) ?_
          refine r_ialdT a2_68 (by omega) ?_
          rw [h2]
          refine r_storeI_6 a2_69 rfl ?_
          refine r_loadA a2_71 rfl (by decide) ?_
          refine r_getI (ki := 0) a2_72 ty118 rfl ?_
          refine r_pushI a2_75 ?_
          refine r_icge a2_77 (fun h_77 => ?_) (fun h_77 => ?_)
          · exfalso
            omega
          · refine r_loadA a2_80 rfl (by decide) ?_
            refine r_getR a2_81 ty118 rf118_1 (by decide) ?_
            refine r_loadA a2_84 rfl (by decide) ?_
            refine r_getI (ki := 0) a2_85 ty118 rfl ?_
            refine r_loadI a2_88 rfl ?_
            refine r_iast a2_90 ty119 (by omega) ?_
            refine r_loadA a2_91 rfl (by decide) ?_
            refine r_dup a2_92 rfl ?_
            refine r_getI (ki := 0) a2_93 ty118 rfl ?_
            refine r_pushI a2_96 ?_
            rw [up2_c (by decide)]
            refine r_add a2_97 (by omega) ?_
            refine r_putI (ki := 0) a2_98 ty118 rfl ?_
            refine r_loadA a2_101 rfl (by decide) ?_
            refine r_loadI a2_102 rfl ?_
            refine r_statR a2_104 ?_
            refine r_loadI a2_107 rfl ?_
            refine r_ialdT a2_109 (by omega) ?_
            rw [h4]
            refine r_loadI a2_110 rfl ?_
            refine r_loadI a2_111 rfl ?_
            refine r_pushI a2_113 ?_
            refine r_add a2_114 (by omega) ?_
            refine r_callI_5 a2_115 (Nat.le_of_ble_eq_true rfl) (le_mx mx3 (Nat.le_of_ble_eq_true rfl)) (Or.inr (recv_ok ty118 ow3 (by decide))) (hcall) (fun x_115 m_115 h_115 => ?_)
            refine r_retIq a2_118 ?_
            exact h_115
        · exfalso
          omega
    refine r_loadI a2_6 rfl ?_
    refine r_pushI a2_8 ?_
    refine r_icge a2_10 (fun h_10 => ?_) (fun h_10 => ?_)
    · exfalso
      omega
    · refine r_loadI a2_13 rfl ?_
      refine r_ifle a2_15 (fun h_15 => ?_) (fun h_15 => ?_)
      · exact go
      · refine r_statR a2_18 ?_
        refine r_loadI a2_21 rfl ?_
        refine r_pushI a2_23 ?_
        refine r_mul a2_24 (by omega) ?_
        refine r_loadI a2_25 rfl ?_
        refine r_add a2_26 (by omega) ?_
        refine r_ialdT a2_27 (by omega) ?_
        rw [h2]
        refine r_ifne a2_28 (fun h_28 => ?_) (fun h_28 => ?_)
        · exact go
        · exfalso
          omega
  have it : ∀ (c2 c0 j c3 : Int), (0 < c2 ∧ c2 ≤ 6) → zTab 4 (c2 * 3 + w) = 0 → zTab 2 c2 = c3 → (0 ≤ j ∧ j < 6) → RZ (d + 1) k_Ac_perform 6 [vR 118, vI c0, vI w, vI n, vI dep, vI c3, vI (j + 1)] [] (zH z m) (qz z (qi P)) → RZ (d + 1) k_Ac_perform 6 [vR 118, vI c0, vI w, vI n, vI dep, vI c2, vI j] [] (zH z m) (qz z (qi P)) := by
    intro c2 c0 j c3 h1 h2 h3 hj k
    refine r_loadI a2_6 rfl ?_
    refine r_pushI a2_8 ?_
    refine r_icge a2_10 (fun h_10 => ?_) (fun h_10 => ?_)
    · exfalso
      omega
    · refine r_loadI a2_13 rfl ?_
      refine r_ifle a2_15 (fun h_15 => ?_) (fun h_15 => ?_)
      · exfalso
        omega
      · refine r_statR a2_18 ?_
        refine r_loadI a2_21 rfl ?_
        refine r_pushI a2_23 ?_
        refine r_mul a2_24 (by omega) ?_
        refine r_loadI a2_25 rfl ?_
        refine r_add a2_26 (by omega) ?_
        refine r_ialdT a2_27 (by omega) ?_
        rw [h2]
        refine r_ifne a2_28 (fun h_28 => ?_) (fun h_28 => ?_)
        · exfalso
          omega
        · refine r_statR a2_31 ?_
          refine r_loadI a2_34 rfl ?_
          refine r_ialdT a2_36 (by omega) ?_
          rw [h3]
          refine r_storeI_5 a2_37 rfl ?_
          refine r_iinc_6 a2_39 rfl (by omega) ?_
          refine r_goto a2_42 ?_
          exact k
  refine r_entry mx2 rfl ?_
  refine r_loadI a2_0 rfl ?_
  refine r_storeI_5 a2_1 rfl ?_
  refine r_pushI a2_3 ?_
  refine r_storeI_6 a2_4 rfl ?_
  rcases hres with h | ⟨h1, h2, h3⟩ | ⟨h1, h2, h3, h4, h5⟩
  · exact fin _ _ _ h (by omega)
  · exact it _ _ _ _ h1 h2 rfl (by omega) (fin _ _ _ h3 (by omega))
  · exact it _ _ _ _ h1 h2 rfl (by omega) (it _ _ _ _ h3 h4 rfl (by omega) (fin _ _ _ h5 (by omega)))
/-- who acts -/
def Own (m : XM) (kd v g : Int) : Prop := m 118 2 = kd ∧ m 118 3 = v ∧ m 118 4 = g
theorem Own_p {m : XM} {kd v g : Int} (h : Own m kd v g) (L : List Int) : Own (pCs m L) kd v g := ⟨by rw [pCs_k L (by decide)]; exact h.1, by rw [pCs_k L (by decide)]; exact h.2.1, by rw [pCs_k L (by decide)]; exact h.2.2⟩
theorem Own_1 {m : XM} {kd v g : Int} (h : Own m kd v g) (b : Int) : Own (pC m b) kd v g := Own_p h [b]
theorem c_plain0 (d z : Nat) (m : XM) (kd v g c n dep : Int) (hd : 2 ≤ d) (hO : Own m kd v g) (hr : 0 ≤ m 118 0 ∧ m 118 0 < 20) (hdep : 0 ≤ dep ∧ dep ≤ 20) (hres : resP c 0 1 (-1)) : CI d k_Ac_perform z m [vR 118, vI c, vI 0, vI n, vI dep] (fun x m' => x = w32 (n + g) ∧ m' = pC m 1) := by
  obtain ⟨e, rfl⟩ : ∃ e, d = e + 1 := ⟨d - 1, by omega⟩
  refine c_perf e z m c 0 1 (-1) n dep _ (by omega) hdep hr hres ?_
  have e4 : pC m 1 118 4 = g := (Own_1 hO 1).2.2
  refine r_entry mx3 rfl ?_
  refine r_loadI a3_0 rfl ?_
  refine r_switch a3_1 ?_
  refine r_sw_cons (fun h_1 => ?_) (fun n_1_1 => ?_)
  · refine r_loadI a3_84 rfl ?_
    refine r_loadA a3_85 rfl (by decide) ?_
    refine r_getI (ki := 4) a3_86 ty118 rfl ?_
    rw [e4]
    refine r_addW a3_89 ?_
    refine r_retIq a3_90 ?_
    exact ⟨rfl, rfl⟩
  refine r_sw_cons (fun h_1 => ?_) (fun n_1_2 => ?_)
  · exfalso
    omega
  refine r_sw_cons (fun h_1 => ?_) (fun n_1_3 => ?_)
  · exfalso
    omega
  refine r_sw_cons (fun h_1 => ?_) (fun n_1_11 => ?_)
  · exfalso
    omega
  refine r_sw_cons (fun h_1 => ?_) (fun n_1_21 => ?_)
  · exfalso
    omega
  refine r_sw_cons (fun h_1 => ?_) (fun n_1_31 => ?_)
  · exfalso
    omega
  refine r_sw_cons (fun h_1 => ?_) (fun n_1_41 => ?_)
  · exfalso
    omega
  refine r_sw_cons (fun h_1 => ?_) (fun n_1_51 => ?_)
  · exfalso
    omega
  refine r_sw_cons (fun h_1 => ?_) (fun n_1_61 => ?_)
  · exfalso
    omega
  refine r_sw_nil ?_
  exfalso
  omega
theorem c_turns (d z : Nat) (m : XM) (kd v g n dep : Int) (hd : 4 ≤ d) (hkd : 0 ≤ kd ∧ kd ≤ 6) (hO : Own m kd v g) (hr : 0 ≤ m 118 0 ∧ m 118 0 < 18) (hdep : 0 ≤ dep ∧ dep ≤ 18) : CI d k_Ac_perform z m [vR 118, vI kd, vI 0, vI n, vI dep] (fun x m' => x = t0 kd g n ∧ m' = pCs m (b0 kd)) := by
  obtain ⟨e, rfl⟩ : ∃ e, d = e + 2 := ⟨d - 2, by omega⟩
  have hc : kd = 0 ∨ kd = 1 ∨ kd = 2 ∨ kd = 3 ∨ kd = 4 ∨ kd = 5 ∨ kd = 6 := by omega
  have p0 : ∀ b, pC m b 118 0 = m 118 0 + 1 := pC_0 m
  have b11 : ∀ c, resP c 0 11 0 → CI (e + 2) k_Ac_perform z m [vR 118, vI c, vI 0, vI n, vI dep] (fun x m' => x = w32 (w32 (n * 3) + g) ∧ m' = pC (pC m 11) 1) := by
    intro c hres
    refine c_perf (e + 1) z m c 0 11 0 n dep _ (by omega) (by omega) (by omega) hres ?_
    refine r_entry mx3 rfl ?_
    refine r_loadI a3_0 rfl ?_
    refine r_switch a3_1 ?_
    refine r_sw_cons (fun h_1 => ?_) (fun n_1_1 => ?_)
    · exfalso
      omega
    refine r_sw_cons (fun h_1 => ?_) (fun n_1_2 => ?_)
    · exfalso
      omega
    refine r_sw_cons (fun h_1 => ?_) (fun n_1_3 => ?_)
    · exfalso
      omega
    refine r_sw_cons (fun h_1 => ?_) (fun n_1_11 => ?_)
    · refine r_loadA a3_124 rfl (by decide) ?_
      refine r_loadI a3_125 rfl ?_
      refine r_pushI a3_126 ?_
      refine r_loadI a3_127 rfl ?_
      refine r_pushI a3_128 ?_
      refine r_mulW a3_129 ?_
      refine r_loadI a3_130 rfl ?_
      refine r_callI_5 a3_132 (Nat.le_of_ble_eq_true rfl) (le_mx mx2 (Nat.le_of_ble_eq_true rfl)) (Or.inr (recv_ok ty118 ow2 (by decide))) (c_plain0 e z (pC m 11) kd v g 0 (w32 (n * 3)) (dep + 1) (by omega) (Own_1 hO 11) (by rw [p0]; omega) (by omega) (by unfold resP resF; decide)) (fun x_132 m_132 h_132 => ?_)
      refine r_retIq a3_135 ?_
      exact h_132
    refine r_sw_cons (fun h_1 => ?_) (fun n_1_21 => ?_)
    · exfalso
      omega
    refine r_sw_cons (fun h_1 => ?_) (fun n_1_31 => ?_)
    · exfalso
      omega
    refine r_sw_cons (fun h_1 => ?_) (fun n_1_41 => ?_)
    · exfalso
      omega
    refine r_sw_cons (fun h_1 => ?_) (fun n_1_51 => ?_)
    · exfalso
      omega
    refine r_sw_cons (fun h_1 => ?_) (fun n_1_61 => ?_)
    · exfalso
      omega
    refine r_sw_nil ?_
    exfalso
    omega
  have b51 : ∀ c, resP c 0 51 2 → CI (e + 2) k_Ac_perform z m [vR 118, vI c, vI 0, vI n, vI dep] (fun x m' => x = iXor (w32 (n + g)) g ∧ m' = pC (pC m 51) 1) := by
    intro c hres
    refine c_perf (e + 1) z m c 0 51 2 n dep _ (by omega) (by omega) (by omega) hres ?_
    refine r_entry mx3 rfl ?_
    refine r_loadI a3_0 rfl ?_
    refine r_switch a3_1 ?_
    refine r_sw_cons (fun h_1 => ?_) (fun n_1_1 => ?_)
    · exfalso
      omega
    refine r_sw_cons (fun h_1 => ?_) (fun n_1_2 => ?_)
    · exfalso
      omega
    refine r_sw_cons (fun h_1 => ?_) (fun n_1_3 => ?_)
    · exfalso
      omega
    refine r_sw_cons (fun h_1 => ?_) (fun n_1_11 => ?_)
    · exfalso
      omega
    refine r_sw_cons (fun h_1 => ?_) (fun n_1_21 => ?_)
    · exfalso
      omega
    refine r_sw_cons (fun h_1 => ?_) (fun n_1_31 => ?_)
    · exfalso
      omega
    refine r_sw_cons (fun h_1 => ?_) (fun n_1_41 => ?_)
    · exfalso
      omega
    refine r_sw_cons (fun h_1 => ?_) (fun n_1_51 => ?_)
    · refine r_loadA a3_185 rfl (by decide) ?_
      refine r_loadI a3_186 rfl ?_
      refine r_pushI a3_187 ?_
      refine r_loadI a3_188 rfl ?_
      refine r_loadI a3_189 rfl ?_
      refine r_callI_5 a3_191 (Nat.le_of_ble_eq_true rfl) (le_mx mx2 (Nat.le_of_ble_eq_true rfl)) (Or.inr (recv_ok ty118 ow2 (by decide))) (c_plain0 e z (pC m 51) kd v g 2 n (dep + 1) (by omega) (Own_1 hO 51) (by rw [p0]; omega) (by omega) (by unfold resP resF; decide)) (fun x_191 m_191 h_191 => ?_)
      obtain ⟨h1, h2⟩ := h_191
      have e4 : m_191 118 4 = g := by rw [h2]; exact (Own_1 (Own_1 hO 51) 1).2.2
      rw [h1]
      refine r_loadA a3_194 rfl (by decide) ?_
      refine r_getI (ki := 4) a3_195 ty118 rfl ?_
      rw [e4]
      refine r_xor a3_198 ?_
      refine r_retIq a3_199 ?_
      exact ⟨rfl, h2⟩
    refine r_sw_cons (fun h_1 => ?_) (fun n_1_61 => ?_)
    · exfalso
      omega
    refine r_sw_nil ?_
    exfalso
    omega
  have b1 : ∀ c, resP c 0 1 (-1) → CI (e + 2) k_Ac_perform z m [vR 118, vI c, vI 0, vI n, vI dep] (fun x m' => x = w32 (n + g) ∧ m' = pC m 1) := fun c hres => c_plain0 (e + 2) z m kd v g c n dep (by omega) hO (by omega) (by omega) hres
  rcases hc with q | q | q | q | q | q | q <;> subst q
  · exact b1 0 (by unfold resP resF; decide)
  · exact b11 1 (by unfold resP resF; decide)
  · exact b1 2 (by unfold resP resF; decide)
  · exact b1 3 (by unfold resP resF; decide)
  · exact b11 4 (by unfold resP resF; decide)
  · exact b51 5 (by unfold resP resF; decide)
  · exact b1 6 (by unfold resP resF; decide)
theorem c_plain1 (d z : Nat) (m : XM) (kd v g c n dep : Int) (hd : 6 ≤ d) (hkd : 0 ≤ kd ∧ kd ≤ 6) (hO : Own m kd v g) (hr : 0 ≤ m 118 0 ∧ m 118 0 < 17) (hdep : 0 ≤ dep ∧ dep ≤ 17) (hres : resP c 1 2 (-1)) : CI d k_Ac_perform z m [vR 118, vI c, vI 1, vI n, vI dep] (fun x m' => x = w32 (t0 kd g n - v) ∧ m' = pCs m (2 :: b0 kd)) := by
  obtain ⟨e, rfl⟩ : ∃ e, d = e + 2 := ⟨d - 2, by omega⟩
  refine c_perf (e + 1) z m c 1 2 (-1) n dep _ (by omega) (by omega) (by omega) hres ?_
  have hO2 := Own_1 hO 2
  have e2 : pC m 2 118 2 = kd := hO2.1
  refine r_entry mx3 rfl ?_
  refine r_loadI a3_0 rfl ?_
  refine r_switch a3_1 ?_
  refine r_sw_cons (fun h_1 => ?_) (fun n_1_1 => ?_)
  · exfalso
    omega
  refine r_sw_cons (fun h_1 => ?_) (fun n_1_2 => ?_)
  · refine r_loadA a3_91 rfl (by decide) ?_
    refine r_loadA a3_92 rfl (by decide) ?_
    refine r_getI (ki := 2) a3_93 ty118 rfl ?_
    rw [e2]
    refine r_pushI a3_96 ?_
    refine r_loadI a3_97 rfl ?_
    refine r_loadI a3_98 rfl ?_
    refine r_callI_5 a3_100 (Nat.le_of_ble_eq_true rfl) (le_mx mx2 (Nat.le_of_ble_eq_true rfl)) (Or.inr (recv_ok ty118 ow2 (by decide))) (c_turns e z (pC m 2) kd v g n (dep + 1) (by omega) hkd hO2 (by rw [pC_0]; omega) (by omega)) (fun x_100 m_100 h_100 => ?_)
    obtain ⟨h1, h2⟩ := h_100
    have e3 : m_100 118 3 = v := by rw [h2]; exact (Own_p hO2 (b0 kd)).2.1
    rw [h1]
    refine r_loadA a3_103 rfl (by decide) ?_
    refine r_getI (ki := 3) a3_104 ty118 rfl ?_
    rw [e3]
    refine r_subW a3_107 ?_
    refine r_retIq a3_108 ?_
    exact ⟨rfl, h2⟩
  refine r_sw_cons (fun h_1 => ?_) (fun n_1_3 => ?_)
  · exfalso
    omega
  refine r_sw_cons (fun h_1 => ?_) (fun n_1_11 => ?_)
  · exfalso
    omega
  refine r_sw_cons (fun h_1 => ?_) (fun n_1_21 => ?_)
  · exfalso
    omega
  refine r_sw_cons (fun h_1 => ?_) (fun n_1_31 => ?_)
  · exfalso
    omega
  refine r_sw_cons (fun h_1 => ?_) (fun n_1_41 => ?_)
  · exfalso
    omega
  refine r_sw_cons (fun h_1 => ?_) (fun n_1_51 => ?_)
  · exfalso
    omega
  refine r_sw_cons (fun h_1 => ?_) (fun n_1_61 => ?_)
  · exfalso
    omega
  refine r_sw_nil ?_
  exfalso
  omega
theorem c_slides (d z : Nat) (m : XM) (kd v g n dep : Int) (hd : 8 ≤ d) (hkd : 0 ≤ kd ∧ kd ≤ 6) (hO : Own m kd v g) (hr : 0 ≤ m 118 0 ∧ m 118 0 < 16) (hdep : 0 ≤ dep ∧ dep ≤ 16) : CI d k_Ac_perform z m [vR 118, vI kd, vI 1, vI n, vI dep] (fun x m' => x = t1 kd g v n ∧ m' = pCs m (b1 kd)) := by
  obtain ⟨e, rfl⟩ : ∃ e, d = e + 2 := ⟨d - 2, by omega⟩
  have hc : kd = 0 ∨ kd = 1 ∨ kd = 2 ∨ kd = 3 ∨ kd = 4 ∨ kd = 5 ∨ kd = 6 := by omega
  have p0 : ∀ b, pC m b 118 0 = m 118 0 + 1 := pC_0 m
  have b21 : ∀ c, resP c 1 21 0 → CI (e + 2) k_Ac_perform z m [vR 118, vI c, vI 1, vI n, vI dep] (fun x m' => x = w32 (-(w32 (t0 kd g n - v))) ∧ m' = pCs m (21 :: 2 :: b0 kd)) := by
    intro c hres
    refine c_perf (e + 1) z m c 1 21 0 n dep _ (by omega) (by omega) (by omega) hres ?_
    refine r_entry mx3 rfl ?_
    refine r_loadI a3_0 rfl ?_
    refine r_switch a3_1 ?_
    refine r_sw_cons (fun h_1 => ?_) (fun n_1_1 => ?_)
    · exfalso
      omega
    refine r_sw_cons (fun h_1 => ?_) (fun n_1_2 => ?_)
    · exfalso
      omega
    refine r_sw_cons (fun h_1 => ?_) (fun n_1_3 => ?_)
    · exfalso
      omega
    refine r_sw_cons (fun h_1 => ?_) (fun n_1_11 => ?_)
    · exfalso
      omega
    refine r_sw_cons (fun h_1 => ?_) (fun n_1_21 => ?_)
    · refine r_loadA a3_136 rfl (by decide) ?_
      refine r_loadI a3_137 rfl ?_
      refine r_pushI a3_138 ?_
      refine r_loadI a3_139 rfl ?_
      refine r_loadI a3_140 rfl ?_
      refine r_callI_5 a3_142 (Nat.le_of_ble_eq_true rfl) (le_mx mx2 (Nat.le_of_ble_eq_true rfl)) (Or.inr (recv_ok ty118 ow2 (by decide))) (c_plain1 e z (pC m 21) kd v g 0 n (dep + 1) (by omega) hkd (Own_1 hO 21) (by rw [p0]; omega) (by omega) (by unfold resP resF; decide)) (fun x_142 m_142 h_142 => ?_)
      obtain ⟨h1, h2⟩ := h_142
      rw [h1]
      refine r_negW a3_145 ?_
      refine r_retIq a3_146 ?_
      exact ⟨rfl, h2⟩
    refine r_sw_cons (fun h_1 => ?_) (fun n_1_31 => ?_)
    · exfalso
      omega
    refine r_sw_cons (fun h_1 => ?_) (fun n_1_41 => ?_)
    · exfalso
      omega
    refine r_sw_cons (fun h_1 => ?_) (fun n_1_51 => ?_)
    · exfalso
      omega
    refine r_sw_cons (fun h_1 => ?_) (fun n_1_61 => ?_)
    · exfalso
      omega
    refine r_sw_nil ?_
    exfalso
    omega
  have b61 : ∀ c, resP c 1 61 3 → CI (e + 2) k_Ac_perform z m [vR 118, vI c, vI 1, vI n, vI dep] (fun x m' => x = w32 (w32 (t0 kd g n - v) + v) ∧ m' = pCs m (61 :: 2 :: b0 kd)) := by
    intro c hres
    refine c_perf (e + 1) z m c 1 61 3 n dep _ (by omega) (by omega) (by omega) hres ?_
    refine r_entry mx3 rfl ?_
    refine r_loadI a3_0 rfl ?_
    refine r_switch a3_1 ?_
    refine r_sw_cons (fun h_1 => ?_) (fun n_1_1 => ?_)
    · exfalso
      omega
    refine r_sw_cons (fun h_1 => ?_) (fun n_1_2 => ?_)
    · exfalso
      omega
    refine r_sw_cons (fun h_1 => ?_) (fun n_1_3 => ?_)
    · exfalso
      omega
    refine r_sw_cons (fun h_1 => ?_) (fun n_1_11 => ?_)
    · exfalso
      omega
    refine r_sw_cons (fun h_1 => ?_) (fun n_1_21 => ?_)
    · exfalso
      omega
    refine r_sw_cons (fun h_1 => ?_) (fun n_1_31 => ?_)
    · exfalso
      omega
    refine r_sw_cons (fun h_1 => ?_) (fun n_1_41 => ?_)
    · exfalso
      omega
    refine r_sw_cons (fun h_1 => ?_) (fun n_1_51 => ?_)
    · exfalso
      omega
    refine r_sw_cons (fun h_1 => ?_) (fun n_1_61 => ?_)
    · refine r_loadA a3_200 rfl (by decide) ?_
      refine r_loadI a3_201 rfl ?_
      refine r_pushI a3_202 ?_
      refine r_loadI a3_203 rfl ?_
      refine r_loadI a3_204 rfl ?_
      refine r_callI_5 a3_206 (Nat.le_of_ble_eq_true rfl) (le_mx mx2 (Nat.le_of_ble_eq_true rfl)) (Or.inr (recv_ok ty118 ow2 (by decide))) (c_plain1 e z (pC m 61) kd v g 3 n (dep + 1) (by omega) hkd (Own_1 hO 61) (by rw [p0]; omega) (by omega) (by unfold resP resF; decide)) (fun x_206 m_206 h_206 => ?_)
      obtain ⟨h1, h2⟩ := h_206
      have e3 : m_206 118 3 = v := by rw [h2]; exact (Own_p (Own_1 hO 61) (2 :: b0 kd)).2.1
      rw [h1]
      refine r_loadA a3_209 rfl (by decide) ?_
      refine r_getI (ki := 3) a3_210 ty118 rfl ?_
      rw [e3]
      refine r_addW a3_213 ?_
      refine r_retIq a3_214 ?_
      exact ⟨rfl, h2⟩
    refine r_sw_nil ?_
    exfalso
    omega
  have b1 : ∀ c, resP c 1 2 (-1) → CI (e + 2) k_Ac_perform z m [vR 118, vI c, vI 1, vI n, vI dep] (fun x m' => x = w32 (t0 kd g n - v) ∧ m' = pCs m (2 :: b0 kd)) := fun c hres => c_plain1 (e + 2) z m kd v g c n dep (by omega) hkd hO (by omega) (by omega) hres
  rcases hc with q | q | q | q | q | q | q <;> subst q
  · exact b1 0 (by unfold resP resF; decide)
  · exact b1 1 (by unfold resP resF; decide)
  · exact b21 2 (by unfold resP resF; decide)
  · exact b1 3 (by unfold resP resF; decide)
  · exact b1 4 (by unfold resP resF; decide)
  · exact b21 5 (by unfold resP resF; decide)
  · exact b61 6 (by unfold resP resF; decide)
theorem c_plain2 (d z : Nat) (m : XM) (kd v g c n dep : Int) (hd : 10 ≤ d) (hkd : 0 ≤ kd ∧ kd ≤ 6) (hO : Own m kd v g) (hr : 0 ≤ m 118 0 ∧ m 118 0 < 15) (hdep : 0 ≤ dep ∧ dep ≤ 15) (hres : resP c 2 3 (-1)) : CI d k_Ac_perform z m [vR 118, vI c, vI 2, vI n, vI dep] (fun x m' => x = w32 (t1 kd g v n * 2) ∧ m' = pCs m (3 :: b1 kd)) := by
  obtain ⟨e, rfl⟩ : ∃ e, d = e + 2 := ⟨d - 2, by omega⟩
  refine c_perf (e + 1) z m c 2 3 (-1) n dep _ (by omega) (by omega) (by omega) hres ?_
  have hO2 := Own_1 hO 3
  have e2 : pC m 3 118 2 = kd := hO2.1
  refine r_entry mx3 rfl ?_
  refine r_loadI a3_0 rfl ?_
  refine r_switch a3_1 ?_
  refine r_sw_cons (fun h_1 => ?_) (fun n_1_1 => ?_)
  · exfalso
    omega
  refine r_sw_cons (fun h_1 => ?_) (fun n_1_2 => ?_)
  · exfalso
    omega
  refine r_sw_cons (fun h_1 => ?_) (fun n_1_3 => ?_)
  · refine r_loadA a3_109 rfl (by decide) ?_
    refine r_loadA a3_110 rfl (by decide) ?_
    refine r_getI (ki := 2) a3_111 ty118 rfl ?_
    rw [e2]
    refine r_pushI a3_114 ?_
    refine r_loadI a3_115 rfl ?_
    refine r_loadI a3_116 rfl ?_
    refine r_callI_5 a3_118 (Nat.le_of_ble_eq_true rfl) (le_mx mx2 (Nat.le_of_ble_eq_true rfl)) (Or.inr (recv_ok ty118 ow2 (by decide))) (c_slides e z (pC m 3) kd v g n (dep + 1) (by omega) hkd hO2 (by rw [pC_0]; omega) (by omega)) (fun x_118 m_118 h_118 => ?_)
    obtain ⟨h1, h2⟩ := h_118
    rw [h1]
    refine r_pushI a3_121 ?_
    refine r_mulW a3_122 ?_
    refine r_retIq a3_123 ?_
    exact ⟨rfl, h2⟩
  refine r_sw_cons (fun h_1 => ?_) (fun n_1_11 => ?_)
  · exfalso
    omega
  refine r_sw_cons (fun h_1 => ?_) (fun n_1_21 => ?_)
  · exfalso
    omega
  refine r_sw_cons (fun h_1 => ?_) (fun n_1_31 => ?_)
  · exfalso
    omega
  refine r_sw_cons (fun h_1 => ?_) (fun n_1_41 => ?_)
  · exfalso
    omega
  refine r_sw_cons (fun h_1 => ?_) (fun n_1_51 => ?_)
  · exfalso
    omega
  refine r_sw_cons (fun h_1 => ?_) (fun n_1_61 => ?_)
  · exfalso
    omega
  refine r_sw_nil ?_
  exfalso
  omega
theorem c_tells (d z : Nat) (m : XM) (kd v g n dep : Int) (hd : 12 ≤ d) (hkd : 0 ≤ kd ∧ kd ≤ 6) (hO : Own m kd v g) (hr : 0 ≤ m 118 0 ∧ m 118 0 < 10) (hdep : 0 ≤ dep ∧ dep ≤ 10) : CI d k_Ac_perform z m [vR 118, vI kd, vI 2, vI n, vI dep] (fun x m' => x = t2 kd g v n ∧ m' = pCs m (b2 kd)) := by
  obtain ⟨e, rfl⟩ : ∃ e, d = e + 2 := ⟨d - 2, by omega⟩
  have hc : kd = 0 ∨ kd = 1 ∨ kd = 2 ∨ kd = 3 ∨ kd = 4 ∨ kd = 5 ∨ kd = 6 := by omega
  have p0 : ∀ b, pC m b 118 0 = m 118 0 + 1 := pC_0 m
  have hl := b_len kd
  have b31 : ∀ c, resP c 2 31 0 → CI (e + 2) k_Ac_perform z m [vR 118, vI c, vI 2, vI n, vI dep] (fun x m' => x = iXor (w32 (t1 kd g v n * 2)) 7 ∧ m' = pCs m (31 :: 3 :: b1 kd)) := by
    intro c hres
    refine c_perf (e + 1) z m c 2 31 0 n dep _ (by omega) (by omega) (by omega) hres ?_
    refine r_entry mx3 rfl ?_
    refine r_loadI a3_0 rfl ?_
    refine r_switch a3_1 ?_
    refine r_sw_cons (fun h_1 => ?_) (fun n_1_1 => ?_)
    · exfalso
      omega
    refine r_sw_cons (fun h_1 => ?_) (fun n_1_2 => ?_)
    · exfalso
      omega
    refine r_sw_cons (fun h_1 => ?_) (fun n_1_3 => ?_)
    · exfalso
      omega
    refine r_sw_cons (fun h_1 => ?_) (fun n_1_11 => ?_)
    · exfalso
      omega
    refine r_sw_cons (fun h_1 => ?_) (fun n_1_21 => ?_)
    · exfalso
      omega
    refine r_sw_cons (fun h_1 => ?_) (fun n_1_31 => ?_)
    · refine r_loadA a3_147 rfl (by decide) ?_
      refine r_loadI a3_148 rfl ?_
      refine r_pushI a3_149 ?_
      refine r_loadI a3_150 rfl ?_
      refine r_loadI a3_151 rfl ?_
      refine r_callI_5 a3_153 (Nat.le_of_ble_eq_true rfl) (le_mx mx2 (Nat.le_of_ble_eq_true rfl)) (Or.inr (recv_ok ty118 ow2 (by decide))) (c_plain2 e z (pC m 31) kd v g 0 n (dep + 1) (by omega) hkd (Own_1 hO 31) (by rw [p0]; omega) (by omega) (by unfold resP resF; decide)) (fun x_153 m_153 h_153 => ?_)
      obtain ⟨h1, h2⟩ := h_153
      rw [h1]
      refine r_pushI a3_156 ?_
      refine r_xor a3_158 ?_
      refine r_retIq a3_159 ?_
      exact ⟨rfl, h2⟩
    refine r_sw_cons (fun h_1 => ?_) (fun n_1_41 => ?_)
    · exfalso
      omega
    refine r_sw_cons (fun h_1 => ?_) (fun n_1_51 => ?_)
    · exfalso
      omega
    refine r_sw_cons (fun h_1 => ?_) (fun n_1_61 => ?_)
    · exfalso
      omega
    refine r_sw_nil ?_
    exfalso
    omega
  have b41 : ∀ c, resP c 2 41 1 → CI (e + 2) k_Ac_perform z m [vR 118, vI c, vI 2, vI n, vI dep] (fun x m' => x = w32 (w32 (t1 kd g v (w32 (n - 1)) * 2) + t0 kd g 2) ∧ m' = pCs m (41 :: 3 :: (b1 kd ++ b0 kd))) := by
    intro c hres
    refine c_perf (e + 1) z m c 2 41 1 n dep _ (by omega) (by omega) (by omega) hres ?_
    refine r_entry mx3 rfl ?_
    refine r_loadI a3_0 rfl ?_
    refine r_switch a3_1 ?_
    refine r_sw_cons (fun h_1 => ?_) (fun n_1_1 => ?_)
    · exfalso
      omega
    refine r_sw_cons (fun h_1 => ?_) (fun n_1_2 => ?_)
    · exfalso
      omega
    refine r_sw_cons (fun h_1 => ?_) (fun n_1_3 => ?_)
    · exfalso
      omega
    refine r_sw_cons (fun h_1 => ?_) (fun n_1_11 => ?_)
    · exfalso
      omega
    refine r_sw_cons (fun h_1 => ?_) (fun n_1_21 => ?_)
    · exfalso
      omega
    refine r_sw_cons (fun h_1 => ?_) (fun n_1_31 => ?_)
    · exfalso
      omega
    refine r_sw_cons (fun h_1 => ?_) (fun n_1_41 => ?_)
    · refine r_loadA a3_160 rfl (by decide) ?_
      refine r_loadI a3_161 rfl ?_
      refine r_pushI a3_162 ?_
      refine r_loadI a3_163 rfl ?_
      refine r_pushI a3_164 ?_
      refine r_subW a3_165 ?_
      refine r_loadI a3_166 rfl ?_
      refine r_callI_5 a3_168 (Nat.le_of_ble_eq_true rfl) (le_mx mx2 (Nat.le_of_ble_eq_true rfl)) (Or.inr (recv_ok ty118 ow2 (by decide))) (c_plain2 e z (pC m 41) kd v g 1 (w32 (n - 1)) (dep + 1) (by omega) hkd (Own_1 hO 41) (by rw [p0]; omega) (by omega) (by unfold resP resF; decide)) (fun x_168 m_168 h_168 => ?_)
      obtain ⟨h1, h2⟩ := h_168
      have hO3 : Own m_168 kd v g := by rw [h2]; exact Own_p (Own_1 hO 41) (3 :: b1 kd)
      have e2 : m_168 118 2 = kd := hO3.1
      have el : m_168 118 0 = m 118 0 + 1 + ((b1 kd).length + 1) := by rw [h2, pCs_0, p0, List.length_cons]; push_cast; rfl
      rw [h1]
      refine r_loadA a3_171 rfl (by decide) ?_
      refine r_loadA a3_172 rfl (by decide) ?_
      refine r_getI (ki := 2) a3_173 ty118 rfl ?_
      rw [e2]
      refine r_pushI a3_176 ?_
      refine r_pushI a3_177 ?_
      refine r_loadI a3_178 rfl ?_
      refine r_callI_5 a3_180 (Nat.le_of_ble_eq_true rfl) (le_mx mx2 (Nat.le_of_ble_eq_true rfl)) (Or.inr (recv_ok ty118 ow2 (by decide))) (c_turns e z m_168 kd v g 2 (dep + 1) (by omega) hkd hO3 (by omega) (by omega)) (fun x_180 m_180 h_180 => ?_)
      obtain ⟨h3, h4⟩ := h_180
      rw [h3]
      refine r_addW a3_183 ?_
      refine r_retIq a3_184 ?_
      refine ⟨rfl, ?_⟩
      rw [h4, h2, ← pCs_app]; rfl
    refine r_sw_cons (fun h_1 => ?_) (fun n_1_51 => ?_)
    · exfalso
      omega
    refine r_sw_cons (fun h_1 => ?_) (fun n_1_61 => ?_)
    · exfalso
      omega
    refine r_sw_nil ?_
    exfalso
    omega
  have b1' : ∀ c, resP c 2 3 (-1) → CI (e + 2) k_Ac_perform z m [vR 118, vI c, vI 2, vI n, vI dep] (fun x m' => x = w32 (t1 kd g v n * 2) ∧ m' = pCs m (3 :: b1 kd)) := fun c hres => c_plain2 (e + 2) z m kd v g c n dep (by omega) hkd hO (by omega) (by omega) hres
  rcases hc with q | q | q | q | q | q | q <;> subst q
  · exact b1' 0 (by unfold resP resF; decide)
  · exact b1' 1 (by unfold resP resF; decide)
  · exact b1' 2 (by unfold resP resF; decide)
  · exact b31 3 (by unfold resP resF; decide)
  · exact b41 4 (by unfold resP resF; decide)
  · exact b1' 5 (by unfold resP resF; decide)
  · exact b31 6 (by unfold resP resF; decide)
/-- an act's value, its bodies -/
def actV (kd g v w n : Int) : Int := if w = 0 then t0 kd g n else if w = 1 then t1 kd g v n else t2 kd g v n
def actB (kd w : Int) : List Int := if w = 0 then b0 kd else if w = 1 then b1 kd else b2 kd
theorem c_Fg_act (d z : Nat) (m : XM) (s : Int → Int) (cl : CLs) (g w n : Int) (hd : 20 ≤ d) (hC : CpC m s cl) : CI d k_Fg_act z m [vR 32, vI g, vI w, vI n] (fun x m' => (¬ (gt s g ∧ 0 ≤ w ∧ w ≤ 2) ∧ x = 0 ∧ m' = up2 m 118 0 0) ∨ ((gt s g ∧ 0 ≤ w ∧ w ≤ 2) ∧ x = actV (s (8 + g)) g (s (15 + g)) w n ∧ m' = pCs (up2 (up2 (up2 (up2 m 118 0 0) 118 2 (s (8 + g))) 118 3 (s (15 + g))) 118 4 g) (actB (s (8 + g)) w))) := by
  obtain ⟨e, rfl⟩ : ∃ e, d = e + 2 := ⟨d - 2, by omega⟩
  have hN := hC.1.1.1
  have beg : gt s g → (0 ≤ w ∧ w ≤ 2) → CI (e + 1) k_Ac_begin z m [vR 118, vR 34, vI g, vI w, vI n] (fun x m' => x = actV (s (8 + g)) g (s (15 + g)) w n ∧ m' = pCs (up2 (up2 (up2 (up2 m 118 0 0) 118 2 (s (8 + g))) 118 3 (s (15 + g))) 118 4 g) (actB (s (8 + g)) w)) := by
    intro hg hw
    have hg2 := hg.1
    have hg3 := hg.2
    have a1 : m 35 g = s (8 + g) := (hC.2.1.1.2 g hg2 (by omega)).1
    have a2 : m 36 g = s (15 + g) := (hC.2.1.1.2 g hg2 (by omega)).2.1
    have hkd := (hC.1.2.1 g hg2 (by omega)).1
    have hO : Own (up2 (up2 (up2 (up2 m 118 0 0) 118 2 (s (8 + g))) 118 3 (s (15 + g))) 118 4 g) (s (8 + g)) (s (15 + g)) g := ⟨by rw [up2_k (by decide), up2_k (by decide), up2_s], by rw [up2_k (by decide), up2_s], by rw [up2_s]⟩
    have h0 : up2 (up2 (up2 (up2 m 118 0 0) 118 2 (s (8 + g))) 118 3 (s (15 + g))) 118 4 g 118 0 = 0 := by rw [up2_k (by decide), up2_k (by decide), up2_k (by decide), up2_s]
    have e2 := hO.1
    have call : CI e k_Ac_perform z (up2 (up2 (up2 (up2 m 118 0 0) 118 2 (s (8 + g))) 118 3 (s (15 + g))) 118 4 g) [vR 118, vI (s (8 + g)), vI w, vI n, vI 0] (fun x m' => x = actV (s (8 + g)) g (s (15 + g)) w n ∧ m' = pCs (up2 (up2 (up2 (up2 m 118 0 0) 118 2 (s (8 + g))) 118 3 (s (15 + g))) 118 4 g) (actB (s (8 + g)) w)) := by
      have hc : w = 0 ∨ w = 1 ∨ w = 2 := by omega
      rcases hc with q | q | q <;> subst q
      · exact c_turns e z _ (s (8 + g)) (s (15 + g)) g n 0 (by omega) hkd hO (by rw [h0]; omega) (by omega)
      · exact c_slides e z _ (s (8 + g)) (s (15 + g)) g n 0 (by omega) hkd hO (by rw [h0]; omega) (by omega)
      · exact c_tells e z _ (s (8 + g)) (s (15 + g)) g n 0 (by omega) hkd hO (by rw [h0]; omega) (by omega)
    refine r_entry mx1 rfl ?_
    refine r_loadA a1_0 rfl (by decide) ?_
    refine r_pushI a1_1 ?_
    refine r_putI (ki := 0) a1_2 ty118 rfl ?_
    refine r_loadA a1_5 rfl (by decide) ?_
    refine r_loadA a1_6 rfl (by decide) ?_
    refine r_getR a1_7 ty34 rf34_1 (by decide) ?_
    refine r_loadI a1_10 rfl ?_
    refine r_iald a1_11 ty35 (by omega) ?_
    rw [up2_c (by decide), a1]
    refine r_putI (ki := 2) a1_12 ty118 rfl ?_
    refine r_loadA a1_15 rfl (by decide) ?_
    refine r_loadA a1_16 rfl (by decide) ?_
    refine r_getR a1_17 ty34 rf34_2 (by decide) ?_
    refine r_loadI a1_20 rfl ?_
    refine r_iald a1_21 ty36 (by omega) ?_
    rw [up2_c (by decide), up2_c (by decide), a2]
    refine r_putI (ki := 3) a1_22 ty118 rfl ?_
    refine r_loadA a1_25 rfl (by decide) ?_
    refine r_loadI a1_26 rfl ?_
    refine r_putI (ki := 4) a1_27 ty118 rfl ?_
    refine r_loadA a1_30 rfl (by decide) ?_
    refine r_loadA a1_31 rfl (by decide) ?_
    refine r_getI (ki := 2) a1_32 ty118 rfl ?_
    rw [e2]
    refine r_loadI a1_35 rfl ?_
    refine r_loadI a1_36 rfl ?_
    refine r_pushI a1_38 ?_
    refine r_callI_5 a1_39 (Nat.le_of_ble_eq_true rfl) (le_mx mx2 (Nat.le_of_ble_eq_true rfl)) (Or.inr (recv_ok ty118 ow2 (by decide))) (call) (fun x_39 m_39 h_39 => ?_)
    refine r_retIq a1_42 ?_
    exact h_39
  refine r_entry mx97 rfl ?_
  refine r_loadA a97_0 rfl (by decide) ?_
  refine r_loadI a97_1 rfl ?_
  refine r_callI_2 a97_2 (Nat.le_of_ble_eq_true rfl) (le_mx mx103 (Nat.le_of_ble_eq_true rfl)) (Or.inr (recv_ok ty32 ow103 (by decide))) (c_Fg_noGate (e + 1) z m s cl hC g) (fun x_2 m_2 h_2 => ?_)
  obtain ⟨hm_2, h_2⟩ := h_2
  rw [hm_2]
  refine r_ifne a97_5 (fun h_5 => ?_) (fun h_5 => ?_)
  · refine r_loadA a97_17 rfl (by decide) ?_
    refine r_getR a97_18 ty32 rf32_8 (by decide) ?_
    refine r_pushI a97_21 ?_
    refine r_putI (ki := 0) a97_22 ty118 rfl ?_
    refine r_pushI a97_25 ?_
    refine r_retIq a97_26 ?_
    refine Or.inl ⟨?_, rfl, rfl⟩
    rintro ⟨a, b⟩
    first
      | exact (gtD h_2).2 h_5 a
      | omega
  · refine r_loadI a97_8 rfl ?_
    refine r_pushI a97_9 ?_
    refine r_pushI a97_10 ?_
    refine r_callI_3 a97_11 (Nat.le_of_ble_eq_true rfl) (le_mx mx106 (Nat.le_of_ble_eq_true rfl)) (Or.inl rfl) (c_Fg_outside (e + 1) z m w 0 2) (fun x_11 m_11 h_11 => ?_)
    obtain ⟨hm_11, h_11⟩ := h_11
    rw [hm_11]
    refine r_ifeq a97_14 (fun h_14 => ?_) (fun h_14 => ?_)
    · have hg := (gtD h_2).1 (by omega)
      have hw : 0 ≤ w ∧ w ≤ 2 := by omega
      refine r_loadA a97_27 rfl (by decide) ?_
      refine r_getR a97_28 ty32 rf32_8 (by decide) ?_
      refine r_loadA a97_31 rfl (by decide) ?_
      refine r_getR a97_32 ty32 rf32_0 (by decide) ?_
      refine r_getR a97_35 ty33 rf33_0 (by decide) ?_
      refine r_loadI a97_38 rfl ?_
      refine r_loadI a97_39 rfl ?_
      refine r_loadI a97_40 rfl ?_
      refine r_callI_5 a97_41 (Nat.le_of_ble_eq_true rfl) (le_mx mx1 (Nat.le_of_ble_eq_true rfl)) (Or.inr (recv_ok ty118 ow1 (by decide))) (beg hg hw) (fun x_41 m_41 h_41 => ?_)
      refine r_retIq a97_44 ?_
      exact Or.inr ⟨⟨hg, hw⟩, h_41⟩
    · refine r_loadA a97_17 rfl (by decide) ?_
      refine r_getR a97_18 ty32 rf32_8 (by decide) ?_
      refine r_pushI a97_21 ?_
      refine r_putI (ki := 0) a97_22 ty118 rfl ?_
      refine r_pushI a97_25 ?_
      refine r_retIq a97_26 ?_
      refine Or.inl ⟨?_, rfl, rfl⟩
      rintro ⟨a, b⟩
      first
        | exact (gtD h_2).2 h_5 a
        | omega
-- ===== acts: the reference =====
theorem c_Mo_ranBody (d z : Nat) (m : XM) (b : Int) (hr : 0 ≤ m 121 43 ∧ m 121 43 < 20) : CV d k_Mo_ranBody z m [vR 121, vI b] (fun m' => m' = pR m b) := by
  refine r_entry mx195 rfl ?_
  refine r_loadA a195_0 rfl (by decide) ?_
  refine r_getI (ki := 43) a195_1 ty121 rfl ?_
  refine r_pushI a195_4 ?_
  refine r_icge a195_6 (fun h_6 => ?_) (fun h_6 => ?_)
  · exfalso
    omega
  · refine r_loadA a195_9 rfl (by decide) ?_
    refine r_getR a195_10 ty121 rf121_42 (by decide) ?_
    refine r_loadA a195_13 rfl (by decide) ?_
    refine r_getI (ki := 43) a195_14 ty121 rfl ?_
    refine r_loadI a195_17 rfl ?_
    refine r_iast a195_18 ty140 (by omega) ?_
    refine r_loadA a195_19 rfl (by decide) ?_
    refine r_dup a195_20 rfl ?_
    refine r_getI (ki := 43) a195_21 ty121 rfl ?_
    rw [up2_c (by decide)]
    refine r_pushI a195_24 ?_
    refine r_add a195_25 (by omega) ?_
    refine r_putI (ki := 43) a195_26 ty121 rfl ?_
    refine r_retVq a195_29 ?_
    rfl
def OwnR (m : XM) (kd v g : Int) : Prop := m 121 44 = kd ∧ m 121 46 = v ∧ m 121 45 = g
theorem OwnR_p {m : XM} {kd v g : Int} (h : OwnR m kd v g) (L : List Int) : OwnR (pRs m L) kd v g := ⟨by rw [pRs_k L (by decide)]; exact h.1, by rw [pRs_k L (by decide)]; exact h.2.1, by rw [pRs_k L (by decide)]; exact h.2.2⟩
theorem OwnR_1 {m : XM} {kd v g : Int} (h : OwnR m kd v g) (b : Int) : OwnR (pR m b) kd v g := OwnR_p h [b]
theorem c_Mo_plainTurns (d z : Nat) (m : XM) (kd v g n : Int) (hd : 1 ≤ d) (hO : OwnR m kd v g) (hr : 0 ≤ m 121 43 ∧ m 121 43 < 20) : CI d k_Mo_plainTurns z m [vR 121, vI n] (fun x m' => x = w32 (n + g) ∧ m' = pR m 1) := by
  obtain ⟨e, rfl⟩ : ∃ e, d = e + 1 := ⟨d - 1, by omega⟩
  have e4 : pR m 1 121 45 = g := (OwnR_1 hO 1).2.2
  refine r_entry mx197 rfl ?_
  refine r_loadA a197_0 rfl (by decide) ?_
  refine r_pushI a197_1 ?_
  refine r_callV_2 a197_2 (Nat.le_of_ble_eq_true rfl) (le_mx mx195 (Nat.le_of_ble_eq_true rfl)) (Or.inr (recv_ok ty121 ow195 (by decide))) (c_Mo_ranBody e z m 1 hr) (fun m_2 h_2 => ?_)
  rw [h_2]
  refine r_loadI a197_5 rfl ?_
  refine r_loadA a197_6 rfl (by decide) ?_
  refine r_getI (ki := 45) a197_7 ty121 rfl ?_
  rw [e4]
  refine r_addW a197_10 ?_
  refine r_retIq a197_11 ?_
  exact ⟨rfl, rfl⟩
theorem c_Mo_turnsActs (d z : Nat) (m : XM) (kd v g n : Int) (hd : 2 ≤ d) (hkd : 0 ≤ kd ∧ kd ≤ 6) (hO : OwnR m kd v g) (hr : 0 ≤ m 121 43 ∧ m 121 43 < 18) : CI d k_Mo_turnsActs z m [vR 121, vI n] (fun x m' => x = t0 kd g n ∧ m' = pRs m (b0 kd)) := by
  obtain ⟨e, rfl⟩ : ∃ e, d = e + 1 := ⟨d - 1, by omega⟩
  have e44 := hO.1
  have p0 : ∀ b, pR m b 121 43 = m 121 43 + 1 := pR_0 m
  refine r_entry mx198 rfl ?_
  refine r_loadA a198_0 rfl (by decide) ?_
  refine r_getI (ki := 44) a198_1 ty121 rfl ?_
  rw [e44]
  refine r_pushI a198_4 ?_
  refine r_callI_2 a198_5 (Nat.le_of_ble_eq_true rfl) (le_mx mx196 (Nat.le_of_ble_eq_true rfl)) (Or.inl rfl) (c_Mo_isUnder e z m kd 1 hkd) (fun x_5 m_5 h_5 => ?_)
  obtain ⟨hm_5, h_5⟩ := h_5
  rw [hm_5]
  refine r_ifeq a198_8 (fun h_8 => ?_) (fun h_8 => ?_)
  · refine r_loadA a198_25 rfl (by decide) ?_
    refine r_getI (ki := 44) a198_26 ty121 rfl ?_
    rw [e44]
    refine r_pushI a198_29 ?_
    refine r_icne a198_30 (fun h_30 => ?_) (fun h_30 => ?_)
    · refine r_loadA a198_50 rfl (by decide) ?_
      refine r_loadI a198_51 rfl ?_
      refine r_callI_2 a198_52 (Nat.le_of_ble_eq_true rfl) (le_mx mx197 (Nat.le_of_ble_eq_true rfl)) (Or.inr (recv_ok ty121 ow197 (by decide))) (c_Mo_plainTurns e z m kd v g n (by omega) hO (by omega)) (fun x_52 m_52 h_52 => ?_)
      refine r_retIq a198_55 ?_
      unfold t0 b0
      rw [if_neg (by omega), if_neg (by omega), if_neg (by omega), if_neg (by omega)]; exact h_52
    · refine r_loadA a198_33 rfl (by decide) ?_
      refine r_pushI a198_34 ?_
      refine r_callV_2 a198_36 (Nat.le_of_ble_eq_true rfl) (le_mx mx195 (Nat.le_of_ble_eq_true rfl)) (Or.inr (recv_ok ty121 ow195 (by decide))) (c_Mo_ranBody e z m 51 (by omega)) (fun m_36 h_36 => ?_)
      rw [h_36]
      refine r_loadA a198_39 rfl (by decide) ?_
      refine r_loadI a198_40 rfl ?_
      refine r_callI_2 a198_41 (Nat.le_of_ble_eq_true rfl) (le_mx mx197 (Nat.le_of_ble_eq_true rfl)) (Or.inr (recv_ok ty121 ow197 (by decide))) (c_Mo_plainTurns e z (pR m 51) kd v g n (by omega) (OwnR_1 hO 51) (by rw [p0]; omega)) (fun x_41 m_41 h_41 => ?_)
      obtain ⟨h1, h2⟩ := h_41
      have e4 : m_41 121 45 = g := by rw [h2]; exact (OwnR_1 (OwnR_1 hO 51) 1).2.2
      rw [h1]
      refine r_loadA a198_44 rfl (by decide) ?_
      refine r_getI (ki := 45) a198_45 ty121 rfl ?_
      rw [e4]
      refine r_xor a198_48 ?_
      refine r_retIq a198_49 ?_
      unfold t0 b0
      rw [if_neg (by omega), if_pos (by omega), if_neg (by omega), if_pos (by omega)]; exact ⟨rfl, h2⟩
  · refine r_loadA a198_11 rfl (by decide) ?_
    refine r_pushI a198_12 ?_
    refine r_callV_2 a198_14 (Nat.le_of_ble_eq_true rfl) (le_mx mx195 (Nat.le_of_ble_eq_true rfl)) (Or.inr (recv_ok ty121 ow195 (by decide))) (c_Mo_ranBody e z m 11 (by omega)) (fun m_14 h_14 => ?_)
    rw [h_14]
    refine r_loadA a198_17 rfl (by decide) ?_
    refine r_loadI a198_18 rfl ?_
    refine r_pushI a198_19 ?_
    refine r_mulW a198_20 ?_
    refine r_callI_2 a198_21 (Nat.le_of_ble_eq_true rfl) (le_mx mx197 (Nat.le_of_ble_eq_true rfl)) (Or.inr (recv_ok ty121 ow197 (by decide))) (c_Mo_plainTurns e z (pR m 11) kd v g (w32 (n * 3)) (by omega) (OwnR_1 hO 11) (by rw [p0]; omega)) (fun x_21 m_21 h_21 => ?_)
    refine r_retIq a198_24 ?_
    unfold t0 b0
    rw [if_pos (by omega), if_pos (by omega)]; exact h_21
theorem c_Mo_plainSlides (d z : Nat) (m : XM) (kd v g n : Int) (hd : 3 ≤ d) (hkd : 0 ≤ kd ∧ kd ≤ 6) (hO : OwnR m kd v g) (hr : 0 ≤ m 121 43 ∧ m 121 43 < 17) : CI d k_Mo_plainSlides z m [vR 121, vI n] (fun x m' => x = w32 (t0 kd g n - v) ∧ m' = pRs m (2 :: b0 kd)) := by
  obtain ⟨e, rfl⟩ : ∃ e, d = e + 1 := ⟨d - 1, by omega⟩
  refine r_entry mx199 rfl ?_
  refine r_loadA a199_0 rfl (by decide) ?_
  refine r_pushI a199_1 ?_
  refine r_callV_2 a199_2 (Nat.le_of_ble_eq_true rfl) (le_mx mx195 (Nat.le_of_ble_eq_true rfl)) (Or.inr (recv_ok ty121 ow195 (by decide))) (c_Mo_ranBody e z m 2 (by omega)) (fun m_2 h_2 => ?_)
  rw [h_2]
  refine r_loadA a199_5 rfl (by decide) ?_
  refine r_loadI a199_6 rfl ?_
  refine r_callI_2 a199_7 (Nat.le_of_ble_eq_true rfl) (le_mx mx198 (Nat.le_of_ble_eq_true rfl)) (Or.inr (recv_ok ty121 ow198 (by decide))) (c_Mo_turnsActs e z (pR m 2) kd v g n (by omega) hkd (OwnR_1 hO 2) (by rw [pR_0]; omega)) (fun x_7 m_7 h_7 => ?_)
  obtain ⟨h1, h2⟩ := h_7
  have e3 : m_7 121 46 = v := by rw [h2]; exact (OwnR_p (OwnR_1 hO 2) (b0 kd)).2.1
  rw [h1]
  refine r_loadA a199_10 rfl (by decide) ?_
  refine r_getI (ki := 46) a199_11 ty121 rfl ?_
  rw [e3]
  refine r_subW a199_14 ?_
  refine r_retIq a199_15 ?_
  exact ⟨rfl, h2⟩
theorem c_Mo_slidesActs (d z : Nat) (m : XM) (kd v g n : Int) (hd : 4 ≤ d) (hkd : 0 ≤ kd ∧ kd ≤ 6) (hO : OwnR m kd v g) (hr : 0 ≤ m 121 43 ∧ m 121 43 < 16) : CI d k_Mo_slidesActs z m [vR 121, vI n] (fun x m' => x = t1 kd g v n ∧ m' = pRs m (b1 kd)) := by
  obtain ⟨e, rfl⟩ : ∃ e, d = e + 1 := ⟨d - 1, by omega⟩
  have e44 := hO.1
  have p0 : ∀ b, pR m b 121 43 = m 121 43 + 1 := pR_0 m
  refine r_entry mx200 rfl ?_
  refine r_loadA a200_0 rfl (by decide) ?_
  refine r_getI (ki := 44) a200_1 ty121 rfl ?_
  rw [e44]
  refine r_pushI a200_4 ?_
  refine r_callI_2 a200_5 (Nat.le_of_ble_eq_true rfl) (le_mx mx196 (Nat.le_of_ble_eq_true rfl)) (Or.inl rfl) (c_Mo_isUnder e z m kd 2 hkd) (fun x_5 m_5 h_5 => ?_)
  obtain ⟨hm_5, h_5⟩ := h_5
  rw [hm_5]
  refine r_ifeq a200_8 (fun h_8 => ?_) (fun h_8 => ?_)
  · refine r_loadA a200_24 rfl (by decide) ?_
    refine r_getI (ki := 44) a200_25 ty121 rfl ?_
    refine r_pushI a200_28 ?_
    refine r_icne a200_30 (fun h_30 => ?_) (fun h_30 => ?_)
    · refine r_loadA a200_50 rfl (by decide) ?_
      refine r_loadI a200_51 rfl ?_
      refine r_callI_2 a200_52 (Nat.le_of_ble_eq_true rfl) (le_mx mx199 (Nat.le_of_ble_eq_true rfl)) (Or.inr (recv_ok ty121 ow199 (by decide))) (c_Mo_plainSlides e z m kd v g n (by omega) hkd hO (by omega)) (fun x_52 m_52 h_52 => ?_)
      refine r_retIq a200_55 ?_
      unfold t1 b1
      rw [if_neg (by omega), if_neg (by omega), if_neg (by omega), if_neg (by omega)]; exact h_52
    · refine r_loadA a200_33 rfl (by decide) ?_
      refine r_pushI a200_34 ?_
      refine r_callV_2 a200_36 (Nat.le_of_ble_eq_true rfl) (le_mx mx195 (Nat.le_of_ble_eq_true rfl)) (Or.inr (recv_ok ty121 ow195 (by decide))) (c_Mo_ranBody e z m 61 (by omega)) (fun m_36 h_36 => ?_)
      rw [h_36]
      refine r_loadA a200_39 rfl (by decide) ?_
      refine r_loadI a200_40 rfl ?_
      refine r_callI_2 a200_41 (Nat.le_of_ble_eq_true rfl) (le_mx mx199 (Nat.le_of_ble_eq_true rfl)) (Or.inr (recv_ok ty121 ow199 (by decide))) (c_Mo_plainSlides e z (pR m 61) kd v g n (by omega) hkd (OwnR_1 hO 61) (by rw [p0]; omega)) (fun x_41 m_41 h_41 => ?_)
      obtain ⟨h1, h2⟩ := h_41
      have e3 : m_41 121 46 = v := by rw [h2]; exact (OwnR_p (OwnR_1 hO 61) (2 :: b0 kd)).2.1
      rw [h1]
      refine r_loadA a200_44 rfl (by decide) ?_
      refine r_getI (ki := 46) a200_45 ty121 rfl ?_
      rw [e3]
      refine r_addW a200_48 ?_
      refine r_retIq a200_49 ?_
      unfold t1 b1
      rw [if_neg (by omega), if_pos (by omega), if_neg (by omega), if_pos (by omega)]; exact ⟨rfl, h2⟩
  · refine r_loadA a200_11 rfl (by decide) ?_
    refine r_pushI a200_12 ?_
    refine r_callV_2 a200_14 (Nat.le_of_ble_eq_true rfl) (le_mx mx195 (Nat.le_of_ble_eq_true rfl)) (Or.inr (recv_ok ty121 ow195 (by decide))) (c_Mo_ranBody e z m 21 (by omega)) (fun m_14 h_14 => ?_)
    rw [h_14]
    refine r_loadA a200_17 rfl (by decide) ?_
    refine r_loadI a200_18 rfl ?_
    refine r_callI_2 a200_19 (Nat.le_of_ble_eq_true rfl) (le_mx mx199 (Nat.le_of_ble_eq_true rfl)) (Or.inr (recv_ok ty121 ow199 (by decide))) (c_Mo_plainSlides e z (pR m 21) kd v g n (by omega) hkd (OwnR_1 hO 21) (by rw [p0]; omega)) (fun x_19 m_19 h_19 => ?_)
    obtain ⟨h1, h2⟩ := h_19
    rw [h1]
    refine r_negW a200_22 ?_
    refine r_retIq a200_23 ?_
    unfold t1 b1
    rw [if_pos (by omega), if_pos (by omega)]; exact ⟨rfl, h2⟩
theorem c_Mo_plainTells (d z : Nat) (m : XM) (kd v g n : Int) (hd : 5 ≤ d) (hkd : 0 ≤ kd ∧ kd ≤ 6) (hO : OwnR m kd v g) (hr : 0 ≤ m 121 43 ∧ m 121 43 < 15) : CI d k_Mo_plainTells z m [vR 121, vI n] (fun x m' => x = w32 (t1 kd g v n * 2) ∧ m' = pRs m (3 :: b1 kd)) := by
  obtain ⟨e, rfl⟩ : ∃ e, d = e + 1 := ⟨d - 1, by omega⟩
  refine r_entry mx201 rfl ?_
  refine r_loadA a201_0 rfl (by decide) ?_
  refine r_pushI a201_1 ?_
  refine r_callV_2 a201_2 (Nat.le_of_ble_eq_true rfl) (le_mx mx195 (Nat.le_of_ble_eq_true rfl)) (Or.inr (recv_ok ty121 ow195 (by decide))) (c_Mo_ranBody e z m 3 (by omega)) (fun m_2 h_2 => ?_)
  rw [h_2]
  refine r_loadA a201_5 rfl (by decide) ?_
  refine r_loadI a201_6 rfl ?_
  refine r_callI_2 a201_7 (Nat.le_of_ble_eq_true rfl) (le_mx mx200 (Nat.le_of_ble_eq_true rfl)) (Or.inr (recv_ok ty121 ow200 (by decide))) (c_Mo_slidesActs e z (pR m 3) kd v g n (by omega) hkd (OwnR_1 hO 3) (by rw [pR_0]; omega)) (fun x_7 m_7 h_7 => ?_)
  obtain ⟨h1, h2⟩ := h_7
  rw [h1]
  refine r_pushI a201_10 ?_
  refine r_mulW a201_11 ?_
  refine r_retIq a201_12 ?_
  exact ⟨rfl, h2⟩
theorem c_Mo_tellsActs (d z : Nat) (m : XM) (kd v g n : Int) (hd : 6 ≤ d) (hkd : 0 ≤ kd ∧ kd ≤ 6) (hO : OwnR m kd v g) (hr : 0 ≤ m 121 43 ∧ m 121 43 < 10) : CI d k_Mo_tellsActs z m [vR 121, vI n] (fun x m' => x = t2 kd g v n ∧ m' = pRs m (b2 kd)) := by
  obtain ⟨e, rfl⟩ : ∃ e, d = e + 1 := ⟨d - 1, by omega⟩
  have e44 := hO.1
  have p0 : ∀ b, pR m b 121 43 = m 121 43 + 1 := pR_0 m
  have hl := b_len kd
  refine r_entry mx202 rfl ?_
  refine r_loadA a202_0 rfl (by decide) ?_
  refine r_getI (ki := 44) a202_1 ty121 rfl ?_
  rw [e44]
  refine r_pushI a202_4 ?_
  refine r_callI_2 a202_5 (Nat.le_of_ble_eq_true rfl) (le_mx mx196 (Nat.le_of_ble_eq_true rfl)) (Or.inl rfl) (c_Mo_isUnder e z m kd 3 hkd) (fun x_5 m_5 h_5 => ?_)
  obtain ⟨hm_5, h_5⟩ := h_5
  rw [hm_5]
  refine r_ifeq a202_8 (fun h_8 => ?_) (fun h_8 => ?_)
  · refine r_loadA a202_26 rfl (by decide) ?_
    refine r_getI (ki := 44) a202_27 ty121 rfl ?_
    rw [e44]
    refine r_pushI a202_30 ?_
    refine r_icne a202_31 (fun h_31 => ?_) (fun h_31 => ?_)
    · refine r_loadA a202_56 rfl (by decide) ?_
      refine r_loadI a202_57 rfl ?_
      refine r_callI_2 a202_58 (Nat.le_of_ble_eq_true rfl) (le_mx mx201 (Nat.le_of_ble_eq_true rfl)) (Or.inr (recv_ok ty121 ow201 (by decide))) (c_Mo_plainTells e z m kd v g n (by omega) hkd hO (by omega)) (fun x_58 m_58 h_58 => ?_)
      refine r_retIq a202_61 ?_
      unfold t2 b2
      rw [if_neg (by omega), if_neg (by omega), if_neg (by omega), if_neg (by omega)]; exact h_58
    · refine r_loadA a202_34 rfl (by decide) ?_
      refine r_pushI a202_35 ?_
      refine r_callV_2 a202_37 (Nat.le_of_ble_eq_true rfl) (le_mx mx195 (Nat.le_of_ble_eq_true rfl)) (Or.inr (recv_ok ty121 ow195 (by decide))) (c_Mo_ranBody e z m 41 (by omega)) (fun m_37 h_37 => ?_)
      rw [h_37]
      refine r_loadA a202_40 rfl (by decide) ?_
      refine r_loadI a202_41 rfl ?_
      refine r_pushI a202_42 ?_
      refine r_subW a202_43 ?_
      refine r_callI_2 a202_44 (Nat.le_of_ble_eq_true rfl) (le_mx mx201 (Nat.le_of_ble_eq_true rfl)) (Or.inr (recv_ok ty121 ow201 (by decide))) (c_Mo_plainTells e z (pR m 41) kd v g (w32 (n - 1)) (by omega) hkd (OwnR_1 hO 41) (by rw [p0]; omega)) (fun x_44 m_44 h_44 => ?_)
      obtain ⟨h1, h2⟩ := h_44
      have hO3 : OwnR m_44 kd v g := by rw [h2]; exact OwnR_p (OwnR_1 hO 41) (3 :: b1 kd)
      have el : m_44 121 43 = m 121 43 + 1 + ((b1 kd).length + 1) := by rw [h2, pRs_0, p0, List.length_cons]; push_cast; rfl
      rw [h1]
      refine r_storeI_2 a202_47 rfl ?_
      refine r_loadI a202_48 rfl ?_
      refine r_loadA a202_49 rfl (by decide) ?_
      refine r_pushI a202_50 ?_
      refine r_callI_2 a202_51 (Nat.le_of_ble_eq_true rfl) (le_mx mx198 (Nat.le_of_ble_eq_true rfl)) (Or.inr (recv_ok ty121 ow198 (by decide))) (c_Mo_turnsActs e z m_44 kd v g 2 (by omega) hkd hO3 (by omega)) (fun x_51 m_51 h_51 => ?_)
      obtain ⟨h3, h4⟩ := h_51
      rw [h3]
      refine r_addW a202_54 ?_
      refine r_retIq a202_55 ?_
      unfold t2 b2
      rw [if_neg (by omega), if_pos (by omega), if_neg (by omega), if_pos (by omega)]
      refine ⟨rfl, ?_⟩
      rw [h4, h2, ← pRs_app]; rfl
  · refine r_loadA a202_11 rfl (by decide) ?_
    refine r_pushI a202_12 ?_
    refine r_callV_2 a202_14 (Nat.le_of_ble_eq_true rfl) (le_mx mx195 (Nat.le_of_ble_eq_true rfl)) (Or.inr (recv_ok ty121 ow195 (by decide))) (c_Mo_ranBody e z m 31 (by omega)) (fun m_14 h_14 => ?_)
    rw [h_14]
    refine r_loadA a202_17 rfl (by decide) ?_
    refine r_loadI a202_18 rfl ?_
    refine r_callI_2 a202_19 (Nat.le_of_ble_eq_true rfl) (le_mx mx201 (Nat.le_of_ble_eq_true rfl)) (Or.inr (recv_ok ty121 ow201 (by decide))) (c_Mo_plainTells e z (pR m 31) kd v g n (by omega) hkd (OwnR_1 hO 31) (by rw [p0]; omega)) (fun x_19 m_19 h_19 => ?_)
    obtain ⟨h1, h2⟩ := h_19
    rw [h1]
    refine r_pushI a202_22 ?_
    refine r_xor a202_24 ?_
    refine r_retIq a202_25 ?_
    unfold t2 b2
    rw [if_pos (by omega), if_pos (by omega)]; exact ⟨rfl, h2⟩
theorem c_Mo_act (d z : Nat) (m : XM) (g w n : Int) (hd : 20 ≤ d) (h0 : okS (m 122)) : CI d k_Mo_act z m [vR 121, vI g, vI w, vI n] (fun x m' => (¬ (gt (m 122) g ∧ 0 ≤ w ∧ w ≤ 2) ∧ x = 0 ∧ m' = up2 m 121 43 0) ∨ ((gt (m 122) g ∧ 0 ≤ w ∧ w ≤ 2) ∧ x = actV (m 122 (8 + g)) g (m 122 (15 + g)) w n ∧ m' = pRs (up2 (up2 (up2 (up2 m 121 43 0) 121 44 (m 122 (8 + g))) 121 45 g) 121 46 (m 122 (15 + g))) (actB (m 122 (8 + g)) w))) := by
  obtain ⟨e, rfl⟩ : ∃ e, d = e + 1 := ⟨d - 1, by omega⟩
  have hN := h0.1.1
  have ea : up2 m 121 43 0 122 = m 122 := up2_c (by decide)
  have acts : gt (m 122) g → OwnR (up2 (up2 (up2 (up2 m 121 43 0) 121 44 (m 122 (8 + g))) 121 45 g) 121 46 (m 122 (15 + g))) (m 122 (8 + g)) (m 122 (15 + g)) g ∧ up2 (up2 (up2 (up2 m 121 43 0) 121 44 (m 122 (8 + g))) 121 45 g) 121 46 (m 122 (15 + g)) 121 43 = 0 ∧ (0 ≤ m 122 (8 + g) ∧ m 122 (8 + g) ≤ 6) := fun hg =>
    ⟨⟨by rw [up2_k (by decide), up2_k (by decide), up2_s], by rw [up2_s], by rw [up2_k (by decide), up2_s]⟩, by rw [up2_k (by decide), up2_k (by decide), up2_k (by decide), up2_s], (h0.2.1 g hg.1 (by have := hg.2; omega)).1⟩
  refine r_entry mx203 rfl ?_
  refine r_loadA a203_0 rfl (by decide) ?_
  refine r_pushI a203_1 ?_
  refine r_putI (ki := 43) a203_2 ty121 rfl ?_
  refine r_loadA a203_5 rfl (by decide) ?_
  refine r_loadI a203_6 rfl ?_
  refine r_callI_2 a203_7 (Nat.le_of_ble_eq_true rfl) (le_mx mx121 (Nat.le_of_ble_eq_true rfl)) (Or.inr (recv_ok ty121 ow121 (by decide))) (c_Mo_isGate e z (up2 m 121 43 0) g (by omega) (by rw [ea]; exact h0)) (fun x_7 m_7 h_7 => ?_)
  obtain ⟨hm_7, h_7⟩ := h_7
  rw [hm_7]
  rw [ea] at h_7
  refine r_ifeq a203_10 (fun h_10 => ?_) (fun h_10 => ?_)
  · refine r_pushI a203_22 ?_
    refine r_retIq a203_23 ?_
    refine Or.inl ⟨?_, rfl, rfl⟩
    rintro ⟨a, b⟩
    omega
  · refine r_loadI a203_13 rfl ?_
    refine r_pushI a203_14 ?_
    refine r_pushI a203_15 ?_
    refine r_callI_3 a203_16 (Nat.le_of_ble_eq_true rfl) (le_mx mx119 (Nat.le_of_ble_eq_true rfl)) (Or.inl rfl) (c_Mo_in e z (up2 m 121 43 0) w 0 2) (fun x_16 m_16 h_16 => ?_)
    obtain ⟨hm_16, h_16⟩ := h_16
    rw [hm_16]
    refine r_ifne a203_19 (fun h_19 => ?_) (fun h_19 => ?_)
    · have hg : gt (m 122) g := by
        show 0 ≤ g ∧ g < m 122 0
        omega
      have hg2 := hg.1
      have hg3 := hg.2
      have hw : 0 ≤ w ∧ w ≤ 2 := by omega
      obtain ⟨a1, a2, a3⟩ := acts hg
      refine r_loadA a203_24 rfl (by decide) ?_
      refine r_loadA a203_25 rfl (by decide) ?_
      refine r_getR a203_26 ty121 rf121_1 (by decide) ?_
      refine r_pushI a203_29 ?_
      refine r_loadI a203_31 rfl ?_
      refine r_add a203_32 (by omega) ?_
      refine r_iald a203_33 ty122 (by omega) ?_
      rw [ea]
      refine r_putI (ki := 44) a203_34 ty121 rfl ?_
      refine r_loadA a203_37 rfl (by decide) ?_
      refine r_loadI a203_38 rfl ?_
      refine r_putI (ki := 45) a203_39 ty121 rfl ?_
      refine r_loadA a203_42 rfl (by decide) ?_
      refine r_loadA a203_43 rfl (by decide) ?_
      refine r_getR a203_44 ty121 rf121_1 (by decide) ?_
      refine r_pushI a203_47 ?_
      refine r_loadI a203_49 rfl ?_
      refine r_add a203_50 (by omega) ?_
      refine r_iald a203_51 ty122 (by omega) ?_
      rw [up2_c (by decide), up2_c (by decide), ea]
      refine r_putI (ki := 46) a203_52 ty121 rfl ?_
      refine r_loadI a203_55 rfl ?_
      refine r_ifne a203_56 (fun h_56 => ?_) (fun h_56 => ?_)
      · refine r_loadI a203_67 rfl ?_
        refine r_pushI a203_68 ?_
        refine r_icne a203_69 (fun h_69 => ?_) (fun h_69 => ?_)
        · refine r_loadA a203_80 rfl (by decide) ?_
          refine r_loadI a203_81 rfl ?_
          refine r_callI_2 a203_82 (Nat.le_of_ble_eq_true rfl) (le_mx mx202 (Nat.le_of_ble_eq_true rfl)) (Or.inr (recv_ok ty121 ow202 (by decide))) (c_Mo_tellsActs e z _ (m 122 (8 + g)) (m 122 (15 + g)) g n (by omega) a3 a1 (by rw [a2]; omega)) (fun x_82 m_82 h_82 => ?_)
          refine r_retIq a203_85 ?_
          refine Or.inr ⟨⟨hg, hw⟩, ?_⟩
          unfold actV actB
          first
            | (rw [if_pos (by omega), if_pos (by omega)]; exact h_61)
            | (rw [if_neg (by omega), if_pos (by omega), if_neg (by omega), if_pos (by omega)]; exact h_74)
            | (rw [if_neg (by omega), if_neg (by omega), if_neg (by omega), if_neg (by omega)]; exact h_82)
        · refine r_loadA a203_72 rfl (by decide) ?_
          refine r_loadI a203_73 rfl ?_
          refine r_callI_2 a203_74 (Nat.le_of_ble_eq_true rfl) (le_mx mx200 (Nat.le_of_ble_eq_true rfl)) (Or.inr (recv_ok ty121 ow200 (by decide))) (c_Mo_slidesActs e z _ (m 122 (8 + g)) (m 122 (15 + g)) g n (by omega) a3 a1 (by rw [a2]; omega)) (fun x_74 m_74 h_74 => ?_)
          refine r_goto a203_77 ?_
          refine r_retIq a203_85 ?_
          refine Or.inr ⟨⟨hg, hw⟩, ?_⟩
          unfold actV actB
          first
            | (rw [if_pos (by omega), if_pos (by omega)]; exact h_61)
            | (rw [if_neg (by omega), if_pos (by omega), if_neg (by omega), if_pos (by omega)]; exact h_74)
            | (rw [if_neg (by omega), if_neg (by omega), if_neg (by omega), if_neg (by omega)]; exact h_82)
      · refine r_loadA a203_59 rfl (by decide) ?_
        refine r_loadI a203_60 rfl ?_
        refine r_callI_2 a203_61 (Nat.le_of_ble_eq_true rfl) (le_mx mx198 (Nat.le_of_ble_eq_true rfl)) (Or.inr (recv_ok ty121 ow198 (by decide))) (c_Mo_turnsActs e z _ (m 122 (8 + g)) (m 122 (15 + g)) g n (by omega) a3 a1 (by rw [a2]; omega)) (fun x_61 m_61 h_61 => ?_)
        refine r_goto a203_64 ?_
        refine r_retIq a203_85 ?_
        refine Or.inr ⟨⟨hg, hw⟩, ?_⟩
        unfold actV actB
        first
          | (rw [if_pos (by omega), if_pos (by omega)]; exact h_61)
          | (rw [if_neg (by omega), if_pos (by omega), if_neg (by omega), if_pos (by omega)]; exact h_74)
          | (rw [if_neg (by omega), if_neg (by omega), if_neg (by omega), if_neg (by omega)]; exact h_82)
    · refine r_pushI a203_22 ?_
      refine r_retIq a203_23 ?_
      refine Or.inl ⟨?_, rfl, rfl⟩
      rintro ⟨a, b⟩
      omega
theorem actB_len (kd w : Int) : (actB kd w).length ≤ 8 := by
  have := b_len kd
  unfold actB; (repeat' split) <;> omega
theorem J_act (d z : Nat) (m : XM) (g w n : Int) (hd : 25 ≤ d) (hC : Cpl m) : JI d z k_Fg_act k_Mo_act m [vR 32, vI g, vI w, vI n] [vR 121, vI g, vI w, vI n] := by
  have hC' := hC
  obtain ⟨s, cl, h1, h2, h3, h4⟩ := hC'
  refine (c_Fg_act d z m s cl g w n (by omega) h1).imp fun x m1 hx => ?_
  have f1 : ∀ x, x ≠ 118 → x ≠ 119 → m1 x = m x := fun x a b => by
    rcases hx with ⟨_, _, q⟩ | ⟨_, _, q⟩ <;> rw [q]
    · rw [up2_c a]
    · rw [pCs_c _ a b, up2_c a, up2_c a, up2_c a, up2_c a]
  have e122 : m1 122 = s := by rw [f1 122 (by decide) (by decide)]; exact h2.1
  refine (c_Mo_act d z m1 g w n (by omega) (by rw [e122]; exact h1.1)).imp fun y m2 hy => ?_
  rw [e122] at hy
  have f2 : ∀ x, x ≠ 118 → x ≠ 119 → x ≠ 121 → x ≠ 140 → m2 x = m x := fun x a b c d => by
    rcases hy with ⟨_, _, q⟩ | ⟨_, _, q⟩ <;> rw [q]
    · rw [up2_c c]; exact f1 x a b
    · rw [pRs_c _ c d, up2_c c, up2_c c, up2_c c, up2_c c]; exact f1 x a b
  have f121 : ∀ y, (y = 3 ∨ y = 16) → m2 121 y = m 121 y := fun y hy2 => by
    rcases hy with ⟨_, _, q⟩ | ⟨_, _, q⟩ <;> rw [q]
    · rw [up2_k (by omega), f1 121 (by decide) (by decide)]
    · rw [pRs_k _ (by omega), up2_k (by omega), up2_k (by omega), up2_k (by omega), up2_k (by omega), f1 121 (by decide) (by decide)]
  have act : ActOk m2 ∧ x = y := by
    rcases hx with ⟨p, q, r⟩ | ⟨p, q, r⟩ <;> rcases hy with ⟨u, v, ww⟩ | ⟨u, v, ww⟩
    · have a1 : m2 118 0 = 0 := by rw [ww, up2_c (by decide), r, up2_s]
      have a2 : m2 121 43 = 0 := by rw [ww, up2_s]
      exact ⟨⟨by rw [a1, a2], by omega, fun i i1 i2 i3 => by omega⟩, by rw [q, v]⟩
    · exact absurd u p
    · exact absurd p u
    · have hl := actB_len (s (8 + g)) w
      have a0 : m1 118 0 = (actB (s (8 + g)) w).length := by rw [r, pCs_0, up2_k (by decide), up2_k (by decide), up2_k (by decide), up2_s]; omega
      have a1 : m2 118 0 = (actB (s (8 + g)) w).length := by rw [ww, pRs_c _ (by decide) (by decide), up2_c (by decide), up2_c (by decide), up2_c (by decide), up2_c (by decide)]; exact a0
      have a2 : m2 121 43 = (actB (s (8 + g)) w).length := by rw [ww, pRs_0, up2_k (by decide), up2_k (by decide), up2_k (by decide), up2_s]; omega
      have a3 : m2 119 = m1 119 := by rw [ww, pRs_c _ (by decide) (by decide), up2_c (by decide), up2_c (by decide), up2_c (by decide), up2_c (by decide)]
      refine ⟨⟨by rw [a1, a2], by omega, fun i i1 i2 i3 => ?_⟩, by rw [q, v]⟩
      rw [a3, r, ww]
      exact p_same (actB (s (8 + g)) w) _ _ (by rw [up2_k (by decide), up2_k (by decide), up2_k (by decide), up2_s, up2_k (by decide), up2_k (by decide), up2_k (by decide), up2_s]) (fun j j1 j2 => by rw [up2_k (by decide), up2_k (by decide), up2_k (by decide), up2_s] at j2; omega) i i1 (by rw [← r, a0]; omega)
  refine ⟨act.2, ⟨s, cl, ⟨h1.1, RepB_cong (fun x a b _ => f2 x (by omega) (by omega) (by omega) (by omega)) h1.2.1, ClB_cong (fun x a b => f2 x (by omega) (by omega) (by omega) (by omega)) h1.2.2.1, by rw [f2 90 (by decide) (by decide) (by decide) (by decide)]; exact h1.2.2.2.1, by rw [f2 103 (by decide) (by decide) (by decide) (by decide)]; exact h1.2.2.2.2⟩, ⟨by rw [f2 122 (by decide) (by decide) (by decide) (by decide)]; exact h2.1, h2.2.1, h2.2.2.1, by rw [f121 16 (by omega)]; exact h2.2.2.2⟩,
    ImgOk_c (by rw [f2 32 (by decide) (by decide) (by decide) (by decide)]) (f121 3 (by omega)) (f2 123 (by decide) (by decide) (by decide) (by decide)) (fun x a b => f2 x (by omega) (by omega) (by omega) (by omega)) h3, act.1⟩, f2 1 (by decide) (by decide) (by decide) (by decide)⟩
