-- ===== the reference: it begins, it looks for lines =====
theorem lCmp_le {a b : Int} : (lCmp a b ≤ 0 ↔ a ≤ b) ∧ (lCmp a b < 0 ↔ a < b) ∧ (lCmp a b = 0 ↔ a = b) ∧ (lCmp a b > 0 ↔ b < a) := by
  unfold lCmp; (repeat' split) <;> omega
theorem c_Mo_runsAre (d z : Nat) (m : XM) (n : Int) :
    CV d k_Mo_runsAre z m [vR 121, vI n] (fun m' => (∀ x, x ≠ 121 → x ≠ 129 → m' x = m x) ∧ (∀ y, y ≠ 15 → m' 121 y = m 121 y) ∧ m' 121 15 = n ∧ ∀ j, 0 ≤ j → j < 210 → m' 129 j = -1) := by
  have loop : ∀ (c : Nat) (i : Int) (m1 : XM), 210 < i + c → 0 ≤ i → i ≤ 210 → (∀ x, x ≠ 121 → x ≠ 129 → m1 x = m x) → (∀ y, y ≠ 15 → m1 121 y = m 121 y) → m1 121 15 = n → (∀ j, 0 ≤ j → j < i → m1 129 j = -1) →
      RZ d k_Mo_runsAre 7 [vR 121, vI n, vI i] [] (zH z m1) (qz z (qv fun m' => (∀ x, x ≠ 121 → x ≠ 129 → m' x = m x) ∧ (∀ y, y ≠ 15 → m' 121 y = m 121 y) ∧ m' 121 15 = n ∧ ∀ j, 0 ≤ j → j < 210 → m' 129 j = -1)) := by
    intro c
    induction c with
    | zero => intro i m1 q1 q2 q3; exfalso; omega
    | succ c ih =>
      intro i m1 q1 q2 q3 f1 f2 f3 f4
      refine r_loadI a147_7 rfl ?_
      refine r_pushI a147_8 ?_
      refine r_icge a147_11 (fun h_11 => ?_) (fun h_11 => ?_)
      · refine r_retVq a147_27 ?_
        exact ⟨f1, f2, f3, fun j a b => f4 j a (by omega)⟩
      · refine r_loadA a147_14 rfl (by decide) ?_
        refine r_getR a147_15 ty121 rf121_19 (by decide) ?_
        refine r_loadI a147_18 rfl ?_
        refine r_pushI a147_19 ?_
        refine r_iast a147_20 ty129 (by omega) ?_
        refine r_iinc_2 a147_21 rfl (by omega) ?_
        refine r_goto a147_24 ?_
        refine ih (i + 1) _ (by omega) (by omega) (by omega) (fun x x1 x2 => by rw [up2_c x2]; exact f1 x x1 x2) (fun y y1 => by rw [up2_c (by decide)]; exact f2 y y1) (by rw [up2_c (by decide)]; exact f3) (fun j a b => ?_)
        by_cases q : j = i
        · rw [q, up2_s]
        · rw [up2_k q]; exact f4 j a (by omega)
  refine r_entry mx147 rfl ?_
  refine r_loadA a147_0 rfl (by decide) ?_
  refine r_loadI a147_1 rfl ?_
  refine r_putI (ki := 15) a147_2 ty121 rfl ?_
  refine r_pushI a147_5 ?_
  refine r_storeI_2 a147_6 rfl ?_
  exact loop 211 0 _ (by omega) (by omega) (by omega) (fun x x1 x2 => up2_c x1) (fun y y1 => up2_k y1) (up2_s _ _ _ _) (fun j a b => by omega)
theorem MemoP_new {m : XM} {s : Int → Int} {cl : CLs} {k n w : Int} {od : Int → Int} (h : ∀ j, 0 ≤ j → j < 210 → m 129 j = -1) : MemoP m s cl k n w od :=
  fun i p c i1 i2 p1 p2 c1 c2 => Or.inl (h _ (by omega) (by omega))
theorem c_Mo_begins (d z : Nat) (m : XM) (k n : Int) (hd : 1 ≤ d) :
    CV d k_Mo_begins z m [vR 121, vI k, vI n] (fun m' => (∀ x, x ≠ 121 → x ≠ 127 → x ≠ 129 → m' x = m x) ∧ (∀ y, y ≠ 14 → y ≠ 15 → m' 121 y = m 121 y) ∧ m' 121 14 = k ∧ m' 121 15 = n ∧ (∀ j, 0 ≤ j → j < 700 → m' 127 j = -1) ∧ ∀ j, 0 ≤ j → j < 210 → m' 129 j = -1) := by
  obtain ⟨e, rfl⟩ : ∃ e, d = e + 1 := ⟨d - 1, by omega⟩
  have loop : ∀ (c : Nat) (i : Int) (m1 : XM), 700 < i + c → 0 ≤ i → i ≤ 700 → (∀ x, x ≠ 121 → x ≠ 127 → x ≠ 129 → m1 x = m x) → (∀ y, y ≠ 14 → y ≠ 15 → m1 121 y = m 121 y) → m1 121 14 = k → m1 121 15 = n → (∀ j, 0 ≤ j → j < i → m1 127 j = -1) → (∀ j, 0 ≤ j → j < 210 → m1 129 j = -1) →
      RZ (e + 1) k_Mo_begins 12 [vR 121, vI k, vI n, vI i] [] (zH z m1) (qz z (qv fun m' => (∀ x, x ≠ 121 → x ≠ 127 → x ≠ 129 → m' x = m x) ∧ (∀ y, y ≠ 14 → y ≠ 15 → m' 121 y = m 121 y) ∧ m' 121 14 = k ∧ m' 121 15 = n ∧ (∀ j, 0 ≤ j → j < 700 → m' 127 j = -1) ∧ ∀ j, 0 ≤ j → j < 210 → m' 129 j = -1)) := by
    intro c
    induction c with
    | zero => intro i m1 q1 q2 q3; exfalso; omega
    | succ c ih =>
      intro i m1 q1 q2 q3 f1 f2 f3 f4 f5 f6
      refine r_loadI a148_12 rfl ?_
      refine r_pushI a148_13 ?_
      refine r_icge a148_16 (fun h_16 => ?_) (fun h_16 => ?_)
      · refine r_retVq a148_32 ?_
        exact ⟨f1, f2, f3, f4, fun j a b => f5 j a (by omega), f6⟩
      · refine r_loadA a148_19 rfl (by decide) ?_
        refine r_getR a148_20 ty121 rf121_17 (by decide) ?_
        refine r_loadI a148_23 rfl ?_
        refine r_pushI a148_24 ?_
        refine r_iast a148_25 ty127 (by omega) ?_
        refine r_iinc_3 a148_26 rfl (by omega) ?_
        refine r_goto a148_29 ?_
        refine ih (i + 1) _ (by omega) (by omega) (by omega) (fun x x1 x2 x3 => by rw [up2_c x2]; exact f1 x x1 x2 x3) (fun y y1 y2 => by rw [up2_c (by decide)]; exact f2 y y1 y2) (by rw [up2_c (by decide)]; exact f3) (by rw [up2_c (by decide)]; exact f4) (fun j a b => ?_) (fun j a b => by rw [up2_c (by decide)]; exact f6 j a b)
        by_cases q : j = i
        · rw [q, up2_s]
        · rw [up2_k q]; exact f5 j a (by omega)
  refine r_entry mx148 rfl ?_
  refine r_loadA a148_0 rfl (by decide) ?_
  refine r_loadI a148_1 rfl ?_
  refine r_putI (ki := 14) a148_2 ty121 rfl ?_
  refine r_loadA a148_5 rfl (by decide) ?_
  refine r_loadI a148_6 rfl ?_
  refine r_callV_2 a148_7 (Nat.le_of_ble_eq_true rfl) (le_mx mx147 (Nat.le_of_ble_eq_true rfl)) (Or.inr (recv_ok ty121 ow147 (by decide))) (c_Mo_runsAre e z _ n) (fun m_7 h_7 => ?_)
  refine r_pushI a148_10 ?_
  refine r_storeI_3 a148_11 rfl ?_
  obtain ⟨g1, g2, g3, g4⟩ := h_7
  exact loop 701 0 _ (by omega) (by omega) (by omega) (fun x x1 x2 x3 => by rw [g1 x x1 x3, up2_c x1]) (fun y y1 y2 => by rw [g2 y y2, up2_k y1]) (by rw [g2 14 (by decide), up2_s]) g3 (fun j a b => by omega) g4
theorem c_Mo_asTheyStand (d z : Nat) (m : XM) :
    CV d k_Mo_asTheyStand z m [vR 121] (fun m' => (∀ x, x ≠ 126 → m' x = m x) ∧ ∀ j, 0 ≤ j → j < 7 → m' 126 j = j) := by
  have loop : ∀ (c : Nat) (i : Int) (m1 : XM), 7 < i + c → 0 ≤ i → i ≤ 7 → (∀ x, x ≠ 126 → m1 x = m x) → (∀ j, 0 ≤ j → j < i → m1 126 j = j) →
      RZ d k_Mo_asTheyStand 2 [vR 121, vI i] [] (zH z m1) (qz z (qv fun m' => (∀ x, x ≠ 126 → m' x = m x) ∧ ∀ j, 0 ≤ j → j < 7 → m' 126 j = j)) := by
    intro c
    induction c with
    | zero => intro i m1 q1 q2 q3; exfalso; omega
    | succ c ih =>
      intro i m1 q1 q2 q3 f1 f4
      refine r_loadI a149_2 rfl ?_
      refine r_pushI a149_3 ?_
      refine r_icge a149_5 (fun h_5 => ?_) (fun h_5 => ?_)
      · refine r_retVq a149_21 ?_
        exact ⟨f1, fun j a b => f4 j a (by omega)⟩
      · refine r_loadA a149_8 rfl (by decide) ?_
        refine r_getR a149_9 ty121 rf121_13 (by decide) ?_
        refine r_loadI a149_12 rfl ?_
        refine r_loadI a149_13 rfl ?_
        refine r_iast a149_14 ty126 (by omega) ?_
        refine r_iinc_1 a149_15 rfl (by omega) ?_
        refine r_goto a149_18 ?_
        refine ih (i + 1) _ (by omega) (by omega) (by omega) (fun x x2 => by rw [up2_c x2]; exact f1 x x2) (fun j a b => ?_)
        by_cases q : j = i
        · rw [q, up2_s]
        · rw [up2_k q]; exact f4 j a (by omega)
  refine r_entry mx149 rfl ?_
  refine r_pushI a149_0 ?_
  refine r_storeI_1 a149_1 rfl ?_
  exact loop 8 0 m (by omega) (by omega) (by omega) (fun _ _ => rfl) (fun j a b => by omega)
/-- what queries of the reference may change: its scratch -/
def KM (m m' : XM) : Prop :=
  (∀ x, x ≠ 121 → ¬ (124 ≤ x ∧ x ≤ 139) → m' x = m x) ∧ m' 121 3 = m 121 3 ∧ m' 121 4 = m 121 4 ∧ m' 121 16 = m 121 16 ∧ m' 121 43 = m 121 43
theorem KM.refl (m : XM) : KM m m := ⟨fun _ _ _ => rfl, rfl, rfl, rfl, rfl⟩
theorem KM.trans {a b c : XM} (h1 : KM a b) (h2 : KM b c) : KM a c := by
  obtain ⟨x1, x2, x3, x4, x5⟩ := h1
  obtain ⟨y1, y2, y3, y4, y5⟩ := h2
  exact ⟨fun x a b => (y1 x a b).trans (x1 x a b), y2.trans x2, y3.trans x3, y4.trans x4, y5.trans x5⟩
theorem KM_up {m m' : XM} (h : KM m m') {x : Nat} {y v : Int} (hx : (124 ≤ x ∧ x ≤ 139) ∨ (x = 121 ∧ y ≠ 3 ∧ y ≠ 4 ∧ y ≠ 16 ∧ y ≠ 43)) : KM m (up2 m' x y v) := by
  obtain ⟨x1, x2, x3, x4, x5⟩ := h
  have k : ∀ q : Int, (q = 3 ∨ q = 4 ∨ q = 16 ∨ q = 43) → up2 m' x y v 121 q = m' 121 q := by
    intro q hq
    by_cases h : x = 121
    · subst h; rw [up2_k (by omega)]
    · rw [up2_c (by omega)]
  refine ⟨fun u a b => by rw [up2_c (by omega)]; exact x1 u a b, ?_, ?_, ?_, ?_⟩
  · rw [k 3 (by omega)]; exact x2
  · rw [k 4 (by omega)]; exact x3
  · rw [k 16 (by omega)]; exact x4
  · rw [k 43 (by omega)]; exact x5
theorem KM_put {m m' m2 : XM} (h : KM m m') (h1 : ∀ x, x ≠ 121 → ¬ (124 ≤ x ∧ x ≤ 139) → m2 x = m' x) (h2 : ∀ y, (y = 3 ∨ y = 4 ∨ y = 16 ∨ y = 43) → m2 121 y = m' 121 y) : KM m m2 :=
  KM.trans h ⟨h1, h2 3 (by omega), h2 4 (by omega), h2 16 (by omega), h2 43 (by omega)⟩
theorem PsG_KM {m m' : XM} (h : PsG m m') : KM m m' :=
  ⟨fun x a b => h.1 x a (by omega) (by omega), h.2 3 (by decide) (by decide) (by decide) (by decide) (by decide), h.2 4 (by decide) (by decide) (by decide) (by decide) (by decide), h.2 16 (by decide) (by decide) (by decide) (by decide) (by decide), h.2 43 (by decide) (by decide) (by decide) (by decide) (by decide)⟩
/-- the order stands -/
def Stands (m : XM) (od : Int → Int) : Prop := ∀ i, 0 ≤ i → i < 7 → m 126 i = od i ∧ 0 ≤ od i ∧ od i < 7
theorem c_Mo_beginsQ (d z : Nat) (m : XM) (s : Int → Int) (cl : CLs) (k n w : Int) (od : Int → Int) (hd : 1 ≤ d) (hm : m 122 = s) (h16 : m 121 16 = 1 - w) (hst : Stands m od) :
    CV d k_Mo_begins z m [vR 121, vI k, vI n] (fun m' => KM m m' ∧ (∀ y, y ≠ 14 → y ≠ 15 → m' 121 y = m 121 y) ∧ m' 126 = m 126 ∧ m' 134 = m 134 ∧ m' 135 = m 135 ∧ m' 136 = m 136 ∧ RefQ m' s cl k n w od) := by
  refine (c_Mo_begins d z m k n hd).imp fun m' ⟨g1, g2, g3, g4, g5, g6⟩ => ?_
  have e126 : m' 126 = m 126 := g1 126 (by decide) (by decide) (by decide)
  refine ⟨⟨fun x a b => g1 x a (by omega) (by omega), g2 3 (by decide) (by decide), g2 4 (by decide) (by decide), g2 16 (by decide) (by decide), g2 43 (by decide) (by decide)⟩, g2, e126, g1 134 (by decide) (by decide) (by decide), g1 135 (by decide) (by decide) (by decide), g1 136 (by decide) (by decide) (by decide), ⟨?_, g3, g4, ?_, ?_⟩, ?_, MemoP_new g6⟩
  · rw [g1 122 (by decide) (by decide) (by decide)]; exact hm
  · rw [g2 16 (by decide) (by decide)]; exact h16
  · rw [e126]; exact hst
  · exact fun r i p r1 r2 i1 i2 p1 p2 => Or.inl (g5 _ (by omega) (by omega))
-- ===== searches =====
/-- a search's state stands in the rows -/
def StS (m : XM) (x : SS) : Prop := m 135 = sTr x ∧ m 136 = sBe x ∧ m 121 36 = sLt x ∧ m 121 37 = sMu x ∧ m 121 38 = sMa x
/-- times that are seen, as far as n of them -/
def seenS (s : Int → Int) : Nat → Int → Int → Bool
  | 0, _, _ => true
  | n + 1, i, t => seenS s n i t && (decide (s (69 + n) ≠ i) || decide (s (76 + n) = t))
theorem c_Mo_isAsSeen (d z : Nat) (m : XM) (i t : Int) (h0 : okS (m 122)) : CI d k_Mo_isAsSeen z m [vR 121, vI i, vI t] (fun x m' => m' = m ∧ x = bI (seenS (m 122) (m 122 3).toNat i t)) := by
  have h3 := h0.1.2.2.2.1
  have loop : ∀ (c j : Nat), (j : Int) + c = m 122 3 →
      RZ d k_Mo_isAsSeen 5 [vR 121, vI i, vI t, vI (bI (seenS (m 122) j i t)), vI (j : Int)] [] (zH z m) (qz z (qi fun x m' => m' = m ∧ x = bI (seenS (m 122) (m 122 3).toNat i t))) := by
    intro c
    induction c with
    | zero =>
      intro j hj
      have ej : (m 122 3).toNat = j := by omega
      refine r_loadI a162_5 rfl ?_
      refine r_loadA a162_7 rfl (by decide) ?_
      refine r_getR a162_8 ty121 rf121_1 (by decide) ?_
      refine r_pushI a162_11 ?_
      refine r_iald a162_12 ty122 (by omega) ?_
      refine r_icge a162_13 (fun h_13 => ?_) (fun h_13 => ?_)
      · refine r_loadI a162_60 rfl ?_
        refine r_retZq a162_61 (by cases (seenS (m 122) j i t) <;> first | exact Or.inl rfl | exact Or.inr rfl) ?_
        exact ⟨rfl, by rw [ej]⟩
      · exfalso
        omega
    | succ c ih =>
      intro j hj
      have fin : ∀ x, x = bI (seenS (m 122) (j + 1) i t) → RZ d k_Mo_isAsSeen 53 [vR 121, vI i, vI t, vI (bI (seenS (m 122) j i t)), vI (j : Int)] [vI x] (zH z m) (qz z (qi fun x m' => m' = m ∧ x = bI (seenS (m 122) (m 122 3).toNat i t))) := by
        intro x hx
        refine r_storeI_3 a162_53 rfl ?_
        refine r_iinc_4 a162_54 rfl (by omega) ?_
        refine r_goto a162_57 ?_
        rw [hx]
        exact ih (j + 1) (by push_cast; omega)
      have eS : seenS (m 122) (j + 1) i t = (seenS (m 122) j i t && (decide (m 122 (69 + j) ≠ i) || decide (m 122 (76 + j) = t))) := rfl
      have hz : ∀ q : Bool, (bI q = 0 → q = false) ∧ (bI q ≠ 0 → q = true) := by intro q; cases q <;> decide
      refine r_loadI a162_5 rfl ?_
      refine r_loadA a162_7 rfl (by decide) ?_
      refine r_getR a162_8 ty121 rf121_1 (by decide) ?_
      refine r_pushI a162_11 ?_
      refine r_iald a162_12 ty122 (by omega) ?_
      refine r_icge a162_13 (fun h_13 => ?_) (fun h_13 => ?_)
      · exfalso
        omega
      · refine r_loadI a162_16 rfl ?_
        refine r_ifeq a162_17 (fun h_17 => ?_) (fun h_17 => ?_)
        · refine r_pushI a162_52 ?_
          refine fin _ ?_
          rw [eS, (hz _).1 h_17, Bool.false_and]; rfl
        · refine r_loadA a162_20 rfl (by decide) ?_
          refine r_getR a162_21 ty121 rf121_1 (by decide) ?_
          refine r_pushI a162_24 ?_
          refine r_loadI a162_26 rfl ?_
          refine r_add a162_28 (by omega) ?_
          refine r_iald a162_29 ty122 (by omega) ?_
          refine r_loadI a162_30 rfl ?_
          refine r_icne a162_31 (fun h_31 => ?_) (fun h_31 => ?_)
          · refine r_pushI a162_48 ?_
            refine r_goto a162_49 ?_
            refine fin _ ?_
            rw [eS, (hz _).2 h_17, Bool.true_and]
            first
              | (rw [decide_eq_true (show m 122 (69 + (j : Int)) ≠ i from h_31), Bool.true_or]; rfl)
              | (rw [decide_eq_false (show ¬ (m 122 (69 + (j : Int)) ≠ i) by omega), decide_eq_true (show m 122 (76 + (j : Int)) = t by omega)]; rfl)
              | (rw [decide_eq_false (show ¬ (m 122 (69 + (j : Int)) ≠ i) by omega), decide_eq_false (show ¬ (m 122 (76 + (j : Int)) = t) by omega)]; rfl)
          · refine r_loadA a162_34 rfl (by decide) ?_
            refine r_getR a162_35 ty121 rf121_1 (by decide) ?_
            refine r_pushI a162_38 ?_
            refine r_loadI a162_40 rfl ?_
            refine r_add a162_42 (by omega) ?_
            refine r_iald a162_43 ty122 (by omega) ?_
            refine r_loadI a162_44 rfl ?_
            refine r_icne a162_45 (fun h_45 => ?_) (fun h_45 => ?_)
            · refine r_pushI a162_52 ?_
              refine fin _ ?_
              rw [eS, (hz _).2 h_17, Bool.true_and]
              first
                | (rw [decide_eq_true (show m 122 (69 + (j : Int)) ≠ i from h_31), Bool.true_or]; rfl)
                | (rw [decide_eq_false (show ¬ (m 122 (69 + (j : Int)) ≠ i) by omega), decide_eq_true (show m 122 (76 + (j : Int)) = t by omega)]; rfl)
                | (rw [decide_eq_false (show ¬ (m 122 (69 + (j : Int)) ≠ i) by omega), decide_eq_false (show ¬ (m 122 (76 + (j : Int)) = t) by omega)]; rfl)
            · refine r_pushI a162_48 ?_
              refine r_goto a162_49 ?_
              refine fin _ ?_
              rw [eS, (hz _).2 h_17, Bool.true_and]
              first
                | (rw [decide_eq_true (show m 122 (69 + (j : Int)) ≠ i from h_31), Bool.true_or]; rfl)
                | (rw [decide_eq_false (show ¬ (m 122 (69 + (j : Int)) ≠ i) by omega), decide_eq_true (show m 122 (76 + (j : Int)) = t by omega)]; rfl)
                | (rw [decide_eq_false (show ¬ (m 122 (69 + (j : Int)) ≠ i) by omega), decide_eq_false (show ¬ (m 122 (76 + (j : Int)) = t) by omega)]; rfl)
  refine r_entry mx162 rfl ?_
  refine r_pushI a162_0 ?_
  refine r_storeI_3 a162_1 rfl ?_
  refine r_pushI a162_2 ?_
  refine r_storeI_4 a162_3 rfl ?_
  exact loop (m 122 3).toNat 0 (by omega)
theorem c_Mo_takesLine (d z : Nat) (m : XM) (N : Int) (hN : 0 ≤ N ∧ N ≤ 7) (hm : m 122 0 = N) (hma : 0 ≤ m 121 38 ∧ m 121 38 ≤ 100000) :
    CV d k_Mo_takesLine z m [vR 121] (fun m' => m' = upC (up2 m 121 38 (m 121 38 + 1)) 136 (keepR N (m 135) (m 136))) := by
  have loop : ∀ (c : Nat) (i : Int), i + c = N → 0 ≤ i →
      RZ d k_Mo_takesLine 12 [vR 121, vI i] [] (zH z (upC (up2 m 121 38 (m 121 38 + 1)) 136 (keepR i (m 135) (m 136)))) (qz z (qv fun m' => m' = upC (up2 m 121 38 (m 121 38 + 1)) 136 (keepR N (m 135) (m 136)))) := by
    intro c
    induction c with
    | zero =>
      intro i hi h0
      obtain rfl : i = N := by omega
      refine r_loadI a160_12 rfl ?_
      refine r_loadA a160_13 rfl (by decide) ?_
      refine r_getR a160_14 ty121 rf121_1 (by decide) ?_
      refine r_pushI a160_17 ?_
      refine r_iald a160_18 ty122 (by omega) ?_
      rw [upC_n (by decide), up2_c (by decide), hm]
      refine r_icge a160_19 (fun h_19 => ?_) (fun h_19 => ?_)
      · refine r_retVq a160_40 ?_
        rfl
      · exfalso
        omega
    | succ c ih =>
      intro i hi h0
      refine r_loadI a160_12 rfl ?_
      refine r_loadA a160_13 rfl (by decide) ?_
      refine r_getR a160_14 ty121 rf121_1 (by decide) ?_
      refine r_pushI a160_17 ?_
      refine r_iald a160_18 ty122 (by omega) ?_
      rw [upC_n (by decide), up2_c (by decide), hm]
      refine r_icge a160_19 (fun h_19 => ?_) (fun h_19 => ?_)
      · exfalso
        omega
      · refine r_loadA a160_22 rfl (by decide) ?_
        refine r_getR a160_23 ty121 rf121_33 (by decide) ?_
        refine r_loadI a160_26 rfl ?_
        refine r_loadA a160_27 rfl (by decide) ?_
        refine r_getR a160_28 ty121 rf121_32 (by decide) ?_
        refine r_loadI a160_31 rfl ?_
        refine r_iald a160_32 ty135 (by omega) ?_
        rw [upC_n (by decide), up2_c (by decide)]
        refine r_iast a160_33 ty136 (by omega) ?_
        have e : up2 (upC (up2 m 121 38 (m 121 38 + 1)) 136 (keepR i (m 135) (m 136))) 136 i (m 135 i) = upC (up2 m 121 38 (m 121 38 + 1)) 136 (keepR (i + 1) (m 135) (m 136)) := by
          rw [up2_C, upC_s, upC_upC]
          congr 1
          funext k
          rw [upi_at]; unfold keepR
          by_cases q : k = i
          · rw [if_pos q, if_pos (by omega), q]
          · rw [if_neg q]
            by_cases q2 : 0 ≤ k ∧ k < i
            · rw [if_pos q2, if_pos (by omega)]
            · rw [if_neg q2, if_neg (by omega)]
        rw [e]
        refine r_iinc_1 a160_34 rfl (by omega) ?_
        refine r_goto a160_37 ?_
        exact ih (i + 1) (by omega) (by omega)
  refine r_entry mx160 rfl ?_
  refine r_loadA a160_0 rfl (by decide) ?_
  refine r_dup a160_1 rfl ?_
  refine r_getI (ki := 38) a160_2 ty121 rfl ?_
  refine r_pushI a160_5 ?_
  refine r_add a160_6 (by omega) ?_
  refine r_putI (ki := 38) a160_7 ty121 rfl ?_
  refine r_pushI a160_10 ?_
  refine r_storeI_1 a160_11 rfl ?_
  have e : zH z (up2 m 121 38 (m 121 38 + 1)) = zH z (upC (up2 m 121 38 (m 121 38 + 1)) 136 (keepR 0 (m 135) (m 136))) := by
    have : keepR 0 (m 135) (m 136) = (up2 m 121 38 (m 121 38 + 1)) 136 := by
      rw [up2_c (by decide)]; funext k; unfold keepR; rw [if_neg (by omega)]
    rw [this, upC_id]
  rw [e]
  exact loop N.toNat 0 (by omega) (by omega)
/-- what searches change -/
def LnF (m m' : XM) : Prop :=
  (∀ x, x ≠ 121 → ¬ (124 ≤ x ∧ x ≤ 125) → ¬ (127 ≤ x ∧ x ≤ 131) → x ≠ 135 → x ≠ 136 → m' x = m x) ∧ (∀ y, y ≠ 11 → y ≠ 12 → y ≠ 22 → y ≠ 23 → y ≠ 24 → y ≠ 36 → y ≠ 37 → y ≠ 38 → m' 121 y = m 121 y)
theorem LnF.trans {a b c : XM} (h1 : LnF a b) (h2 : LnF b c) : LnF a c :=
  ⟨fun x x1 x2 x3 x4 x5 => (h2.1 x x1 x2 x3 x4 x5).trans (h1.1 x x1 x2 x3 x4 x5), fun y a b c d e f g h => (h2.2 y a b c d e f g h).trans (h1.2 y a b c d e f g h)⟩
theorem LnF_KM {m m' : XM} (h : LnF m m') : KM m m' :=
  ⟨fun x a b => h.1 x a (by omega) (by omega) (by omega) (by omega), h.2 3 (by decide) (by decide) (by decide) (by decide) (by decide) (by decide) (by decide) (by decide), h.2 4 (by decide) (by decide) (by decide) (by decide) (by decide) (by decide) (by decide) (by decide), h.2 16 (by decide) (by decide) (by decide) (by decide) (by decide) (by decide) (by decide) (by decide), h.2 43 (by decide) (by decide) (by decide) (by decide) (by decide) (by decide) (by decide) (by decide)⟩
theorem c_Mo_ends (d z : Nat) (m : XM) (N a lim t u : Int) (x : SS) (hd : 1 ≤ d) (hN : 0 ≤ N ∧ N ≤ 7) (hm : m 122 0 = N) (hx : StS m x) (hma : 0 ≤ sMa x ∧ sMa x ≤ 100000) (ha : m 121 34 = a) (hl : m 121 35 = lim) :
    CV d k_Mo_ends z m [vR 121, vI t, vL u] (fun m' => (∀ y, y ≠ 121 → y ≠ 136 → m' y = m y) ∧ (∀ y, y ≠ 36 → y ≠ 37 → y ≠ 38 → m' 121 y = m 121 y) ∧ StS m' (sEnd N a lim t u x)) := by
  obtain ⟨e, rfl⟩ : ∃ e, d = e + 1 := ⟨d - 1, by omega⟩
  obtain ⟨x1, x2, x3, x4, x5⟩ := hx
  have hc := lCmp_le (a := u) (b := sMu x)
  have take : ∀ m1 : XM, m1 122 = m 122 → m1 121 38 = sMa x → CV e k_Mo_takesLine z m1 [vR 121] (fun m' => m' = upC (up2 m1 121 38 (m1 121 38 + 1)) 136 (keepR N (m1 135) (m1 136))) :=
    fun m1 h1 h2 => c_Mo_takesLine e z m1 N hN (by rw [h1]; exact hm) (by rw [h2]; exact hma)
  refine r_entry mx161 rfl ?_
  refine r_loadA a161_0 rfl (by decide) ?_
  refine r_getI (ki := 34) a161_1 ty121 rfl ?_
  refine r_pushI a161_4 ?_
  rw [ha]
  refine r_icne a161_5 (fun h_5 => ?_) (fun h_5 => ?_)
  · refine r_loadA a161_37 rfl (by decide) ?_
    refine r_getI (ki := 34) a161_38 ty121 rfl ?_
    rw [ha]
    refine r_pushI a161_41 ?_
    refine r_icne a161_42 (fun h_42 => ?_) (fun h_42 => ?_)
    · refine r_loadI a161_72 rfl ?_
      refine r_loadA a161_73 rfl (by decide) ?_
      refine r_getI (ki := 36) a161_74 ty121 rfl ?_
      rw [x3]
      refine r_icge a161_77 (fun h_77 => ?_) (fun h_77 => ?_)
      · refine r_retVq a161_89 ?_
        first
          | (rw [h_31]
             refine ⟨fun y y1 y2 => by rw [upC_n y2, up2_c y1, up2_c y1], fun y y1 y2 y3 => by rw [upC_n (by decide), up2_k y3, up2_k y2], ?_⟩
             unfold sEnd
             rw [if_pos (by omega), if_pos ⟨by omega, by omega⟩]
             refine ⟨?_, ?_, ?_, ?_, ?_⟩
             · rw [upC_n (by decide), up2_c (by decide), up2_c (by decide)]; exact x1
             · rw [upC_s, up2_c (by decide), up2_c (by decide), x1, x2]; rfl
             · rw [upC_n (by decide), up2_k (by decide), up2_k (by decide)]; exact x3
             · rw [upC_n (by decide), up2_k (by decide), up2_s]; rfl
             · rw [upC_n (by decide), up2_s, up2_k (by decide), x5]; rfl)
          | (rw [h_53]
             refine ⟨fun y y1 y2 => by rw [upC_n y2, up2_c y1], fun y y1 y2 y3 => by rw [upC_n (by decide), up2_k y3], ?_⟩
             unfold sEnd
             rw [if_neg (by omega), if_pos (by omega), if_pos (by omega)]
             refine ⟨?_, ?_, ?_, ?_, ?_⟩
             · rw [upC_n (by decide), up2_c (by decide)]; exact x1
             · rw [upC_s, x1, x2]; rfl
             · rw [upC_n (by decide), up2_k (by decide)]; exact x3
             · rw [upC_n (by decide), up2_k (by decide)]; exact x4
             · rw [upC_n (by decide), up2_s, x5]; rfl)
          | (rw [h_86]
             refine ⟨fun y y1 y2 => by rw [upC_n y2, up2_c y1, up2_c y1], fun y y1 y2 y3 => by rw [upC_n (by decide), up2_k y3, up2_k y1], ?_⟩
             unfold sEnd
             rw [if_neg (by omega), if_neg (by omega), if_pos (by omega)]
             refine ⟨?_, ?_, ?_, ?_, ?_⟩
             · rw [upC_n (by decide), up2_c (by decide), up2_c (by decide)]; exact x1
             · rw [upC_s, up2_c (by decide), up2_c (by decide), x1, x2]; rfl
             · rw [upC_n (by decide), up2_k (by decide), up2_s]; rfl
             · rw [upC_n (by decide), up2_k (by decide), up2_k (by decide)]; exact x4
             · rw [upC_n (by decide), up2_s, up2_k (by decide), x5]; rfl)
          | (refine ⟨fun y y1 y2 => by rw [up2_c y1], fun y y1 y2 y3 => by rw [up2_k y3], ?_⟩
             unfold sEnd
             rw [if_neg (by omega), if_pos (by omega), if_neg (by omega)]
             refine ⟨?_, ?_, ?_, ?_, ?_⟩
             · rw [up2_c (by decide)]; exact x1
             · rw [up2_c (by decide)]; exact x2
             · rw [up2_k (by decide)]; exact x3
             · rw [up2_k (by decide)]; exact x4
             · rw [up2_s]; rfl)
          | (refine ⟨fun y y1 y2 => rfl, fun y y1 y2 y3 => rfl, ?_⟩
             have es : sEnd N a lim t u x = x := by
               unfold sEnd
               first
                 | rw [if_pos (by omega), if_neg (by omega)]
                 | rw [if_neg (by omega), if_neg (by omega), if_neg (by omega)]
             rw [es]
             exact ⟨x1, x2, x3, x4, x5⟩)
      · refine r_loadA a161_80 rfl (by decide) ?_
        refine r_loadI a161_81 rfl ?_
        refine r_putI (ki := 36) a161_82 ty121 rfl ?_
        refine r_loadA a161_85 rfl (by decide) ?_
        refine r_callV_1 a161_86 (Nat.le_of_ble_eq_true rfl) (le_mx mx160 (Nat.le_of_ble_eq_true rfl)) (Or.inr (recv_ok ty121 ow160 (by decide))) (take _ (up2_c (by decide)) (by rw [up2_k (by decide)]; exact x5)) (fun m_86 h_86 => ?_)
        refine r_retVq a161_89 ?_
        first
          | (rw [h_31]
             refine ⟨fun y y1 y2 => by rw [upC_n y2, up2_c y1, up2_c y1], fun y y1 y2 y3 => by rw [upC_n (by decide), up2_k y3, up2_k y2], ?_⟩
             unfold sEnd
             rw [if_pos (by omega), if_pos ⟨by omega, by omega⟩]
             refine ⟨?_, ?_, ?_, ?_, ?_⟩
             · rw [upC_n (by decide), up2_c (by decide), up2_c (by decide)]; exact x1
             · rw [upC_s, up2_c (by decide), up2_c (by decide), x1, x2]; rfl
             · rw [upC_n (by decide), up2_k (by decide), up2_k (by decide)]; exact x3
             · rw [upC_n (by decide), up2_k (by decide), up2_s]; rfl
             · rw [upC_n (by decide), up2_s, up2_k (by decide), x5]; rfl)
          | (rw [h_53]
             refine ⟨fun y y1 y2 => by rw [upC_n y2, up2_c y1], fun y y1 y2 y3 => by rw [upC_n (by decide), up2_k y3], ?_⟩
             unfold sEnd
             rw [if_neg (by omega), if_pos (by omega), if_pos (by omega)]
             refine ⟨?_, ?_, ?_, ?_, ?_⟩
             · rw [upC_n (by decide), up2_c (by decide)]; exact x1
             · rw [upC_s, x1, x2]; rfl
             · rw [upC_n (by decide), up2_k (by decide)]; exact x3
             · rw [upC_n (by decide), up2_k (by decide)]; exact x4
             · rw [upC_n (by decide), up2_s, x5]; rfl)
          | (rw [h_86]
             refine ⟨fun y y1 y2 => by rw [upC_n y2, up2_c y1, up2_c y1], fun y y1 y2 y3 => by rw [upC_n (by decide), up2_k y3, up2_k y1], ?_⟩
             unfold sEnd
             rw [if_neg (by omega), if_neg (by omega), if_pos (by omega)]
             refine ⟨?_, ?_, ?_, ?_, ?_⟩
             · rw [upC_n (by decide), up2_c (by decide), up2_c (by decide)]; exact x1
             · rw [upC_s, up2_c (by decide), up2_c (by decide), x1, x2]; rfl
             · rw [upC_n (by decide), up2_k (by decide), up2_s]; rfl
             · rw [upC_n (by decide), up2_k (by decide), up2_k (by decide)]; exact x4
             · rw [upC_n (by decide), up2_s, up2_k (by decide), x5]; rfl)
          | (refine ⟨fun y y1 y2 => by rw [up2_c y1], fun y y1 y2 y3 => by rw [up2_k y3], ?_⟩
             unfold sEnd
             rw [if_neg (by omega), if_pos (by omega), if_neg (by omega)]
             refine ⟨?_, ?_, ?_, ?_, ?_⟩
             · rw [up2_c (by decide)]; exact x1
             · rw [up2_c (by decide)]; exact x2
             · rw [up2_k (by decide)]; exact x3
             · rw [up2_k (by decide)]; exact x4
             · rw [up2_s]; rfl)
          | (refine ⟨fun y y1 y2 => rfl, fun y y1 y2 y3 => rfl, ?_⟩
             have es : sEnd N a lim t u x = x := by
               unfold sEnd
               first
                 | rw [if_pos (by omega), if_neg (by omega)]
                 | rw [if_neg (by omega), if_neg (by omega), if_neg (by omega)]
             rw [es]
             exact ⟨x1, x2, x3, x4, x5⟩)
    · refine r_loadA a161_45 rfl (by decide) ?_
      refine r_getI (ki := 38) a161_46 ty121 rfl ?_
      rw [x5]
      refine r_ifne a161_49 (fun h_49 => ?_) (fun h_49 => ?_)
      · refine r_loadA a161_59 rfl (by decide) ?_
        refine r_dup a161_60 rfl ?_
        refine r_getI (ki := 38) a161_61 ty121 rfl ?_
        rw [x5]
        refine r_pushI a161_64 ?_
        refine r_add a161_65 (by omega) ?_
        refine r_putI (ki := 38) a161_66 ty121 rfl ?_
        refine r_goto a161_69 ?_
        refine r_retVq a161_89 ?_
        first
          | (rw [h_31]
             refine ⟨fun y y1 y2 => by rw [upC_n y2, up2_c y1, up2_c y1], fun y y1 y2 y3 => by rw [upC_n (by decide), up2_k y3, up2_k y2], ?_⟩
             unfold sEnd
             rw [if_pos (by omega), if_pos ⟨by omega, by omega⟩]
             refine ⟨?_, ?_, ?_, ?_, ?_⟩
             · rw [upC_n (by decide), up2_c (by decide), up2_c (by decide)]; exact x1
             · rw [upC_s, up2_c (by decide), up2_c (by decide), x1, x2]; rfl
             · rw [upC_n (by decide), up2_k (by decide), up2_k (by decide)]; exact x3
             · rw [upC_n (by decide), up2_k (by decide), up2_s]; rfl
             · rw [upC_n (by decide), up2_s, up2_k (by decide), x5]; rfl)
          | (rw [h_53]
             refine ⟨fun y y1 y2 => by rw [upC_n y2, up2_c y1], fun y y1 y2 y3 => by rw [upC_n (by decide), up2_k y3], ?_⟩
             unfold sEnd
             rw [if_neg (by omega), if_pos (by omega), if_pos (by omega)]
             refine ⟨?_, ?_, ?_, ?_, ?_⟩
             · rw [upC_n (by decide), up2_c (by decide)]; exact x1
             · rw [upC_s, x1, x2]; rfl
             · rw [upC_n (by decide), up2_k (by decide)]; exact x3
             · rw [upC_n (by decide), up2_k (by decide)]; exact x4
             · rw [upC_n (by decide), up2_s, x5]; rfl)
          | (rw [h_86]
             refine ⟨fun y y1 y2 => by rw [upC_n y2, up2_c y1, up2_c y1], fun y y1 y2 y3 => by rw [upC_n (by decide), up2_k y3, up2_k y1], ?_⟩
             unfold sEnd
             rw [if_neg (by omega), if_neg (by omega), if_pos (by omega)]
             refine ⟨?_, ?_, ?_, ?_, ?_⟩
             · rw [upC_n (by decide), up2_c (by decide), up2_c (by decide)]; exact x1
             · rw [upC_s, up2_c (by decide), up2_c (by decide), x1, x2]; rfl
             · rw [upC_n (by decide), up2_k (by decide), up2_s]; rfl
             · rw [upC_n (by decide), up2_k (by decide), up2_k (by decide)]; exact x4
             · rw [upC_n (by decide), up2_s, up2_k (by decide), x5]; rfl)
          | (refine ⟨fun y y1 y2 => by rw [up2_c y1], fun y y1 y2 y3 => by rw [up2_k y3], ?_⟩
             unfold sEnd
             rw [if_neg (by omega), if_pos (by omega), if_neg (by omega)]
             refine ⟨?_, ?_, ?_, ?_, ?_⟩
             · rw [up2_c (by decide)]; exact x1
             · rw [up2_c (by decide)]; exact x2
             · rw [up2_k (by decide)]; exact x3
             · rw [up2_k (by decide)]; exact x4
             · rw [up2_s]; rfl)
          | (refine ⟨fun y y1 y2 => rfl, fun y y1 y2 y3 => rfl, ?_⟩
             have es : sEnd N a lim t u x = x := by
               unfold sEnd
               first
                 | rw [if_pos (by omega), if_neg (by omega)]
                 | rw [if_neg (by omega), if_neg (by omega), if_neg (by omega)]
             rw [es]
             exact ⟨x1, x2, x3, x4, x5⟩)
      · refine r_loadA a161_52 rfl (by decide) ?_
        refine r_callV_1 a161_53 (Nat.le_of_ble_eq_true rfl) (le_mx mx160 (Nat.le_of_ble_eq_true rfl)) (Or.inr (recv_ok ty121 ow160 (by decide))) (take _ rfl x5) (fun m_53 h_53 => ?_)
        refine r_goto a161_56 ?_
        refine r_retVq a161_89 ?_
        first
          | (rw [h_31]
             refine ⟨fun y y1 y2 => by rw [upC_n y2, up2_c y1, up2_c y1], fun y y1 y2 y3 => by rw [upC_n (by decide), up2_k y3, up2_k y2], ?_⟩
             unfold sEnd
             rw [if_pos (by omega), if_pos ⟨by omega, by omega⟩]
             refine ⟨?_, ?_, ?_, ?_, ?_⟩
             · rw [upC_n (by decide), up2_c (by decide), up2_c (by decide)]; exact x1
             · rw [upC_s, up2_c (by decide), up2_c (by decide), x1, x2]; rfl
             · rw [upC_n (by decide), up2_k (by decide), up2_k (by decide)]; exact x3
             · rw [upC_n (by decide), up2_k (by decide), up2_s]; rfl
             · rw [upC_n (by decide), up2_s, up2_k (by decide), x5]; rfl)
          | (rw [h_53]
             refine ⟨fun y y1 y2 => by rw [upC_n y2, up2_c y1], fun y y1 y2 y3 => by rw [upC_n (by decide), up2_k y3], ?_⟩
             unfold sEnd
             rw [if_neg (by omega), if_pos (by omega), if_pos (by omega)]
             refine ⟨?_, ?_, ?_, ?_, ?_⟩
             · rw [upC_n (by decide), up2_c (by decide)]; exact x1
             · rw [upC_s, x1, x2]; rfl
             · rw [upC_n (by decide), up2_k (by decide)]; exact x3
             · rw [upC_n (by decide), up2_k (by decide)]; exact x4
             · rw [upC_n (by decide), up2_s, x5]; rfl)
          | (rw [h_86]
             refine ⟨fun y y1 y2 => by rw [upC_n y2, up2_c y1, up2_c y1], fun y y1 y2 y3 => by rw [upC_n (by decide), up2_k y3, up2_k y1], ?_⟩
             unfold sEnd
             rw [if_neg (by omega), if_neg (by omega), if_pos (by omega)]
             refine ⟨?_, ?_, ?_, ?_, ?_⟩
             · rw [upC_n (by decide), up2_c (by decide), up2_c (by decide)]; exact x1
             · rw [upC_s, up2_c (by decide), up2_c (by decide), x1, x2]; rfl
             · rw [upC_n (by decide), up2_k (by decide), up2_s]; rfl
             · rw [upC_n (by decide), up2_k (by decide), up2_k (by decide)]; exact x4
             · rw [upC_n (by decide), up2_s, up2_k (by decide), x5]; rfl)
          | (refine ⟨fun y y1 y2 => by rw [up2_c y1], fun y y1 y2 y3 => by rw [up2_k y3], ?_⟩
             unfold sEnd
             rw [if_neg (by omega), if_pos (by omega), if_neg (by omega)]
             refine ⟨?_, ?_, ?_, ?_, ?_⟩
             · rw [up2_c (by decide)]; exact x1
             · rw [up2_c (by decide)]; exact x2
             · rw [up2_k (by decide)]; exact x3
             · rw [up2_k (by decide)]; exact x4
             · rw [up2_s]; rfl)
          | (refine ⟨fun y y1 y2 => rfl, fun y y1 y2 y3 => rfl, ?_⟩
             have es : sEnd N a lim t u x = x := by
               unfold sEnd
               first
                 | rw [if_pos (by omega), if_neg (by omega)]
                 | rw [if_neg (by omega), if_neg (by omega), if_neg (by omega)]
             rw [es]
             exact ⟨x1, x2, x3, x4, x5⟩)
  · refine r_loadI a161_8 rfl ?_
    refine r_loadA a161_9 rfl (by decide) ?_
    refine r_getI (ki := 35) a161_10 ty121 rfl ?_
    rw [hl]
    refine r_icgt a161_13 (fun h_13 => ?_) (fun h_13 => ?_)
    · refine r_retVq a161_89 ?_
      first
        | (rw [h_31]
           refine ⟨fun y y1 y2 => by rw [upC_n y2, up2_c y1, up2_c y1], fun y y1 y2 y3 => by rw [upC_n (by decide), up2_k y3, up2_k y2], ?_⟩
           unfold sEnd
           rw [if_pos (by omega), if_pos ⟨by omega, by omega⟩]
           refine ⟨?_, ?_, ?_, ?_, ?_⟩
           · rw [upC_n (by decide), up2_c (by decide), up2_c (by decide)]; exact x1
           · rw [upC_s, up2_c (by decide), up2_c (by decide), x1, x2]; rfl
           · rw [upC_n (by decide), up2_k (by decide), up2_k (by decide)]; exact x3
           · rw [upC_n (by decide), up2_k (by decide), up2_s]; rfl
           · rw [upC_n (by decide), up2_s, up2_k (by decide), x5]; rfl)
        | (rw [h_53]
           refine ⟨fun y y1 y2 => by rw [upC_n y2, up2_c y1], fun y y1 y2 y3 => by rw [upC_n (by decide), up2_k y3], ?_⟩
           unfold sEnd
           rw [if_neg (by omega), if_pos (by omega), if_pos (by omega)]
           refine ⟨?_, ?_, ?_, ?_, ?_⟩
           · rw [upC_n (by decide), up2_c (by decide)]; exact x1
           · rw [upC_s, x1, x2]; rfl
           · rw [upC_n (by decide), up2_k (by decide)]; exact x3
           · rw [upC_n (by decide), up2_k (by decide)]; exact x4
           · rw [upC_n (by decide), up2_s, x5]; rfl)
        | (rw [h_86]
           refine ⟨fun y y1 y2 => by rw [upC_n y2, up2_c y1, up2_c y1], fun y y1 y2 y3 => by rw [upC_n (by decide), up2_k y3, up2_k y1], ?_⟩
           unfold sEnd
           rw [if_neg (by omega), if_neg (by omega), if_pos (by omega)]
           refine ⟨?_, ?_, ?_, ?_, ?_⟩
           · rw [upC_n (by decide), up2_c (by decide), up2_c (by decide)]; exact x1
           · rw [upC_s, up2_c (by decide), up2_c (by decide), x1, x2]; rfl
           · rw [upC_n (by decide), up2_k (by decide), up2_s]; rfl
           · rw [upC_n (by decide), up2_k (by decide), up2_k (by decide)]; exact x4
           · rw [upC_n (by decide), up2_s, up2_k (by decide), x5]; rfl)
        | (refine ⟨fun y y1 y2 => by rw [up2_c y1], fun y y1 y2 y3 => by rw [up2_k y3], ?_⟩
           unfold sEnd
           rw [if_neg (by omega), if_pos (by omega), if_neg (by omega)]
           refine ⟨?_, ?_, ?_, ?_, ?_⟩
           · rw [up2_c (by decide)]; exact x1
           · rw [up2_c (by decide)]; exact x2
           · rw [up2_k (by decide)]; exact x3
           · rw [up2_k (by decide)]; exact x4
           · rw [up2_s]; rfl)
        | (refine ⟨fun y y1 y2 => rfl, fun y y1 y2 y3 => rfl, ?_⟩
           have es : sEnd N a lim t u x = x := by
             unfold sEnd
             first
               | rw [if_pos (by omega), if_neg (by omega)]
               | rw [if_neg (by omega), if_neg (by omega), if_neg (by omega)]
           rw [es]
           exact ⟨x1, x2, x3, x4, x5⟩)
    · refine r_loadL a161_16 rfl ?_
      refine r_loadA a161_17 rfl (by decide) ?_
      refine r_getL (ki := 37) a161_18 ty121 rfl ?_
      rw [x4]
      refine r_lcmp a161_21 ?_
      refine r_ifle a161_22 (fun h_22 => ?_) (fun h_22 => ?_)
      · refine r_retVq a161_89 ?_
        first
          | (rw [h_31]
             refine ⟨fun y y1 y2 => by rw [upC_n y2, up2_c y1, up2_c y1], fun y y1 y2 y3 => by rw [upC_n (by decide), up2_k y3, up2_k y2], ?_⟩
             unfold sEnd
             rw [if_pos (by omega), if_pos ⟨by omega, by omega⟩]
             refine ⟨?_, ?_, ?_, ?_, ?_⟩
             · rw [upC_n (by decide), up2_c (by decide), up2_c (by decide)]; exact x1
             · rw [upC_s, up2_c (by decide), up2_c (by decide), x1, x2]; rfl
             · rw [upC_n (by decide), up2_k (by decide), up2_k (by decide)]; exact x3
             · rw [upC_n (by decide), up2_k (by decide), up2_s]; rfl
             · rw [upC_n (by decide), up2_s, up2_k (by decide), x5]; rfl)
          | (rw [h_53]
             refine ⟨fun y y1 y2 => by rw [upC_n y2, up2_c y1], fun y y1 y2 y3 => by rw [upC_n (by decide), up2_k y3], ?_⟩
             unfold sEnd
             rw [if_neg (by omega), if_pos (by omega), if_pos (by omega)]
             refine ⟨?_, ?_, ?_, ?_, ?_⟩
             · rw [upC_n (by decide), up2_c (by decide)]; exact x1
             · rw [upC_s, x1, x2]; rfl
             · rw [upC_n (by decide), up2_k (by decide)]; exact x3
             · rw [upC_n (by decide), up2_k (by decide)]; exact x4
             · rw [upC_n (by decide), up2_s, x5]; rfl)
          | (rw [h_86]
             refine ⟨fun y y1 y2 => by rw [upC_n y2, up2_c y1, up2_c y1], fun y y1 y2 y3 => by rw [upC_n (by decide), up2_k y3, up2_k y1], ?_⟩
             unfold sEnd
             rw [if_neg (by omega), if_neg (by omega), if_pos (by omega)]
             refine ⟨?_, ?_, ?_, ?_, ?_⟩
             · rw [upC_n (by decide), up2_c (by decide), up2_c (by decide)]; exact x1
             · rw [upC_s, up2_c (by decide), up2_c (by decide), x1, x2]; rfl
             · rw [upC_n (by decide), up2_k (by decide), up2_s]; rfl
             · rw [upC_n (by decide), up2_k (by decide), up2_k (by decide)]; exact x4
             · rw [upC_n (by decide), up2_s, up2_k (by decide), x5]; rfl)
          | (refine ⟨fun y y1 y2 => by rw [up2_c y1], fun y y1 y2 y3 => by rw [up2_k y3], ?_⟩
             unfold sEnd
             rw [if_neg (by omega), if_pos (by omega), if_neg (by omega)]
             refine ⟨?_, ?_, ?_, ?_, ?_⟩
             · rw [up2_c (by decide)]; exact x1
             · rw [up2_c (by decide)]; exact x2
             · rw [up2_k (by decide)]; exact x3
             · rw [up2_k (by decide)]; exact x4
             · rw [up2_s]; rfl)
          | (refine ⟨fun y y1 y2 => rfl, fun y y1 y2 y3 => rfl, ?_⟩
             have es : sEnd N a lim t u x = x := by
               unfold sEnd
               first
                 | rw [if_pos (by omega), if_neg (by omega)]
                 | rw [if_neg (by omega), if_neg (by omega), if_neg (by omega)]
             rw [es]
             exact ⟨x1, x2, x3, x4, x5⟩)
      · refine r_loadA a161_25 rfl (by decide) ?_
        refine r_loadL a161_26 rfl ?_
        refine r_putL (ki := 37) a161_27 ty121 rfl ?_
        refine r_loadA a161_30 rfl (by decide) ?_
        refine r_callV_1 a161_31 (Nat.le_of_ble_eq_true rfl) (le_mx mx160 (Nat.le_of_ble_eq_true rfl)) (Or.inr (recv_ok ty121 ow160 (by decide))) (take _ (up2_c (by decide)) (by rw [up2_k (by decide)]; exact x5)) (fun m_31 h_31 => ?_)
        refine r_goto a161_34 ?_
        refine r_retVq a161_89 ?_
        first
          | (rw [h_31]
             refine ⟨fun y y1 y2 => by rw [upC_n y2, up2_c y1, up2_c y1], fun y y1 y2 y3 => by rw [upC_n (by decide), up2_k y3, up2_k y2], ?_⟩
             unfold sEnd
             rw [if_pos (by omega), if_pos ⟨by omega, by omega⟩]
             refine ⟨?_, ?_, ?_, ?_, ?_⟩
             · rw [upC_n (by decide), up2_c (by decide), up2_c (by decide)]; exact x1
             · rw [upC_s, up2_c (by decide), up2_c (by decide), x1, x2]; rfl
             · rw [upC_n (by decide), up2_k (by decide), up2_k (by decide)]; exact x3
             · rw [upC_n (by decide), up2_k (by decide), up2_s]; rfl
             · rw [upC_n (by decide), up2_s, up2_k (by decide), x5]; rfl)
          | (rw [h_53]
             refine ⟨fun y y1 y2 => by rw [upC_n y2, up2_c y1], fun y y1 y2 y3 => by rw [upC_n (by decide), up2_k y3], ?_⟩
             unfold sEnd
             rw [if_neg (by omega), if_pos (by omega), if_pos (by omega)]
             refine ⟨?_, ?_, ?_, ?_, ?_⟩
             · rw [upC_n (by decide), up2_c (by decide)]; exact x1
             · rw [upC_s, x1, x2]; rfl
             · rw [upC_n (by decide), up2_k (by decide)]; exact x3
             · rw [upC_n (by decide), up2_k (by decide)]; exact x4
             · rw [upC_n (by decide), up2_s, x5]; rfl)
          | (rw [h_86]
             refine ⟨fun y y1 y2 => by rw [upC_n y2, up2_c y1, up2_c y1], fun y y1 y2 y3 => by rw [upC_n (by decide), up2_k y3, up2_k y1], ?_⟩
             unfold sEnd
             rw [if_neg (by omega), if_neg (by omega), if_pos (by omega)]
             refine ⟨?_, ?_, ?_, ?_, ?_⟩
             · rw [upC_n (by decide), up2_c (by decide), up2_c (by decide)]; exact x1
             · rw [upC_s, up2_c (by decide), up2_c (by decide), x1, x2]; rfl
             · rw [upC_n (by decide), up2_k (by decide), up2_s]; rfl
             · rw [upC_n (by decide), up2_k (by decide), up2_k (by decide)]; exact x4
             · rw [upC_n (by decide), up2_s, up2_k (by decide), x5]; rfl)
          | (refine ⟨fun y y1 y2 => by rw [up2_c y1], fun y y1 y2 y3 => by rw [up2_k y3], ?_⟩
             unfold sEnd
             rw [if_neg (by omega), if_pos (by omega), if_neg (by omega)]
             refine ⟨?_, ?_, ?_, ?_, ?_⟩
             · rw [up2_c (by decide)]; exact x1
             · rw [up2_c (by decide)]; exact x2
             · rw [up2_k (by decide)]; exact x3
             · rw [up2_k (by decide)]; exact x4
             · rw [up2_s]; rfl)
          | (refine ⟨fun y y1 y2 => rfl, fun y y1 y2 y3 => rfl, ?_⟩
             have es : sEnd N a lim t u x = x := by
               unfold sEnd
               first
                 | rw [if_pos (by omega), if_neg (by omega)]
                 | rw [if_neg (by omega), if_neg (by omega), if_neg (by omega)]
             rw [es]
             exact ⟨x1, x2, x3, x4, x5⟩)
def p3 : Nat → Int
  | 0 => 1
  | n + 1 => 3 * p3 n
theorem p3_pos (n : Nat) : 1 ≤ p3 n := by
  induction n with
  | zero => exact Int.le_refl _
  | succ n ih => show 1 ≤ 3 * p3 n; omega
theorem sGo_ma (O T B : TF) (N a lim : Int) (seen : Int → Int → Prop) [∀ i t, Decidable (seen i t)] : ∀ (n : Nat) (i p time ups : Int) (x : SS),
    sMa x ≤ sMa (sGo O T B N a lim seen n i p time ups x) ∧ sMa (sGo O T B N a lim seen n i p time ups x) ≤ sMa x + p3 n := by
  intro n
  induction n with
  | zero =>
    intro i p time ups x
    show sMa x ≤ sMa (sEnd N a lim time ups x) ∧ sMa (sEnd N a lim time ups x) ≤ sMa x + 1
    have h1 : ∀ (f g : Int → Int) (q r : Int), sMa (f, g, q, r, sMa x + 1) = sMa x + 1 := fun _ _ _ _ => rfl
    unfold sEnd
    (repeat' split) <;> (first | rw [h1] | skip) <;> omega
  | succ n ih =>
    intro i p time ups x
    have br : ∀ (c : Int) (y : SS), sMa y ≤ sMa (sBr O T B N a lim seen n i p time ups c y) ∧ sMa (sBr O T B N a lim seen n i p time ups c y) ≤ sMa y + p3 n := by
      intro c y
      unfold sBr
      have := p3_pos n
      split
      · omega
      · exact ih (i + 1) (B i p c) (time + T i p c) (ups * (20 - O i p c)) (sTry i c y)
    rw [sGo_succ]
    have a0 := br 0 x
    have a1 := br 1 (sBr O T B N a lim seen n i p time ups 0 x)
    have a2 := br 2 (sBr O T B N a lim seen n i p time ups 1 (sBr O T B N a lim seen n i p time ups 0 x))
    have e : p3 (n + 1) = 3 * p3 n := rfl
    omega
/-- the tables by places -/
def rO (s : Int → Int) (cl : CLs) (k n : Int) (od : Int → Int) : TF := oF od (eO s cl k n)
def rT (s : Int → Int) (cl : CLs) (k n w : Int) (od : Int → Int) : TF := oF od (eT s cl k n w)
def rB (s : Int → Int) (cl : CLs) (k n : Int) (od : Int → Int) : TF := oF od (eB s cl k n)
abbrev seenP (s : Int → Int) (i t : Int) : Prop := seenS s (s 3).toNat i t = true
theorem rT_pos (s : Int → Int) (cl : CLs) (k n w : Int) (od : Int → Int) (i p c : Int) : 1 ≤ rT s cl k n w od i p c := by
  show 1 ≤ psT _ _ _ _ _ _
  unfold psT
  split <;> omega
theorem RefQ_cong {m m' : XM} {s : Int → Int} {cl : CLs} {k n w : Int} {od : Int → Int} (h1 : m' 122 = m 122) (h2 : m' 126 = m 126) (h7 : m' 127 = m 127) (h8 : m' 128 = m 128) (h9 : m' 129 = m 129) (h10 : m' 130 = m 130) (h11 : m' 131 = m 131)
    (h3 : m' 121 14 = m 121 14) (h4 : m' 121 15 = m 121 15) (h5 : m' 121 16 = m 121 16) (h : RefQ m s cl k n w od) : RefQ m' s cl k n w od := by
  refine ⟨RefA_cong h1 h2 h3 h4 h5 h.1, ?_, ?_⟩
  · unfold MemoI; rw [h7, h8]; exact h.2.1
  · unfold MemoP; rw [h9, h10, h11]; exact h.2.2
theorem c_Mo_linesFrom (s : Int → Int) (cl : CLs) (k n w : Int) (od : Int → Int) (a lim : Int) (hA : AskOk s cl k n w) (ha : a = 0 ∨ a = 1 ∨ a = 2 ∨ a = 3) :
    ∀ (nn : Nat) (d z : Nat) (m : XM) (i p time ups : Int) (x : SS), nn + 5 ≤ d → i + nn = s 0 → 0 ≤ i → (0 ≤ p ∧ p < 10) → (0 ≤ time ∧ time + 21000 * nn ≤ 150000) → (0 ≤ ups ∧ ups * p20 nn ≤ 1280000000) →
      m 121 34 = a → m 121 35 = lim → RefQ m s cl k n w od → StS m x → (0 ≤ sMa x ∧ sMa x + p3 nn ≤ 3000) →
      CV d k_Mo_linesFrom z m [vR 121, vI i, vI p, vI time, vL ups] (fun m' => LnF m m' ∧ RefQ m' s cl k n w od ∧ StS m' (sGo (rO s cl k n od) (rT s cl k n w od) (rB s cl k n od) (s 0) a lim (seenP s) nn i p time ups x)) := by
  have hN := hA.1.1.1
  intro nn
  induction nn with
  | zero =>
    intro d z m i p time ups x hd hi h0 hp ht hu h34 h35 hQ hx hma
    obtain ⟨dd, rfl⟩ : ∃ dd, d = dd + 1 := ⟨d - 1, by omega⟩
    have e122 : m 122 = s := hQ.1.1
    have p31 : p3 0 = 1 := rfl
    have hi2 : i = s 0 := by omega
    refine r_entry mx163 rfl ?_
    refine r_loadI a163_0 rfl ?_
    refine r_loadA a163_1 rfl (by decide) ?_
    refine r_getR a163_2 ty121 rf121_1 (by decide) ?_
    refine r_pushI a163_5 ?_
    refine r_iald a163_6 ty122 (by omega) ?_
    rw [e122]
    refine r_icne a163_7 (fun h_7 => ?_) (fun h_7 => ?_)
    · exfalso
      omega
    · refine r_loadA a163_10 rfl (by decide) ?_
      refine r_loadI a163_11 rfl ?_
      refine r_loadL a163_12 rfl ?_
      refine r_callV_3 a163_14 (Nat.le_of_ble_eq_true rfl) (le_mx mx161 (Nat.le_of_ble_eq_true rfl)) (Or.inr (recv_ok ty121 ow161 (by decide))) (c_Mo_ends dd z m (s 0) a lim time ups x (by omega) hN (by rw [e122]) hx (by omega) h34 h35) (fun m_14 h_14 => ?_)
      refine r_retVq a163_17 ?_
      obtain ⟨g1, g2, g3⟩ := h_14
      refine ⟨⟨fun y y1 y2 y3 y4 y5 => g1 y y1 y5, fun y y1 y2 y3 y4 y5 y6 y7 y8 => g2 y y6 y7 y8⟩, ?_, g3⟩
      exact RefQ_cong (g1 122 (by decide) (by decide)) (g1 126 (by decide) (by decide)) (g1 127 (by decide) (by decide)) (g1 128 (by decide) (by decide)) (g1 129 (by decide) (by decide)) (g1 130 (by decide) (by decide)) (g1 131 (by decide) (by decide)) (g2 14 (by decide) (by decide) (by decide)) (g2 15 (by decide) (by decide) (by decide)) (g2 16 (by decide) (by decide) (by decide)) hQ
  | succ nn ih =>
    intro d z m i p time ups x hd hi h0 hp ht hu h34 h35 hQ hx hma
    obtain ⟨dd, rfl⟩ : ∃ dd, d = dd + 1 := ⟨d - 1, by omega⟩
    have e122 : m 122 = s := hQ.1.1
    have p3s : p3 (nn + 1) = 3 * p3 nn := rfl
    have p3p := p3_pos nn
    have p20p := p20_pos nn
    have p20s : ups * p20 (nn + 1) = ups * 20 * p20 nn := by show ups * (20 * p20 nn) = _; rw [Int.mul_assoc]
    obtain ⟨hod1, hod2⟩ := (hQ.1.2.2.2.2 i h0 (by omega)).2
    push_cast at hi ht
    have hups20 : ups * 20 ≤ 1280000000 := by
      have := Int.mul_le_mul_of_nonneg_left p20p (show 0 ≤ ups * 20 by omega)
      omega
    let PO : SS → XM → Prop := fun x m' => LnF m m' ∧ RefQ m' s cl k n w od ∧ StS m' x
    have step : ∀ (c : Int) (x : SS) (m1 : XM) (Q : Option XV → XH → Prop), 0 ≤ c → c < 3 → PO x m1 → (0 ≤ sMa x ∧ sMa x + p3 nn ≤ 3000) →
        (∀ m2, PO (sBr (rO s cl k n od) (rT s cl k n w od) (rB s cl k n od) (s 0) a lim (seenP s) nn i p time ups c x) m2 →
          RZ (dd + 1) k_Mo_linesFrom 21 [vR 121, vI i, vI p, vI time, vL ups, vR 0, vI (c + 1)] [] (zH z m2) Q) →
        RZ (dd + 1) k_Mo_linesFrom 21 [vR 121, vI i, vI p, vI time, vL ups, vR 0, vI c] [] (zH z m1) Q := by
      intro c x m1 Q c1 c2 ⟨hF, hQ1, hx⟩ hma kk
      have e34 : m1 121 34 = a := by rw [hF.2 34 (by decide) (by decide) (by decide) (by decide) (by decide) (by decide) (by decide) (by decide)]; exact h34
      have e35 : m1 121 35 = lim := by rw [hF.2 35 (by decide) (by decide) (by decide) (by decide) (by decide) (by decide) (by decide) (by decide)]; exact h35
      have rOv := eO_r s cl k n (od i) p c
      have rTv := eT_r (w := w) (k := k) hA.1 hA.2.1.2.1 hA.2.1.2.2 ⟨hod1, hod2⟩ hA.2.2.2.1 hp ⟨c1, c2⟩
      have rBv := eB_r s cl k n (od i) p c
      have eo : rO s cl k n od i p c = eO s cl k n (od i) p c := rfl
      have et : rT s cl k n w od i p c = eT s cl k n w (od i) p c := rfl
      have eb : rB s cl k n od i p c = eB s cl k n (od i) p c := rfl
      have skip : ∀ m2, PsG m1 m2 → RefQ m2 s cl k n w od → ((a = 1 ∧ rO s cl k n od i p c ≠ 0) ∨ (a = 3 ∧ ¬ seenP s i (time + rT s cl k n w od i p c))) →
          RZ (dd + 1) k_Mo_linesFrom 108 [vR 121, vI i, vI p, vI time, vL ups, vR 0, vI c] [] (zH z m2) Q := by
        intro m2 g q hh
        refine r_iinc_6 a163_108 rfl (by omega) ?_
        refine r_goto a163_111 ?_
        refine kk m2 ⟨?_, q, ?_⟩
        · exact LnF.trans hF ⟨fun y y1 y2 y3 _ _ => g.1 y y1 y2 y3, fun y y1 y2 y3 y4 y5 _ _ _ => g.2 y y1 y2 y3 y4 y5⟩
        · have es : sBr (rO s cl k n od) (rT s cl k n w od) (rB s cl k n od) (s 0) a lim (seenP s) nn i p time ups c x = x := if_pos hh
          rw [es]
          obtain ⟨x1, x2, x3, x4, x5⟩ := hx
          refine ⟨?_, ?_, ?_, ?_, ?_⟩
          · rw [g.1 135 (by decide) (by decide) (by decide)]; exact x1
          · rw [g.1 136 (by decide) (by decide) (by decide)]; exact x2
          · rw [g.2 36 (by decide) (by decide) (by decide) (by decide) (by decide)]; exact x3
          · rw [g.2 37 (by decide) (by decide) (by decide) (by decide) (by decide)]; exact x4
          · rw [g.2 38 (by decide) (by decide) (by decide) (by decide) (by decide)]; exact x5
      have go : ∀ m2, PsG m1 m2 → RefQ m2 s cl k n w od → m2 121 22 = eO s cl k n (od i) p c → m2 121 23 = eT s cl k n w (od i) p c → m2 121 24 = eB s cl k n (od i) p c →
          ¬ ((a = 1 ∧ rO s cl k n od i p c ≠ 0) ∨ (a = 3 ∧ ¬ seenP s i (time + rT s cl k n w od i p c))) →
          RZ (dd + 1) k_Mo_linesFrom 72 [vR 121, vI i, vI p, vI time, vL ups, vR 0, vI c] [] (zH z m2) Q := by
        intro m2 g q h22 h23 h24 hh
        have hu2 : 0 ≤ ups * (20 - eO s cl k n (od i) p c) ∧ ups * (20 - eO s cl k n (od i) p c) ≤ 1280000000 := by
          have a1 := Int.mul_le_mul_of_nonneg_left (show 20 - eO s cl k n (od i) p c ≤ 20 by omega) hu.1
          exact ⟨Int.mul_nonneg hu.1 (by omega), by omega⟩
        have hu3 : ups * (20 - eO s cl k n (od i) p c) * p20 nn ≤ 1280000000 := by
          have a1 := Int.mul_le_mul_of_nonneg_left (show 20 - eO s cl k n (od i) p c ≤ 20 by omega) hu.1
          have a2 := Int.mul_le_mul_of_nonneg_right a1 (show 0 ≤ p20 nn by omega)
          omega
        obtain ⟨x1, x2, x3, x4, x5⟩ := hx
        refine r_loadA a163_72 rfl (by decide) ?_
        refine r_getR a163_73 ty121 rf121_32 (by decide) ?_
        refine r_loadI a163_76 rfl ?_
        refine r_loadI a163_77 rfl ?_
        refine r_iast a163_79 ty135 (by omega) ?_
        refine r_loadA a163_80 rfl (by decide) ?_
        refine r_loadI a163_81 rfl ?_
        refine r_pushI a163_82 ?_
        refine r_add a163_83 (by omega) ?_
        refine r_loadA a163_84 rfl (by decide) ?_
        refine r_getI (ki := 24) a163_85 ty121 rfl ?_
        rw [up2_c (by decide), h24]
        refine r_loadI a163_88 rfl ?_
        refine r_loadA a163_89 rfl (by decide) ?_
        refine r_getI (ki := 23) a163_90 ty121 rfl ?_
        rw [up2_c (by decide), h23]
        refine r_add a163_93 (by omega) ?_
        refine r_loadL a163_94 rfl ?_
        refine r_pushI a163_96 ?_
        refine r_loadA a163_98 rfl (by decide) ?_
        refine r_getI (ki := 22) a163_99 ty121 rfl ?_
        rw [up2_c (by decide), h22]
        refine r_sub a163_102 (by omega) ?_
        refine r_i2l a163_103 ?_
        refine r_lmul a163_104 (by omega) ?_
        refine r_callV_5 a163_105 (Nat.le_of_ble_eq_true rfl) (le_mx mx163 (Nat.le_of_ble_eq_true rfl)) (Or.inr (recv_ok ty121 ow163 (by decide))) (ih dd z (up2 m2 135 i c) (i + 1) (eB s cl k n (od i) p c) (time + eT s cl k n w (od i) p c) (ups * (20 - eO s cl k n (od i) p c)) (sTry i c x) (by omega) (by omega) (by omega) (by omega) (by omega) ⟨hu2.1, hu3⟩ (by rw [up2_c (by decide), g.2 34 (by decide) (by decide) (by decide) (by decide) (by decide)]; exact e34) (by rw [up2_c (by decide), g.2 35 (by decide) (by decide) (by decide) (by decide) (by decide)]; exact e35) (RefQ_cong (up2_c (by decide)) (up2_c (by decide)) (up2_c (by decide)) (up2_c (by decide)) (up2_c (by decide)) (up2_c (by decide)) (up2_c (by decide)) (by rw [up2_c (by decide)]) (by rw [up2_c (by decide)]) (by rw [up2_c (by decide)]) q) ⟨by rw [up2_C, upC_s, g.1 135 (by decide) (by decide) (by decide), x1]; rfl, by rw [up2_c (by decide), g.1 136 (by decide) (by decide) (by decide)]; exact x2, by rw [up2_c (by decide), g.2 36 (by decide) (by decide) (by decide) (by decide) (by decide)]; exact x3, by rw [up2_c (by decide), g.2 37 (by decide) (by decide) (by decide) (by decide) (by decide)]; exact x4, by rw [up2_c (by decide), g.2 38 (by decide) (by decide) (by decide) (by decide) (by decide)]; exact x5⟩ hma) (fun m_105 h_105 => ?_)
        obtain ⟨r1, r2, r3⟩ := h_105
        refine r_iinc_6 a163_108 rfl (by omega) ?_
        refine r_goto a163_111 ?_
        refine kk m_105 ⟨?_, r2, ?_⟩
        · refine LnF.trans hF (LnF.trans ?_ r1)
          exact ⟨fun y y1 y2 y3 y4 _ => by rw [up2_c y4]; exact g.1 y y1 y2 y3, fun y y1 y2 y3 y4 y5 _ _ _ => by rw [up2_c (by decide)]; exact g.2 y y1 y2 y3 y4 y5⟩
        · have es : sBr (rO s cl k n od) (rT s cl k n w od) (rB s cl k n od) (s 0) a lim (seenP s) nn i p time ups c x = sGo (rO s cl k n od) (rT s cl k n w od) (rB s cl k n od) (s 0) a lim (seenP s) nn (i + 1) (eB s cl k n (od i) p c) (time + eT s cl k n w (od i) p c) (ups * (20 - eO s cl k n (od i) p c)) (sTry i c x) := if_neg hh
          rw [es]; exact r3
      have e1221 : m1 122 = s := hQ1.1.1
      refine r_loadI a163_21 rfl ?_
      refine r_pushI a163_23 ?_
      refine r_icge a163_24 (fun h_24 => ?_) (fun h_24 => ?_)
      · exfalso
        omega
      · refine r_loadA a163_27 rfl (by decide) ?_
        refine r_loadI a163_28 rfl ?_
        refine r_loadI a163_29 rfl ?_
        refine r_loadI a163_30 rfl ?_
        refine r_callV_4 a163_32 (Nat.le_of_ble_eq_true rfl) (le_mx mx152 (Nat.le_of_ble_eq_true rfl)) (Or.inr (recv_ok ty121 ow152 (by decide))) (c_Mo_passes dd z m1 s cl k n w od i p c (by omega) hA hQ1 ⟨h0, by omega⟩ hp ⟨c1, c2⟩) (fun m_32 h_32 => ?_)
        obtain ⟨g, q, l1, l2, l3⟩ := h_32
        have f34 : m_32 121 34 = a := by rw [g.2 34 (by decide) (by decide) (by decide) (by decide) (by decide)]; exact e34
        have f122 : m_32 122 = s := q.1.1
        refine r_loadA a163_35 rfl (by decide) ?_
        refine r_getI (ki := 34) a163_36 ty121 rfl ?_
        refine r_pushI a163_39 ?_
        rw [f34]
        refine r_icne a163_40 (fun h_40 => ?_) (fun h_40 => ?_)
        · refine r_loadA a163_50 rfl (by decide) ?_
          refine r_getI (ki := 34) a163_51 ty121 rfl ?_
          refine r_pushI a163_54 ?_
          rw [f34]
          refine r_icne a163_55 (fun h_55 => ?_) (fun h_55 => ?_)
          · refine go _ g q l1 l2 l3 (fun hh => ?_)
            rcases hh with ⟨b1, b2⟩ | ⟨b1, b2⟩
            · first
                | (exfalso; omega)
                | (rw [eo] at b2; exact b2 (by omega))
            · first
                | (exfalso; omega)
                | (apply b2
                   show seenS s (s 3).toNat i (time + eT s cl k n w (od i) p c) = true
                   by_cases hb : seenS s (s 3).toNat i (time + eT s cl k n w (od i) p c) = true
                   · exact hb
                   · exfalso
                     rw [Bool.eq_false_iff.mpr hb] at h_66
                     exact h_69 h_66)
          · refine r_loadA a163_58 rfl (by decide) ?_
            refine r_loadI a163_59 rfl ?_
            refine r_loadI a163_60 rfl ?_
            refine r_loadA a163_61 rfl (by decide) ?_
            refine r_getI (ki := 23) a163_62 ty121 rfl ?_
            rw [l2]
            refine r_add a163_65 (by omega) ?_
            refine r_callI_3 a163_66 (Nat.le_of_ble_eq_true rfl) (le_mx mx162 (Nat.le_of_ble_eq_true rfl)) (Or.inr (recv_ok ty121 ow162 (by decide))) (c_Mo_isAsSeen dd z m_32 i (time + eT s cl k n w (od i) p c) (by rw [f122]; exact hA.1)) (fun x_66 m_66 h_66 => ?_)
            obtain ⟨hm_66, h_66⟩ := h_66
            rw [hm_66]
            rw [f122] at h_66
            refine r_ifeq a163_69 (fun h_69 => ?_) (fun h_69 => ?_)
            · refine skip _ g q ?_
              first
                | exact Or.inl ⟨by omega, by rw [eo]; exact h_47⟩
                | (refine Or.inr ⟨by omega, fun hs => ?_⟩
                   have hs2 : seenS s (s 3).toNat i (time + eT s cl k n w (od i) p c) = true := hs
                   rw [hs2] at h_66
                   rw [h_66] at h_69
                   exact absurd h_69 (by decide))
            · refine go _ g q l1 l2 l3 (fun hh => ?_)
              rcases hh with ⟨b1, b2⟩ | ⟨b1, b2⟩
              · first
                  | (exfalso; omega)
                  | (rw [eo] at b2; exact b2 (by omega))
              · first
                  | (exfalso; omega)
                  | (apply b2
                     show seenS s (s 3).toNat i (time + eT s cl k n w (od i) p c) = true
                     by_cases hb : seenS s (s 3).toNat i (time + eT s cl k n w (od i) p c) = true
                     · exact hb
                     · exfalso
                       rw [Bool.eq_false_iff.mpr hb] at h_66
                       exact h_69 h_66)
        · refine r_loadA a163_43 rfl (by decide) ?_
          refine r_getI (ki := 22) a163_44 ty121 rfl ?_
          rw [l1]
          refine r_ifne a163_47 (fun h_47 => ?_) (fun h_47 => ?_)
          · refine skip _ g q ?_
            first
              | exact Or.inl ⟨by omega, by rw [eo]; exact h_47⟩
              | (refine Or.inr ⟨by omega, fun hs => ?_⟩
                 have hs2 : seenS s (s 3).toNat i (time + eT s cl k n w (od i) p c) = true := hs
                 rw [hs2] at h_66
                 rw [h_66] at h_69
                 exact absurd h_69 (by decide))
          · refine r_loadA a163_50 rfl (by decide) ?_
            refine r_getI (ki := 34) a163_51 ty121 rfl ?_
            refine r_pushI a163_54 ?_
            rw [f34]
            refine r_icne a163_55 (fun h_55 => ?_) (fun h_55 => ?_)
            · refine go _ g q l1 l2 l3 (fun hh => ?_)
              rcases hh with ⟨b1, b2⟩ | ⟨b1, b2⟩
              · first
                  | (exfalso; omega)
                  | (rw [eo] at b2; exact b2 (by omega))
              · first
                  | (exfalso; omega)
                  | (apply b2
                     show seenS s (s 3).toNat i (time + eT s cl k n w (od i) p c) = true
                     by_cases hb : seenS s (s 3).toNat i (time + eT s cl k n w (od i) p c) = true
                     · exact hb
                     · exfalso
                       rw [Bool.eq_false_iff.mpr hb] at h_66
                       exact h_69 h_66)
            · refine r_loadA a163_58 rfl (by decide) ?_
              refine r_loadI a163_59 rfl ?_
              refine r_loadI a163_60 rfl ?_
              refine r_loadA a163_61 rfl (by decide) ?_
              refine r_getI (ki := 23) a163_62 ty121 rfl ?_
              rw [l2]
              refine r_add a163_65 (by omega) ?_
              refine r_callI_3 a163_66 (Nat.le_of_ble_eq_true rfl) (le_mx mx162 (Nat.le_of_ble_eq_true rfl)) (Or.inr (recv_ok ty121 ow162 (by decide))) (c_Mo_isAsSeen dd z m_32 i (time + eT s cl k n w (od i) p c) (by rw [f122]; exact hA.1)) (fun x_66 m_66 h_66 => ?_)
              obtain ⟨hm_66, h_66⟩ := h_66
              rw [hm_66]
              rw [f122] at h_66
              refine r_ifeq a163_69 (fun h_69 => ?_) (fun h_69 => ?_)
              · refine skip _ g q ?_
                first
                  | exact Or.inl ⟨by omega, by rw [eo]; exact h_47⟩
                  | (refine Or.inr ⟨by omega, fun hs => ?_⟩
                     have hs2 : seenS s (s 3).toNat i (time + eT s cl k n w (od i) p c) = true := hs
                     rw [hs2] at h_66
                     rw [h_66] at h_69
                     exact absurd h_69 (by decide))
              · refine go _ g q l1 l2 l3 (fun hh => ?_)
                rcases hh with ⟨b1, b2⟩ | ⟨b1, b2⟩
                · first
                    | (exfalso; omega)
                    | (rw [eo] at b2; exact b2 (by omega))
                · first
                    | (exfalso; omega)
                    | (apply b2
                       show seenS s (s 3).toNat i (time + eT s cl k n w (od i) p c) = true
                       by_cases hb : seenS s (s 3).toNat i (time + eT s cl k n w (od i) p c) = true
                       · exact hb
                       · exfalso
                         rw [Bool.eq_false_iff.mpr hb] at h_66
                         exact h_69 h_66)
    have b0 := sGo_ma (rO s cl k n od) (rT s cl k n w od) (rB s cl k n od) (s 0) a lim (seenP s) nn
    have brm : ∀ (c : Int) (y : SS), sMa y ≤ sMa (sBr (rO s cl k n od) (rT s cl k n w od) (rB s cl k n od) (s 0) a lim (seenP s) nn i p time ups c y) ∧ sMa (sBr (rO s cl k n od) (rT s cl k n w od) (rB s cl k n od) (s 0) a lim (seenP s) nn i p time ups c y) ≤ sMa y + p3 nn := by
      intro c y
      unfold sBr
      split
      · omega
      · exact b0 _ _ _ _ _
    have m0 := brm 0 x
    have m1 := brm 1 (sBr (rO s cl k n od) (rT s cl k n w od) (rB s cl k n od) (s 0) a lim (seenP s) nn i p time ups 0 x)
    refine r_entry mx163 rfl ?_
    refine r_loadI a163_0 rfl ?_
    refine r_loadA a163_1 rfl (by decide) ?_
    refine r_getR a163_2 ty121 rf121_1 (by decide) ?_
    refine r_pushI a163_5 ?_
    refine r_iald a163_6 ty122 (by omega) ?_
    rw [e122]
    refine r_icne a163_7 (fun h_7 => ?_) (fun h_7 => ?_)
    · refine r_pushI a163_18 ?_
      refine r_storeI_6 a163_19 rfl ?_
      refine step 0 x _ _ (by omega) (by omega) ⟨⟨fun _ _ _ _ _ _ => rfl, fun _ _ _ _ _ _ _ _ _ => rfl⟩, hQ, hx⟩ (by omega) (fun m2 h2 => ?_)
      refine step 1 _ _ _ (by omega) (by omega) h2 (by omega) (fun m3 h3 => ?_)
      refine step 2 _ _ _ (by omega) (by omega) h3 (by omega) (fun m4 h4 => ?_)
      refine r_loadI a163_21 rfl ?_
      refine r_pushI a163_23 ?_
      refine r_icge a163_24 (fun _ => ?_) (fun h => absurd h (by decide))
      refine r_retVq a163_114 ?_
      rw [sGo_succ]
      exact h4
    · exfalso
      omega
theorem c_Mo_looksForLines (d z : Nat) (m : XM) (s : Int → Int) (cl : CLs) (k n w : Int) (od : Int → Int) (a i p : Int) (hd : 13 ≤ d) (hA : AskOk s cl k n w) (ha : a = 0 ∨ a = 1 ∨ a = 2 ∨ a = 3) (hQ : RefQ m s cl k n w od)
    (hi : 0 ≤ i ∧ i ≤ s 0) (hp : 0 ≤ p ∧ p < 10) :
    CV d k_Mo_looksForLines z m [vR 121, vI a, vI i, vI p] (fun m' => (∀ x, x ≠ 121 → ¬ (124 ≤ x ∧ x ≤ 125) → ¬ (127 ≤ x ∧ x ≤ 131) → x ≠ 135 → x ≠ 136 → m' x = m x) ∧ (∀ y, y ≠ 11 → y ≠ 12 → y ≠ 22 → y ≠ 23 → y ≠ 24 → y ≠ 34 → y ≠ 36 → y ≠ 37 → y ≠ 38 → m' 121 y = m 121 y) ∧ RefQ m' s cl k n w od ∧
      StS m' (sGo (rO s cl k n od) (rT s cl k n w od) (rB s cl k n od) (s 0) a (m 121 35) (seenP s) (s 0 - i).toNat i p 0 1 (m 135, m 136, 1000000, -1, 0))) := by
  obtain ⟨dd, rfl⟩ : ∃ dd, d = dd + 1 := ⟨d - 1, by omega⟩
  have hN := hA.1.1.1
  have hle : ((s 0 - i).toNat : Int) ≤ 7 := by omega
  have p3b : ∀ q : Nat, q ≤ 7 → p3 q ≤ 2187 := by
    intro q hq
    have : q = 0 ∨ q = 1 ∨ q = 2 ∨ q = 3 ∨ q = 4 ∨ q = 5 ∨ q = 6 ∨ q = 7 := by omega
    rcases this with h | h | h | h | h | h | h | h <;> rw [h] <;> decide
  have b3 := p3b (s 0 - i).toNat (by omega)
  have b20 := p20_le (s 0 - i).toNat (by omega)
  refine r_entry mx164 rfl ?_
  refine r_loadA a164_0 rfl (by decide) ?_
  refine r_loadI a164_1 rfl ?_
  refine r_putI (ki := 34) a164_2 ty121 rfl ?_
  refine r_loadA a164_5 rfl (by decide) ?_
  refine r_pushI a164_6 ?_
  refine r_putI (ki := 36) a164_9 ty121 rfl ?_
  refine r_loadA a164_12 rfl (by decide) ?_
  refine r_pushL a164_13 ?_
  refine r_putL (ki := 37) a164_16 ty121 rfl ?_
  refine r_loadA a164_19 rfl (by decide) ?_
  refine r_pushI a164_20 ?_
  refine r_putI (ki := 38) a164_21 ty121 rfl ?_
  refine r_loadA a164_24 rfl (by decide) ?_
  refine r_loadI a164_25 rfl ?_
  refine r_loadI a164_26 rfl ?_
  refine r_pushI a164_27 ?_
  refine r_pushL a164_28 ?_
  refine r_callV_5 a164_29 (Nat.le_of_ble_eq_true rfl) (le_mx mx163 (Nat.le_of_ble_eq_true rfl)) (Or.inr (recv_ok ty121 ow163 (by decide))) (c_Mo_linesFrom s cl k n w od a (m 121 35) hA ha (s 0 - i).toNat dd z _ i p 0 1 (m 135, m 136, 1000000, -1, 0) (by omega) (by omega) hi.1 hp (by omega) (by omega) (by rw [up2_k (by decide), up2_k (by decide), up2_k (by decide), up2_s]) (by rw [up2_k (by decide), up2_k (by decide), up2_k (by decide), up2_k (by decide)]) (RefQ_cong (by rw [up2_c (by decide), up2_c (by decide), up2_c (by decide), up2_c (by decide)]) (by rw [up2_c (by decide), up2_c (by decide), up2_c (by decide), up2_c (by decide)]) (by rw [up2_c (by decide), up2_c (by decide), up2_c (by decide), up2_c (by decide)]) (by rw [up2_c (by decide), up2_c (by decide), up2_c (by decide), up2_c (by decide)]) (by rw [up2_c (by decide), up2_c (by decide), up2_c (by decide), up2_c (by decide)]) (by rw [up2_c (by decide), up2_c (by decide), up2_c (by decide), up2_c (by decide)]) (by rw [up2_c (by decide), up2_c (by decide), up2_c (by decide), up2_c (by decide)]) (by rw [up2_k (by decide), up2_k (by decide), up2_k (by decide), up2_k (by decide)]) (by rw [up2_k (by decide), up2_k (by decide), up2_k (by decide), up2_k (by decide)]) (by rw [up2_k (by decide), up2_k (by decide), up2_k (by decide), up2_k (by decide)]) hQ) ⟨by rw [up2_c (by decide), up2_c (by decide), up2_c (by decide), up2_c (by decide)]; rfl, by rw [up2_c (by decide), up2_c (by decide), up2_c (by decide), up2_c (by decide)]; rfl, by rw [up2_k (by decide), up2_k (by decide), up2_s]; rfl, by rw [up2_k (by decide), up2_s]; rfl, by rw [up2_s]; rfl⟩ (by show 0 ≤ (0 : Int) ∧ (0 : Int) + _ ≤ 3000; omega)) (fun m_29 h_29 => ?_)
  refine r_retVq a164_32 ?_
  obtain ⟨r1, r2, r3⟩ := h_29
  refine ⟨fun x x1 x2 x3 x4 x5 => ?_, fun y y1 y2 y3 y4 y5 y6 y7 y8 y9 => ?_, r2, r3⟩
  · rw [r1.1 x x1 x2 x3 x4 x5, up2_c x1, up2_c x1, up2_c x1, up2_c x1]
  · rw [r1.2 y y1 y2 y3 y4 y5 y7 y8 y9, up2_k y9, up2_k y8, up2_k y7, up2_k y6]
