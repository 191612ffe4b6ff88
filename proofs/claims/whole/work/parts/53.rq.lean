-- ===== the reference: least times, runs =====
theorem rRg {s : Int → Int} {cl : CLs} {k n w : Int} {od : Int → Int} (hA : AskOk s cl k n w) (ho : ∀ i, 0 ≤ i → i < 7 → 0 ≤ od i ∧ od i < 7) : RgE (rO s cl k n od) (rT s cl k n w od) (rB s cl k n od) (s 0) := by
  have hN := hA.1.1.1
  intro g p c g1 g2 p1 p2 c1 c2
  obtain ⟨o1, o2⟩ := ho g g1 (by omega)
  exact ⟨eO_r s cl k n (od g) p c, eT_r hA.1 hA.2.1.2.1 hA.2.1.2.2 ⟨o1, o2⟩ hA.2.2.2.1 ⟨p1, p2⟩ ⟨c1, c2⟩, eB_r s cl k n (od g) p c⟩
theorem stp_w {x : Int × Int} {v : Int} {ok : Prop} [Decidable ok] {c u : Int} (hx : x.1 ≤ u ∨ x.1 = 100000000) (hv : v ≤ u ∨ 100000000 ≤ v) : (stp x v ok c).1 ≤ u ∨ (stp x v ok c).1 = 100000000 := by
  unfold stp
  split
  · rename_i h
    have := h.1
    show v ≤ u ∨ v = 100000000
    omega
  · exact hx
theorem stp_n {x : Int × Int} {v : Int} {ok : Prop} [Decidable ok] {c u : Int} (ho : ok) (hv : v ≤ u) (hu : u < 100000000) (hx : x.1 ≤ u ∨ x.1 = 100000000) : (stp x v ok c).1 ≤ u := by
  unfold stp
  split
  · exact hv
  · rename_i h
    have : ¬ v < x.1 := fun q => h ⟨q, ho⟩
    omega
theorem LC_up {O T B : TF} {N : Int} (ns : Prop) [Decidable ns] (h : RgE O T B N) (hN : N ≤ 7) : ∀ (n : Nat) (i p : Int), 0 ≤ i → i + n ≤ N → 0 ≤ p → p < 10 →
    ((LC O T B ns n i p).1 ≤ 21000 * n ∨ (LC O T B ns n i p).1 = 100000000) ∧ (¬ ns → (LC O T B ns n i p).1 ≤ 21000 * n) := by
  intro n
  induction n with
  | zero => intro i p _ _ _ _; show ((0 : Int) ≤ _ ∨ (0 : Int) = _) ∧ (_ → (0 : Int) ≤ _); omega
  | succ n ih =>
    intro i p hi hn p1 p2
    push_cast at hn ⊢
    have hh : ∀ c, 0 ≤ c → c < 3 → (T i p c + (LC O T B ns n (i + 1) (B i p c)).1 ≤ 21000 * (n + 1) ∨ 100000000 ≤ T i p c + (LC O T B ns n (i + 1) (B i p c)).1) ∧ (¬ ns → T i p c + (LC O T B ns n (i + 1) (B i p c)).1 ≤ 21000 * (n + 1)) := fun c c1 c2 => by
      obtain ⟨_, t, b⟩ := h i p c hi (by omega) p1 p2 c1 c2
      have := ih (i + 1) (B i p c) (by omega) (by omega) b.1 (by omega)
      refine ⟨by omega, fun q => ?_⟩
      have := this.2 q
      omega
    have h0 := hh 0 (by omega) (by omega)
    have h1 := hh 1 (by omega) (by omega)
    have h2 := hh 2 (by omega) (by omega)
    have s1 := stp_w (x := (100000000, 0)) (ok := ¬ (ns ∧ O i p 0 > 0)) (c := 0) (u := 21000 * ((n : Int) + 1)) (Or.inr rfl) h0.1
    have s2 := stp_w (ok := ¬ (ns ∧ O i p 1 > 0)) (c := 1) s1 h1.1
    have s3 := stp_w (ok := ¬ (ns ∧ O i p 2 > 0)) (c := 2) s2 h2.1
    refine ⟨s3, fun q => ?_⟩
    exact stp_n (fun hq => q hq.1) (h2.2 q) (by omega) s2
/-- what asking of least times and lines may change in the reference -/
def FrL (m m' : XM) : Prop :=
  (∀ x, x ≠ 121 → ¬ (124 ≤ x ∧ x ≤ 131) → x ≠ 135 → x ≠ 136 → m' x = m x) ∧ (∀ y, ¬ (11 ≤ y ∧ y ≤ 15) → ¬ (22 ≤ y ∧ y ≤ 38) → m' 121 y = m 121 y)
theorem FrL.refl (m : XM) : FrL m m := ⟨fun _ _ _ _ _ => rfl, fun _ _ _ => rfl⟩
theorem FrL.trans {a b c : XM} (h1 : FrL a b) (h2 : FrL b c) : FrL a c :=
  ⟨fun x x1 x2 x3 x4 => (h2.1 x x1 x2 x3 x4).trans (h1.1 x x1 x2 x3 x4), fun y y1 y2 => (h2.2 y y1 y2).trans (h1.2 y y1 y2)⟩
theorem FrL_KM {m m' : XM} (h : FrL m m') : KM m m' :=
  ⟨fun x a b => h.1 x a (by omega) (by omega) (by omega), h.2 3 (by decide) (by decide), h.2 4 (by decide) (by decide), h.2 16 (by decide) (by decide), h.2 43 (by decide) (by decide)⟩
theorem beg_FrL {m m' : XM} {k n : Int} (h : (∀ x, x ≠ 121 → x ≠ 127 → x ≠ 129 → m' x = m x) ∧ (∀ y, y ≠ 14 → y ≠ 15 → m' 121 y = m 121 y) ∧ m' 121 14 = k ∧ m' 121 15 = n ∧ (∀ j, 0 ≤ j → j < 700 → m' 127 j = -1) ∧ ∀ j, 0 ≤ j → j < 210 → m' 129 j = -1) : FrL m m' :=
  ⟨fun x a b _ _ => h.1 x a (by omega) (by omega), fun y a b => h.2.1 y (by omega) (by omega)⟩
theorem beg_Q {m m' : XM} {s : Int → Int} {cl : CLs} {k n w : Int} {od : Int → Int} (hm : m 122 = s) (h16 : m 121 16 = 1 - w) (hst : Stands m od) (h : (∀ x, x ≠ 121 → x ≠ 127 → x ≠ 129 → m' x = m x) ∧ (∀ y, y ≠ 14 → y ≠ 15 → m' 121 y = m 121 y) ∧ m' 121 14 = k ∧ m' 121 15 = n ∧ (∀ j, 0 ≤ j → j < 700 → m' 127 j = -1) ∧ ∀ j, 0 ≤ j → j < 210 → m' 129 j = -1) : RefQ m' s cl k n w od := by
  obtain ⟨g1, g2, g3, g4, g5, g6⟩ := h
  have e126 : m' 126 = m 126 := g1 126 (by decide) (by decide) (by decide)
  refine ⟨⟨?_, g3, g4, ?_, ?_⟩, fun r i p r1 r2 i1 i2 p1 p2 => Or.inl (g5 _ (by omega) (by omega)), MemoP_new g6⟩
  · rw [g1 122 (by decide) (by decide) (by decide)]; exact hm
  · rw [g2 16 (by decide) (by decide)]; exact h16
  · rw [e126]; exact hst
theorem c_Mo_leastBy (d z : Nat) (m : XM) (s : Int → Int) (cl : CLs) (k n w : Int) (od : Int → Int) (hd : 15 ≤ d) (hA : AskOk s cl k n w) (hm : m 122 = s) (h16 : m 121 16 = 1 - w) (hst : Stands m od) :
    CI d k_Mo_leastBy z m [vR 121, vI k, vI n] (fun x m' => FrL m m' ∧ RefQ m' s cl k n w od ∧ m' 126 = m 126 ∧ x = (LC (rO s cl k n od) (rT s cl k n w od) (rB s cl k n od) ((0 : Int) = 1) (s 0).toNat 0 3).1 ∧
      ∀ i, 0 ≤ i → i < s 0 → m' 136 i = pathL (rO s cl k n od) (rT s cl k n w od) (rB s cl k n od) ((0 : Int) = 1) (s 0).toNat 0 3 i) := by
  obtain ⟨dd, rfl⟩ : ∃ dd, d = dd + 1 := ⟨d - 1, by omega⟩
  have hN := hA.1.1.1
  refine r_entry mx165 rfl ?_
  refine r_loadA a165_0 rfl (by decide) ?_
  refine r_loadI a165_1 rfl ?_
  refine r_loadI a165_2 rfl ?_
  refine r_callV_3 a165_3 (Nat.le_of_ble_eq_true rfl) (le_mx mx148 (Nat.le_of_ble_eq_true rfl)) (Or.inr (recv_ok ty121 ow148 (by decide))) (c_Mo_begins dd z m k n (by omega)) (fun m_3 h_3 => ?_)
  have hF := beg_FrL h_3
  have hQ := beg_Q (cl := cl) hm h16 hst h_3
  have e126 : m_3 126 = m 126 := h_3.1 126 (by decide) (by decide) (by decide)
  refine r_loadA a165_6 rfl (by decide) ?_
  refine r_pushI a165_7 ?_
  refine r_pushI a165_8 ?_
  refine r_pushI a165_9 ?_
  refine r_callV_4 a165_10 (Nat.le_of_ble_eq_true rfl) (le_mx mx164 (Nat.le_of_ble_eq_true rfl)) (Or.inr (recv_ok ty121 ow164 (by decide))) (c_Mo_looksForLines dd z m_3 s cl k n w od 0 0 3 (by omega) hA (by omega) hQ (by omega) (by omega)) (fun m_10 h_10 => ?_)
  refine r_loadA a165_13 rfl (by decide) ?_
  refine r_getI (ki := 36) a165_14 ty121 rfl ?_
  refine r_retIq a165_17 ?_
  obtain ⟨g1, g2, g3, g4⟩ := h_10
  have e0 : (s 0 - 0).toNat = (s 0).toNat := by rw [Int.sub_zero]
  rw [e0] at g4
  have hl := sGo_least (rO s cl k n od) (rT s cl k n w od) (rB s cl k n od) (s 0) 0 (m_3 121 35) (seenP s) (Or.inl rfl) (fun i p c => (eO_r s cl k n (od i) p c).1) (s 0).toNat 0 3 0 1 (m_3 135, m_3 136, 1000000, -1, 0) (by omega) (by omega) (by show (1000000 : Int) ≤ _; omega) (by omega) (fun j q c => by have := rT_pos s cl k n w od j q c; omega)
  have hb := (LC_up ((0 : Int) = 1) (rRg hA (fun i a b => (hst i a b).2)) (by omega) (s 0).toNat 0 3 (by omega) (by omega) (by omega) (by omega)).2 (by decide)
  obtain ⟨_, hl⟩ := hl
  generalize sGo (rO s cl k n od) (rT s cl k n w od) (rB s cl k n od) (s 0) 0 (m_3 121 35) (seenP s) (s 0).toNat 0 3 0 1 (m_3 135, m_3 136, 1000000, -1, 0) = y at hl g4
  rcases hl with ⟨l1, l2, l3, l4, l5⟩ | ⟨l1, _⟩
  · refine ⟨FrL.trans hF ⟨fun x a b c e => g1 x a (by omega) (by omega) c e, fun y a b => g2 y (by omega) (by omega) (by omega) (by omega) (by omega) (by omega) (by omega) (by omega) (by omega)⟩, g3, ?_, ?_, fun i a b => ?_⟩
    · rw [g1 126 (by decide) (by decide) (by decide) (by decide) (by decide)]; exact e126
    · rw [g4.2.2.1, l2]; omega
    · rw [g4.2.1]; exact l5 i a b
  · exfalso
    apply l1
    show _ < (1000000 : Int)
    omega
abbrev idn : Int → Int := fun i => i
theorem st_Stands {m : XM} (h : ∀ j, 0 ≤ j → j < 7 → m 126 j = j) : Stands m idn := fun i a b => ⟨h i a b, a, b⟩
/-- the least time, its line -/
def tQ (s : Int → Int) (cl : CLs) (k n w : Int) : Int := (LC (eO s cl k n) (eT s cl k n w) (eB s cl k n) ((0 : Int) = 1) (s 0).toNat 0 3).1
def lQ (s : Int → Int) (cl : CLs) (k n w : Int) : Int → Int := pathL (eO s cl k n) (eT s cl k n w) (eB s cl k n) ((0 : Int) = 1) (s 0).toNat 0 3
theorem c_Mo_leastNow (d z : Nat) (m : XM) (s : Int → Int) (cl : CLs) (k w : Int) (hd : 16 ≤ d) (hA : AskOk s cl k (s 7) w) (hm : m 122 = s) (h16 : m 121 16 = 1 - w) :
    CI d k_Mo_leastNow z m [vR 121, vI k] (fun x m' => FrL m m' ∧ RefQ m' s cl k (s 7) w idn ∧ x = tQ s cl k (s 7) w ∧ ∀ i, 0 ≤ i → i < s 0 → m' 136 i = lQ s cl k (s 7) w i) := by
  obtain ⟨dd, rfl⟩ : ∃ dd, d = dd + 1 := ⟨d - 1, by omega⟩
  refine r_entry mx166 rfl ?_
  refine r_loadA a166_0 rfl (by decide) ?_
  refine r_callV_1 a166_1 (Nat.le_of_ble_eq_true rfl) (le_mx mx149 (Nat.le_of_ble_eq_true rfl)) (Or.inr (recv_ok ty121 ow149 (by decide))) (c_Mo_asTheyStand dd z m) (fun m_1 h_1 => ?_)
  have e122 : m_1 122 = s := by rw [h_1.1 122 (by decide)]; exact hm
  refine r_loadA a166_4 rfl (by decide) ?_
  refine r_loadI a166_5 rfl ?_
  refine r_loadA a166_6 rfl (by decide) ?_
  refine r_getR a166_7 ty121 rf121_1 (by decide) ?_
  refine r_pushI a166_10 ?_
  refine r_iald a166_12 ty122 (by omega) ?_
  rw [e122]
  refine r_callI_3 a166_13 (Nat.le_of_ble_eq_true rfl) (le_mx mx165 (Nat.le_of_ble_eq_true rfl)) (Or.inr (recv_ok ty121 ow165 (by decide))) (c_Mo_leastBy dd z m_1 s cl k (s 7) w idn (by omega) hA e122 (by rw [h_1.1 121 (by decide)]; exact h16) (st_Stands h_1.2)) (fun x_13 m_13 h_13 => ?_)
  refine r_retIq a166_16 ?_
  obtain ⟨g1, g2, g3, g4, g5⟩ := h_13
  refine ⟨FrL.trans ⟨fun x a b _ _ => h_1.1 x (by omega), fun y _ _ => by rw [h_1.1 121 (by decide)]⟩ g1, g2, g4, g5⟩
theorem c_Mo_beginsNow (d z : Nat) (m : XM) (s : Int → Int) (cl : CLs) (k w : Int) (hd : 2 ≤ d) (hS : okS s) (hm : m 122 = s) (h16 : m 121 16 = 1 - w) :
    CV d k_Mo_beginsNow z m [vR 121, vI k] (fun m' => FrL m m' ∧ RefQ m' s cl k (s 7) w idn) := by
  obtain ⟨dd, rfl⟩ : ∃ dd, d = dd + 1 := ⟨d - 1, by omega⟩
  refine r_entry mx150 rfl ?_
  refine r_loadA a150_0 rfl (by decide) ?_
  refine r_callV_1 a150_1 (Nat.le_of_ble_eq_true rfl) (le_mx mx149 (Nat.le_of_ble_eq_true rfl)) (Or.inr (recv_ok ty121 ow149 (by decide))) (c_Mo_asTheyStand dd z m) (fun m_1 h_1 => ?_)
  have e122 : m_1 122 = s := by rw [h_1.1 122 (by decide)]; exact hm
  refine r_loadA a150_4 rfl (by decide) ?_
  refine r_loadI a150_5 rfl ?_
  refine r_loadA a150_6 rfl (by decide) ?_
  refine r_getR a150_7 ty121 rf121_1 (by decide) ?_
  refine r_pushI a150_10 ?_
  refine r_iald a150_12 ty122 (by omega) ?_
  rw [e122]
  refine r_callV_3 a150_13 (Nat.le_of_ble_eq_true rfl) (le_mx mx148 (Nat.le_of_ble_eq_true rfl)) (Or.inr (recv_ok ty121 ow148 (by decide))) (c_Mo_begins dd z m_1 k (s 7) (by omega)) (fun m_13 h_13 => ?_)
  refine r_retVq a150_16 ?_
  refine ⟨FrL.trans ⟨fun x a b _ _ => h_1.1 x (by omega), fun y _ _ => by rw [h_1.1 121 (by decide)]⟩ (beg_FrL h_13), beg_Q e122 (by rw [h_1.1 121 (by decide)]; exact h16) (st_Stands h_1.2) h_13⟩
/-- a run by a line, left by the reference -/
def RnS (m : XM) (O T B : TF) (l : Int → Int) (N : Int) : Prop :=
  m 121 28 = rnT T B l N.toNat ∧ m 121 29 = rnP B l N.toNat ∧ m 121 30 = rnZ O B l N.toNat ∧ m 121 31 = rnU O B l N.toNat ∧
  ∀ i : Nat, (i : Int) < N → m 132 i = T i (rnP B l i) (l i) ∧ m 133 i = O i (rnP B l i) (l i)
/-- what runs may change in the reference -/
def FrR (m m' : XM) : Prop :=
  (∀ x, x ≠ 121 → ¬ (124 ≤ x ∧ x ≤ 136) → m' x = m x) ∧ (∀ y, ¬ (11 ≤ y ∧ y ≤ 15) → ¬ (22 ≤ y ∧ y ≤ 38) → m' 121 y = m 121 y)
theorem FrR.trans {a b c : XM} (h1 : FrR a b) (h2 : FrR b c) : FrR a c :=
  ⟨fun x x1 x2 => (h2.1 x x1 x2).trans (h1.1 x x1 x2), fun y y1 y2 => (h2.2 y y1 y2).trans (h1.2 y y1 y2)⟩
theorem FrR.refl (m : XM) : FrR m m := ⟨fun _ _ _ => rfl, fun _ _ _ => rfl⟩
theorem FrL_FrR {m m' : XM} (h : FrL m m') : FrR m m' := ⟨fun x a b => h.1 x a (by omega) (by omega) (by omega), h.2⟩
theorem FrR_KM {m m' : XM} (h : FrR m m') : KM m m' :=
  ⟨fun x a b => h.1 x a (by omega), h.2 3 (by decide) (by decide), h.2 4 (by decide) (by decide), h.2 16 (by decide) (by decide), h.2 43 (by decide) (by decide)⟩
theorem c_Mo_runsBy (d z : Nat) (m : XM) (s : Int → Int) (cl : CLs) (k n w : Int) (od : Int → Int) (l : Int → Int) (hd : 4 ≤ d) (hA : AskOk s cl k n w) (hQ : RefQ m s cl k n w od)
    (hm : ∀ i, 0 ≤ i → i < s 0 → m 134 i = l i) (hl : ∀ i, 0 ≤ i → i < s 0 → 0 ≤ l i ∧ l i < 3) :
    CV d k_Mo_runsBy z m [vR 121] (fun m' => FrR m m' ∧ RefQ m' s cl k n w od ∧ RnS m' (rO s cl k n od) (rT s cl k n w od) (rB s cl k n od) l (s 0)) := by
  obtain ⟨dd, rfl⟩ : ∃ dd, d = dd + 1 := ⟨d - 1, by omega⟩
  have hN := hA.1.1.1
  have hR := rRg hA (fun i a b => (hQ.1.2.2.2.2 i a b).2)
  have hod := fun i a b => (hQ.1.2.2.2.2 i a b).2
  obtain ⟨O, hO⟩ : ∃ O, rO s cl k n od = O := ⟨_, rfl⟩
  obtain ⟨T, hT⟩ : ∃ T, rT s cl k n w od = T := ⟨_, rfl⟩
  obtain ⟨B, hB⟩ : ∃ B, rB s cl k n od = B := ⟨_, rfl⟩
  rw [hO, hT, hB] at hR ⊢
  have loop : ∀ (c i : Nat) (m1 : XM), (i : Int) + c = s 0 → FrR m m1 → RefQ m1 s cl k n w od → m1 134 = m 134 → RnS m1 O T B l i →
      RZ (dd + 1) k_Mo_runsBy 22 [vR 121, vI (i : Int)] [] (zH z m1) (qz z (qv fun m' => FrR m m' ∧ RefQ m' s cl k n w od ∧ RnS m' O T B l (s 0))) := by
    intro c
    induction c with
    | zero =>
      intro i m1 hi fr q e134 hG
      have hi2 : (i : Int) = s 0 := by omega
      have e122 : m1 122 = s := q.1.1
      refine r_loadI a153_22 rfl ?_
      refine r_loadA a153_23 rfl (by decide) ?_
      refine r_getR a153_24 ty121 rf121_1 (by decide) ?_
      refine r_pushI a153_27 ?_
      refine r_iald a153_28 ty122 (by omega) ?_
      rw [e122]
      refine r_icge a153_29 (fun h_29 => ?_) (fun h_29 => ?_)
      · refine r_retVq a153_134 ?_
        rw [hi2] at hG
        exact ⟨fr, q, hG⟩
      · exfalso
        omega
    | succ c ih =>
      intro i m1 hi fr q e134 ⟨g1, g2, g3, g4, g5⟩
      have hin : (i : Int) < s 0 := by omega
      have ei : ((i : Int)).toNat = i := by omega
      rw [ei] at g1 g2 g3 g4
      have e122 : m1 122 = s := q.1.1
      have hp := rnP_r hR hl i (by omega)
      have ht := rnT_r hR hl i (by omega)
      have hu := rnU_r hR hl i (by omega)
      have hpl := p20_le i (by omega)
      have hli := hl i (by omega) hin
      obtain ⟨r1, r2, r3⟩ := hR i (rnP B l i) (l i) (by omega) hin hp.1 hp.2 hli.1 hli.2
      have hz := rnZ_r O B l i
      have eO' : eO s cl k n (od i) (rnP B l i) (l i) = O i (rnP B l i) (l i) := by rw [← hO]; rfl
      have eT' : eT s cl k n w (od i) (rnP B l i) (l i) = T i (rnP B l i) (l i) := by rw [← hT]; rfl
      have eB' : eB s cl k n (od i) (rnP B l i) (l i) = B i (rnP B l i) (l i) := by rw [← hB]; rfl
      have em : m1 134 i = l i := by rw [e134]; exact hm i (by omega) hin
      have hmul : 0 ≤ rnU O B l i * (20 - O i (rnP B l i) (l i)) ∧ rnU O B l i * (20 - O i (rnP B l i) (l i)) ≤ 25600000000 := by
        refine ⟨Int.mul_nonneg hu.1 (by omega), ?_⟩
        have a := Int.mul_le_mul_of_nonneg_left (show 20 - O i (rnP B l i) (l i) ≤ 20 by omega) hu.1
        omega
      have fin : ∀ (m2 : XM) (zz : Int), PsG m1 m2 → RefQ m2 s cl k n w od → m2 121 22 = O i (rnP B l i) (l i) → m2 121 23 = T i (rnP B l i) (l i) → m2 121 24 = B i (rnP B l i) (l i) → zz = rnZ O B l (i + 1) →
          RZ (dd + 1) k_Mo_runsBy 108 [vR 121, vI (i : Int)] [vI zz, vR 121] (zH z (up2 (up2 (up2 (up2 m2 132 i (T i (rnP B l i) (l i))) 133 i (O i (rnP B l i) (l i))) 121 28 (rnT T B l i + T i (rnP B l i) (l i))) 121 29 (B i (rnP B l i) (l i)))) (qz z (qv fun m' => FrR m m' ∧ RefQ m' s cl k n w od ∧ RnS m' O T B l (s 0))) := by
        intro m2 zz g q2 h22 h23 h24 hzz
        have hz2 := rnZ_r O B l (i + 1)
        refine r_putZ (ki := 30) a153_108 ty121 rfl (by omega) ?_
        refine r_loadA a153_111 rfl (by decide) ?_
        refine r_dup a153_112 rfl ?_
        refine r_getL (ki := 31) a153_113 ty121 rfl ?_
        refine r_pushI a153_116 ?_
        refine r_loadA a153_118 rfl (by decide) ?_
        refine r_getI (ki := 22) a153_119 ty121 rfl ?_
        rw [up2_k (by decide), up2_k (by decide), up2_k (by decide), up2_c (by decide), up2_c (by decide), h22]
        refine r_sub a153_122 (by omega) ?_
        rw [up2_k (by decide), up2_k (by decide), up2_k (by decide), up2_c (by decide), up2_c (by decide), g.2 31 (by decide) (by decide) (by decide) (by decide) (by decide), g4]
        refine r_i2l a153_123 ?_
        refine r_lmul a153_124 (by omega) ?_
        refine r_putL (ki := 31) a153_125 ty121 rfl ?_
        refine r_iinc_1 a153_128 rfl (by omega) ?_
        refine r_goto a153_131 ?_
        refine ih (i + 1) _ (by push_cast; omega) (FrR.trans fr ⟨fun x a b => ?_, fun y a b => ?_⟩) ?_ ?_ ⟨?_, ?_, ?_, ?_, fun j hj => ?_⟩
        · rw [up2_c a, up2_c a, up2_c a, up2_c a, up2_c (by omega), up2_c (by omega)]; exact g.1 x a (by omega) (by omega)
        · rw [up2_k (by omega), up2_k (by omega), up2_k (by omega), up2_k (by omega), up2_c (by decide), up2_c (by decide)]; exact g.2 y (by omega) (by omega) (by omega) (by omega) (by omega)
        · refine RefQ_cong ?_ ?_ ?_ ?_ ?_ ?_ ?_ ?_ ?_ ?_ q2
          all_goals first
            | rw [up2_c (by decide), up2_c (by decide), up2_c (by decide), up2_c (by decide), up2_c (by decide), up2_c (by decide)]
            | rw [up2_k (by decide), up2_k (by decide), up2_k (by decide), up2_k (by decide), up2_c (by decide), up2_c (by decide)]
        · rw [up2_c (by decide), up2_c (by decide), up2_c (by decide), up2_c (by decide), up2_c (by decide), up2_c (by decide), g.1 134 (by decide) (by decide) (by decide)]; exact e134
        · rw [up2_k (by decide), up2_k (by decide), up2_k (by decide), up2_s, Int.toNat_natCast]; rfl
        · rw [up2_k (by decide), up2_k (by decide), up2_s, Int.toNat_natCast]; rfl
        · rw [up2_k (by decide), up2_s, Int.toNat_natCast]; exact hzz
        · rw [up2_s, Int.toNat_natCast]; rfl
        · have hj' : j = i ∨ (j : Int) < i := by push_cast at hj; omega
          rw [up2_c (show 132 ≠ 121 by decide), up2_c (show 132 ≠ 121 by decide), up2_c (show 132 ≠ 121 by decide), up2_c (show 132 ≠ 121 by decide), up2_c (show 132 ≠ 133 by decide), up2_c (show 133 ≠ 121 by decide), up2_c (show 133 ≠ 121 by decide), up2_c (show 133 ≠ 121 by decide), up2_c (show 133 ≠ 121 by decide)]
          rcases hj' with q | q
          · rw [q, up2_s, up2_s]; exact ⟨rfl, rfl⟩
          · rw [up2_k (by omega), up2_k (by omega), up2_c (by decide), g.1 132 (by decide) (by decide) (by decide), g.1 133 (by decide) (by decide) (by decide)]; exact g5 j q
      refine r_loadI a153_22 rfl ?_
      refine r_loadA a153_23 rfl (by decide) ?_
      refine r_getR a153_24 ty121 rf121_1 (by decide) ?_
      refine r_pushI a153_27 ?_
      refine r_iald a153_28 ty122 (by omega) ?_
      rw [e122]
      refine r_icge a153_29 (fun h_29 => ?_) (fun h_29 => ?_)
      · exfalso
        omega
      · refine r_loadA a153_32 rfl (by decide) ?_
        refine r_loadI a153_33 rfl ?_
        refine r_loadA a153_34 rfl (by decide) ?_
        refine r_getI (ki := 29) a153_35 ty121 rfl ?_
        rw [g2]
        refine r_loadA a153_38 rfl (by decide) ?_
        refine r_getR a153_39 ty121 rf121_27 (by decide) ?_
        refine r_loadI a153_42 rfl ?_
        refine r_iald a153_43 ty134 (by omega) ?_
        rw [em]
        refine r_callV_4 a153_44 (Nat.le_of_ble_eq_true rfl) (le_mx mx152 (Nat.le_of_ble_eq_true rfl)) (Or.inr (recv_ok ty121 ow152 (by decide))) (c_Mo_passes dd z m1 s cl k n w od i (rnP B l i) (l i) (by omega) hA q (by omega) hp hli) (fun m_44 h_44 => ?_)
        obtain ⟨g, q2, l1, l2, l3⟩ := h_44
        rw [eO'] at l1
        rw [eT'] at l2
        rw [eB'] at l3
        refine r_loadA a153_47 rfl (by decide) ?_
        refine r_getR a153_48 ty121 rf121_25 (by decide) ?_
        refine r_loadI a153_51 rfl ?_
        refine r_loadA a153_52 rfl (by decide) ?_
        refine r_getI (ki := 23) a153_53 ty121 rfl ?_
        rw [l2]
        refine r_iast a153_56 ty132 (by omega) ?_
        refine r_loadA a153_57 rfl (by decide) ?_
        refine r_getR a153_58 ty121 rf121_26 (by decide) ?_
        refine r_loadI a153_61 rfl ?_
        refine r_loadA a153_62 rfl (by decide) ?_
        refine r_getI (ki := 22) a153_63 ty121 rfl ?_
        rw [up2_c (by decide), l1]
        refine r_iast a153_66 ty133 (by omega) ?_
        refine r_loadA a153_67 rfl (by decide) ?_
        refine r_dup a153_68 rfl ?_
        refine r_getI (ki := 28) a153_69 ty121 rfl ?_
        refine r_loadA a153_72 rfl (by decide) ?_
        refine r_getI (ki := 23) a153_73 ty121 rfl ?_
        rw [up2_c (by decide), up2_c (by decide), l2, g.2 28 (by decide) (by decide) (by decide) (by decide) (by decide), g1]
        refine r_add a153_76 (by omega) ?_
        refine r_putI (ki := 28) a153_77 ty121 rfl ?_
        refine r_loadA a153_80 rfl (by decide) ?_
        refine r_loadA a153_81 rfl (by decide) ?_
        refine r_getI (ki := 24) a153_82 ty121 rfl ?_
        rw [up2_k (by decide), up2_c (by decide), up2_c (by decide), l3]
        refine r_putI (ki := 29) a153_85 ty121 rfl ?_
        refine r_loadA a153_88 rfl (by decide) ?_
        refine r_loadA a153_89 rfl (by decide) ?_
        refine r_getI (ki := 30) a153_90 ty121 rfl ?_
        rw [up2_k (by decide), up2_k (by decide), up2_c (by decide), up2_c (by decide), g.2 30 (by decide) (by decide) (by decide) (by decide) (by decide), g3]
        refine r_ifne a153_93 (fun h_93 => ?_) (fun h_93 => ?_)
        · refine r_pushI a153_103 ?_
          refine r_goto a153_104 ?_
          refine fin m_44 _ g q2 l1 l2 l3 ?_
          show _ = if rnZ O B l i = 1 ∨ O i (rnP B l i) (l i) > 0 then (1 : Int) else 0
          first
            | rw [if_pos (by omega)]
            | rw [if_neg (by omega)]
        · refine r_loadA a153_96 rfl (by decide) ?_
          refine r_getI (ki := 22) a153_97 ty121 rfl ?_
          rw [up2_k (by decide), up2_k (by decide), up2_c (by decide), up2_c (by decide), l1]
          refine r_ifle a153_100 (fun h_100 => ?_) (fun h_100 => ?_)
          · refine r_pushI a153_107 ?_
            refine fin m_44 _ g q2 l1 l2 l3 ?_
            show _ = if rnZ O B l i = 1 ∨ O i (rnP B l i) (l i) > 0 then (1 : Int) else 0
            first
              | rw [if_pos (by omega)]
              | rw [if_neg (by omega)]
          · refine r_pushI a153_103 ?_
            refine r_goto a153_104 ?_
            refine fin m_44 _ g q2 l1 l2 l3 ?_
            show _ = if rnZ O B l i = 1 ∨ O i (rnP B l i) (l i) > 0 then (1 : Int) else 0
            first
              | rw [if_pos (by omega)]
              | rw [if_neg (by omega)]
  refine r_entry mx153 rfl ?_
  refine r_loadA a153_0 rfl (by decide) ?_
  refine r_pushI a153_1 ?_
  refine r_putI (ki := 28) a153_2 ty121 rfl ?_
  refine r_loadA a153_5 rfl (by decide) ?_
  refine r_pushI a153_6 ?_
  refine r_putI (ki := 29) a153_7 ty121 rfl ?_
  refine r_loadA a153_10 rfl (by decide) ?_
  refine r_pushI a153_11 ?_
  refine r_putZ (ki := 30) a153_12 ty121 rfl (by omega) ?_
  refine r_loadA a153_15 rfl (by decide) ?_
  refine r_pushL a153_16 ?_
  refine r_putL (ki := 31) a153_17 ty121 rfl ?_
  refine r_pushI a153_20 ?_
  refine r_storeI_1 a153_21 rfl ?_
  refine loop (s 0).toNat 0 _ (by omega) ⟨fun x a b => ?_, fun y a b => ?_⟩ ?_ ?_ ⟨?_, ?_, ?_, ?_, fun j hj => ?_⟩
  · rw [up2_c a, up2_c a, up2_c a, up2_c a]
  · rw [up2_k (by omega), up2_k (by omega), up2_k (by omega), up2_k (by omega)]
  · refine RefQ_cong ?_ ?_ ?_ ?_ ?_ ?_ ?_ ?_ ?_ ?_ hQ
    all_goals first
      | rw [up2_c (by decide), up2_c (by decide), up2_c (by decide), up2_c (by decide)]
      | rw [up2_k (by decide), up2_k (by decide), up2_k (by decide), up2_k (by decide)]
  · rw [up2_c (by decide), up2_c (by decide), up2_c (by decide), up2_c (by decide)]
  · rw [up2_k (by decide), up2_k (by decide), up2_k (by decide), up2_s]; rfl
  · rw [up2_k (by decide), up2_k (by decide), up2_s]; rfl
  · rw [up2_k (by decide), up2_s]; rfl
  · rw [up2_s]; rfl
  · exfalso
    have : (j : Int) < ((0 : Nat) : Int) := hj
    omega
def lnS (s : Int → Int) : Int → Int := fun i => s (29 + i)
theorem lnS_r {s : Int → Int} (h : okS s) : ∀ i, 0 ≤ i → i < s 0 → 0 ≤ lnS s i ∧ lnS s i < 3 := by
  have h0 := h.1.1
  intro i a b
  have := (h.2.1 i a (by omega)).2.2.2
  unfold lnS; omega
theorem c_Mo_runsByPlan (d z : Nat) (m : XM) (s : Int → Int) (cl : CLs) (k w : Int) (hd : 5 ≤ d) (hA : AskOk s cl k (s 7) w) (hm : m 122 = s) (h16 : m 121 16 = 1 - w) :
    CV d k_Mo_runsByPlan z m [vR 121, vI k] (fun m' => FrR m m' ∧ RefQ m' s cl k (s 7) w idn ∧ RnS m' (eO s cl k (s 7)) (eT s cl k (s 7) w) (eB s cl k (s 7)) (lnS s) (s 0)) := by
  obtain ⟨dd, rfl⟩ : ∃ dd, d = dd + 1 := ⟨d - 1, by omega⟩
  have hN := hA.1.1.1
  have loop : ∀ (c : Nat) (i : Int) (m1 : XM), i + c = s 0 → 0 ≤ i → FrR m m1 → RefQ m1 s cl k (s 7) w idn → (∀ j, 0 ≤ j → j < i → m1 134 j = lnS s j) →
      RZ (dd + 1) k_Mo_runsByPlan 7 [vR 121, vI k, vI i] [] (zH z m1) (qz z (qv fun m' => FrR m m' ∧ RefQ m' s cl k (s 7) w idn ∧ RnS m' (eO s cl k (s 7)) (eT s cl k (s 7) w) (eB s cl k (s 7)) (lnS s) (s 0))) := by
    intro c
    induction c with
    | zero =>
      intro i m1 hi h0 fr q hl
      have e122 : m1 122 = s := q.1.1
      have hi2 : i = s 0 := by omega
      refine r_loadI a154_7 rfl ?_
      refine r_loadA a154_8 rfl (by decide) ?_
      refine r_getR a154_9 ty121 rf121_1 (by decide) ?_
      refine r_pushI a154_12 ?_
      refine r_iald a154_13 ty122 (by omega) ?_
      rw [e122]
      refine r_icge a154_14 (fun h_14 => ?_) (fun h_14 => ?_)
      · refine r_loadA a154_38 rfl (by decide) ?_
        refine r_callV_1 a154_39 (Nat.le_of_ble_eq_true rfl) (le_mx mx153 (Nat.le_of_ble_eq_true rfl)) (Or.inr (recv_ok ty121 ow153 (by decide))) (c_Mo_runsBy dd z m1 s cl k (s 7) w idn (lnS s) (by omega) hA q (by rw [← hi2]; exact hl) (lnS_r hA.1)) (fun m_39 h_39 => ?_)
        refine r_retVq a154_42 ?_
        exact ⟨FrR.trans fr h_39.1, h_39.2⟩
      · exfalso
        omega
    | succ c ih =>
      intro i m1 hi h0 fr q hl
      have e122 : m1 122 = s := q.1.1
      refine r_loadI a154_7 rfl ?_
      refine r_loadA a154_8 rfl (by decide) ?_
      refine r_getR a154_9 ty121 rf121_1 (by decide) ?_
      refine r_pushI a154_12 ?_
      refine r_iald a154_13 ty122 (by omega) ?_
      rw [e122]
      refine r_icge a154_14 (fun h_14 => ?_) (fun h_14 => ?_)
      · exfalso
        omega
      · refine r_loadA a154_17 rfl (by decide) ?_
        refine r_getR a154_18 ty121 rf121_27 (by decide) ?_
        refine r_loadI a154_21 rfl ?_
        refine r_loadA a154_22 rfl (by decide) ?_
        refine r_getR a154_23 ty121 rf121_1 (by decide) ?_
        refine r_pushI a154_26 ?_
        refine r_loadI a154_28 rfl ?_
        refine r_add a154_29 (by omega) ?_
        refine r_iald a154_30 ty122 (by omega) ?_
        rw [e122]
        refine r_iast a154_31 ty134 (by omega) ?_
        refine r_iinc_2 a154_32 rfl (by omega) ?_
        refine r_goto a154_35 ?_
        refine ih (i + 1) _ (by omega) (by omega) (FrR.trans fr ⟨fun x a b => up2_c (by omega), fun y a b => by rw [up2_c (by decide)]⟩) ?_ (fun j a b => ?_)
        · refine RefQ_cong ?_ ?_ ?_ ?_ ?_ ?_ ?_ ?_ ?_ ?_ q
          all_goals rw [up2_c (by decide)]
        · by_cases e : j = i
          · rw [e, up2_s]; rfl
          · rw [up2_k e]; exact hl j a (by omega)
  refine r_entry mx154 rfl ?_
  refine r_loadA a154_0 rfl (by decide) ?_
  refine r_loadI a154_1 rfl ?_
  refine r_callV_2 a154_2 (Nat.le_of_ble_eq_true rfl) (le_mx mx150 (Nat.le_of_ble_eq_true rfl)) (Or.inr (recv_ok ty121 ow150 (by decide))) (c_Mo_beginsNow dd z m s cl k w (by omega) hA.1 hm h16) (fun m_2 h_2 => ?_)
  refine r_pushI a154_5 ?_
  refine r_storeI_2 a154_6 rfl ?_
  exact loop (s 0).toNat 0 m_2 (by omega) (by omega) (FrL_FrR h_2.1) h_2.2 (fun j a b => by omega)
theorem lQ_r {s : Int → Int} {cl : CLs} {k n w : Int} (hA : AskOk s cl k n w) : ∀ i, 0 ≤ i → i < s 0 → 0 ≤ lQ s cl k n w i ∧ lQ s cl k n w i < 3 := by
  intro i a b
  exact pathL_r ((0 : Int) = 1) (rRg (od := idn) hA (fun i a b => ⟨a, b⟩)) (s 0).toNat 0 3 i (by omega) (by have := hA.1.1.1; omega) (by omega) (by omega)
theorem c_Mo_runsQuickest (d z : Nat) (m : XM) (s : Int → Int) (cl : CLs) (k w : Int) (hd : 17 ≤ d) (hA : AskOk s cl k (s 7) w) (hm : m 122 = s) (h16 : m 121 16 = 1 - w) :
    CV d k_Mo_runsQuickest z m [vR 121, vI k] (fun m' => FrR m m' ∧ RefQ m' s cl k (s 7) w idn ∧ RnS m' (eO s cl k (s 7)) (eT s cl k (s 7) w) (eB s cl k (s 7)) (lQ s cl k (s 7) w) (s 0)) := by
  obtain ⟨dd, rfl⟩ : ∃ dd, d = dd + 1 := ⟨d - 1, by omega⟩
  have hN := hA.1.1.1
  have loop : ∀ (c : Nat) (i : Int) (m1 : XM), i + c = s 0 → 0 ≤ i → FrR m m1 → RefQ m1 s cl k (s 7) w idn → (∀ j, 0 ≤ j → j < s 0 → m1 136 j = lQ s cl k (s 7) w j) → (∀ j, 0 ≤ j → j < i → m1 134 j = lQ s cl k (s 7) w j) →
      RZ (dd + 1) k_Mo_runsQuickest 8 [vR 121, vI k, vI i] [] (zH z m1) (qz z (qv fun m' => FrR m m' ∧ RefQ m' s cl k (s 7) w idn ∧ RnS m' (eO s cl k (s 7)) (eT s cl k (s 7) w) (eB s cl k (s 7)) (lQ s cl k (s 7) w) (s 0))) := by
    intro c
    induction c with
    | zero =>
      intro i m1 hi h0 fr q hb hl
      have e122 : m1 122 = s := q.1.1
      have hi2 : i = s 0 := by omega
      refine r_loadI a179_8 rfl ?_
      refine r_loadA a179_9 rfl (by decide) ?_
      refine r_getR a179_10 ty121 rf121_1 (by decide) ?_
      refine r_pushI a179_13 ?_
      refine r_iald a179_14 ty122 (by omega) ?_
      rw [e122]
      refine r_icge a179_15 (fun h_15 => ?_) (fun h_15 => ?_)
      · refine r_loadA a179_36 rfl (by decide) ?_
        refine r_callV_1 a179_37 (Nat.le_of_ble_eq_true rfl) (le_mx mx153 (Nat.le_of_ble_eq_true rfl)) (Or.inr (recv_ok ty121 ow153 (by decide))) (c_Mo_runsBy dd z m1 s cl k (s 7) w idn (lQ s cl k (s 7) w) (by omega) hA q (by rw [← hi2]; exact hl) (lQ_r hA)) (fun m_37 h_37 => ?_)
        refine r_retVq a179_40 ?_
        exact ⟨FrR.trans fr h_37.1, h_37.2⟩
      · exfalso
        omega
    | succ c ih =>
      intro i m1 hi h0 fr q hb hl
      have e122 : m1 122 = s := q.1.1
      refine r_loadI a179_8 rfl ?_
      refine r_loadA a179_9 rfl (by decide) ?_
      refine r_getR a179_10 ty121 rf121_1 (by decide) ?_
      refine r_pushI a179_13 ?_
      refine r_iald a179_14 ty122 (by omega) ?_
      rw [e122]
      refine r_icge a179_15 (fun h_15 => ?_) (fun h_15 => ?_)
      · exfalso
        omega
      · refine r_loadA a179_18 rfl (by decide) ?_
        refine r_getR a179_19 ty121 rf121_27 (by decide) ?_
        refine r_loadI a179_22 rfl ?_
        refine r_loadA a179_23 rfl (by decide) ?_
        refine r_getR a179_24 ty121 rf121_33 (by decide) ?_
        refine r_loadI a179_27 rfl ?_
        refine r_iald a179_28 ty136 (by omega) ?_
        rw [hb i h0 (by omega)]
        refine r_iast a179_29 ty134 (by omega) ?_
        refine r_iinc_2 a179_30 rfl (by omega) ?_
        refine r_goto a179_33 ?_
        refine ih (i + 1) _ (by omega) (by omega) (FrR.trans fr ⟨fun x a b => up2_c (by omega), fun y a b => by rw [up2_c (by decide)]⟩) ?_ (fun j a b => by rw [up2_c (by decide)]; exact hb j a b) (fun j a b => ?_)
        · refine RefQ_cong ?_ ?_ ?_ ?_ ?_ ?_ ?_ ?_ ?_ ?_ q
          all_goals rw [up2_c (by decide)]
        · by_cases e : j = i
          · rw [e, up2_s]
          · rw [up2_k e]; exact hl j a (by omega)
  refine r_entry mx179 rfl ?_
  refine r_loadA a179_0 rfl (by decide) ?_
  refine r_loadI a179_1 rfl ?_
  refine r_callI_2 a179_2 (Nat.le_of_ble_eq_true rfl) (le_mx mx166 (Nat.le_of_ble_eq_true rfl)) (Or.inr (recv_ok ty121 ow166 (by decide))) (c_Mo_leastNow dd z m s cl k w (by omega) hA hm h16) (fun x_2 m_2 h_2 => ?_)
  refine r_pop a179_5 rfl ?_
  refine r_pushI a179_6 ?_
  refine r_storeI_2 a179_7 rfl ?_
  obtain ⟨g1, g2, g3, g4⟩ := h_2
  exact loop (s 0).toNat 0 m_2 (by omega) (by omega) (FrL_FrR g1) g2 g4 (fun j a b => by omega)
