-- ===== the class: the sums of the clauses =====
theorem ClR_len {m : XM} {b : Nat} : ∀ {cs : CLs} {i e i' e' : Int}, ClR m b i e cs i' e' → i' = i + cs.length ∧ e ≤ e' := by
  intro cs
  induction cs with
  | nil => intro i e i' e' h; obtain ⟨h1, h2⟩ := h; rw [List.length_nil]; push_cast; omega
  | cons c cs ih =>
    intro i e i' e' ⟨_, _, _, _, h⟩
    have := ih h
    rw [List.length_cons]; push_cast; omega
theorem evF_hold {v : Int → Nat → Bool} {ts : List Int} {a : Nat → Bool} (h : evF v ts [] = [a]) (p : Nat) : a p = (evB (fun t => v t p) ts []).headD false := by
  have := evF_at v p ts []
  rw [h] at this
  show a p = (evB (fun t => v t p) ts (([] : List (Nat → Bool)).map fun f => f p)).headD false
  rw [← this]; rfl
/-- the facts' truths at a pace -/
def vAt (f : Int → Int) (p : Nat) : Int → Bool := fun t => tkH t (fcP f p)
theorem ClR_cong {m m' : XM} {b : Nat} (h1 : m' (b + 1) = m (b + 1)) (h2 : m' (b + 2) = m (b + 2)) (h3 : m' (b + 3) = m (b + 3)) (h4 : m' (b + 4) = m (b + 4)) :
    ∀ {cs : CLs} {i e i' e' : Int}, ClR m b i e cs i' e' → ClR m' b i e cs i' e' := by
  intro cs
  induction cs with
  | nil => intro i e i' e' h; exact h
  | cons c cs ih =>
    intro i e i' e' ⟨a1, a2, a3, a4, h⟩
    exact ⟨by rw [h1]; exact a1, by rw [h2]; exact a2, by rw [h3]; exact a3, by rw [h4]; exact a4, ih h⟩
theorem c_Pa_sum_85 (d z : Nat) (m : XM) (cl : CLs) (w : Int) (hd : 2 ≤ d) (hw : w = 0 ∨ w = 1) (hF : ∀ w, 0 ≤ w → w < 6 → 0 ≤ m 90 w ∧ m 90 w ≤ 9)
    (hcl : ∃ en, en ≤ 100 ∧ ClR m 43 0 0 cl (m 43 2) en) (hok : ∀ c ∈ cl, okC c) (h10 : m 43 2 ≤ 10) :
    CV d k_Pa_sumClauses z m [vR 85, vR 43, vI w] (fun m' => (∀ x, x ≠ 91 → x ≠ 92 → x ≠ 48 → m' x = m x) ∧
      ∀ p : Nat, p < 10 → m' 91 p = sumC false (vAt (m 90) p) cl ∧ m' 92 p = if w = 1 then sumC true (vAt (m 90) p) cl else 0) := by
  obtain ⟨dd, rfl⟩ : ∃ dd, d = dd + 1 := ⟨d - 1, by omega⟩
  obtain ⟨en, hen, hcl⟩ := hcl
  have loop : ∀ (cs : CLs) (m1 : XM) (i e : Int), (∀ c ∈ cs, okC c) → 0 ≤ i → 0 ≤ e → (i = 0 → e = 0) → (0 < i → m 46 (i - 1) = e) → ClR m 43 i e cs (m 43 2) en →
      (∀ x, x ≠ 91 → x ≠ 92 → x ≠ 48 → m1 x = m x) →
      (∀ p : Nat, p < 10 → m1 91 p + sumC false (vAt (m 90) p) cs = sumC false (vAt (m 90) p) cl ∧
        m1 92 p + (if w = 1 then sumC true (vAt (m 90) p) cs else 0) = if w = 1 then sumC true (vAt (m 90) p) cl else 0) →
      (∀ k, 0 ≤ k → k < 10 → (0 ≤ m1 91 k ∧ m1 91 k ≤ 100 * i) ∧ (0 ≤ m1 92 k ∧ m1 92 k ≤ 100 * i)) →
      RZ (dd + 1) k_Pa_sumClauses 30 [vR 85, vR 43, vI w, vI i] [] (zH z m1) (qz z (qv (fun m' => (∀ x, x ≠ 91 → x ≠ 92 → x ≠ 48 → m' x = m x) ∧
      ∀ p : Nat, p < 10 → m' 91 p = sumC false (vAt (m 90) p) cl ∧ m' 92 p = if w = 1 then sumC true (vAt (m 90) p) cl else 0))) := by
    intro cs
    induction cs with
    | nil =>
      intro m1 i e hoc hi he h1 h2 hC hk hs hb
      have e43 : m1 43 2 = m 43 2 := by rw [hk 43 (by decide) (by decide) (by decide)]
      obtain ⟨hC1, _⟩ := hC
      refine r_loadI a26_30 rfl ?_
      refine r_loadA a26_31 rfl (by decide) ?_
      refine r_getI (ki := 2) a26_32 ty43 rfl ?_
      refine r_icge a26_35 (fun h_35 => ?_) (fun h_35 => ?_)
      · refine r_retVq a26_104 ?_
        refine ⟨hk, fun p hp => ?_⟩
        obtain ⟨q1, q2⟩ := hs p hp
        refine ⟨?_, ?_⟩
        · rw [← q1]; show _ = _ + (0 : Int); omega
        · rw [← q2]; split <;> (show _ = _ + (0 : Int); omega)
      · exfalso
        omega
    | cons c cs ih =>
      intro m1 i e hoc hi he h1 h2 hC hk hs hb
      have e43 : m1 43 2 = m 43 2 := by rw [hk 43 (by decide) (by decide) (by decide)]
      have hlen := ClR_len hC
      rw [List.length_cons] at hlen; push_cast at hlen
      obtain ⟨g1, g2, g3, g4, g5⟩ := hC
      have hlen2 := ClR_len g5
      have hoc1 := hoc c (List.mem_cons_self ..)
      obtain ⟨o1, o2⟩ := hoc1
      have e44 : m1 44 i = if c.1 then 1 else 0 := by rw [hk 44 (by decide) (by decide) (by decide)]; exact g1
      have e90 : m1 90 = m 90 := hk 90 (by decide) (by decide) (by decide)
      have fin : ∀ m2 : XM, (∀ x, x ≠ 91 → x ≠ 92 → x ≠ 48 → m2 x = m x) →
          (∀ p : Nat, p < 10 → m2 91 p = m1 91 p + (if c.1 = false ∧ holdsC (vAt (m 90) p) c = true then c.2.1 else 0) ∧
            m2 92 p = m1 92 p + (if w = 1 then (if c.1 = true ∧ holdsC (vAt (m 90) p) c = true then c.2.1 else 0) else 0)) →
          RZ (dd + 1) k_Pa_sumClauses 98 [vR 85, vR 43, vI w, vI i] [] (zH z m2) (qz z (qv (fun m' => (∀ x, x ≠ 91 → x ≠ 92 → x ≠ 48 → m' x = m x) ∧
          ∀ p : Nat, p < 10 → m' 91 p = sumC false (vAt (m 90) p) cl ∧ m' 92 p = if w = 1 then sumC true (vAt (m 90) p) cl else 0))) := by
        intro m2 k2 s2
        refine r_iinc_3 a26_98 rfl (by omega) ?_
        refine r_goto a26_101 ?_
        refine ih m2 (i + 1) (e + c.2.2.length) (fun x hx => hoc x (List.mem_cons_of_mem _ hx)) (by omega) (by omega) (by omega) (fun _ => by rw [Int.add_sub_cancel]; exact g3) g5 k2 (fun p hp => ?_) (fun k q1 q2 => ?_)
        · obtain ⟨r1, r2⟩ := hs p hp
          obtain ⟨t1, t2⟩ := s2 p hp
          refine ⟨?_, ?_⟩
          · rw [← r1, t1]; show _ + sumC false _ cs = _ + ((if c.1 = false ∧ _ then _ else _) + sumC false _ cs); omega
          · rw [← r2, t2]
            split
            · show _ + sumC true _ cs = _ + ((if c.1 = true ∧ _ then _ else _) + sumC true _ cs); omega
            · omega
        · obtain ⟨b1, b2⟩ := hb k q1 q2
          obtain ⟨t1, t2⟩ := s2 k.toNat (by omega)
          have ek : ((k.toNat : Nat) : Int) = k := Int.toNat_of_nonneg q1
          rw [ek] at t1 t2
          rw [t1, t2]
          refine ⟨?_, ?_⟩
          · split <;> omega
          · split
            · split <;> omega
            · omega
      have call : CI dd k_Cl_pacesOf z m1 [vR 43, vI i, vR 90] (fun x m' => (∃ g, m' = upC m1 48 g) ∧
          ∃ a, evF (fun t p => tkH t (fcP (m1 90) p)) c.2.2 [] = [a] ∧ x = MK a) :=
        c_Cl_pacesOf_90 dd z m1 i e c.2.2 (by omega) (by omega) (by rw [e90]; exact hF) he h1 (fun q => by rw [hk 46 (by decide) (by decide) (by decide)]; exact h2 q)
          (by rw [hk 46 (by decide) (by decide) (by decide)]; exact g3) (by omega) (by rw [hk 47 (by decide) (by decide) (by decide)]; exact g4) o2
      have ea : ∀ g : Int → Int, upC m1 48 g 45 i = c.2.1 := fun g => by
        rw [upC_n (by decide), hk 45 (by decide) (by decide) (by decide)]; exact g2
      refine r_loadI a26_30 rfl ?_
      refine r_loadA a26_31 rfl (by decide) ?_
      refine r_getI (ki := 2) a26_32 ty43 rfl ?_
      refine r_icge a26_35 (fun h_35 => ?_) (fun h_35 => ?_)
      · exfalso
        omega
      · refine r_loadA a26_38 rfl (by decide) ?_
        refine r_getR a26_39 ty43 rf43_4 (by decide) ?_
        refine r_loadI a26_42 rfl ?_
        refine r_bald a26_43 ty44 (by omega) ?_
        refine r_ifne a26_44 (fun h_44 => ?_) (fun h_44 => ?_)
        · refine r_loadI a26_72 rfl ?_
          refine r_ifeq a26_73 (fun h_73 => ?_) (fun h_73 => ?_)
          · have c1 : c.1 = true := by
              by_cases q : c.1 = true
              · exact q
              · rw [if_neg q] at e44; exact absurd e44 h_44
            first
              | (rw [h_95]
                 refine fin _ (fun x x1 x2 x3 => by rw [upC_n x2, upC_n x3]; exact hk x x1 x2 x3) (fun p hp => ⟨?_, ?_⟩)
                 · rw [upC_n (by decide), upC_n (by decide)]
                   rw [if_neg (fun h => absurd (c1.symm.trans h.1) (by decide))]; omega
                 · rw [upC_s, upC_n (by decide)]
                   unfold addP
                   rw [if_pos (by omega), evF_hold ha]
                   rw [Int.toNat_natCast, e90, if_pos (show w = 1 by omega)]
                   congr 1
                   show (if holdsC (vAt (m 90) p) c = true then _ else _) = _
                   by_cases q : holdsC (vAt (m 90) p) c = true
                   · rw [if_pos q, if_pos ⟨c1, q⟩]
                   · rw [if_neg q, if_neg (fun h => q h.2)])
              | (refine fin _ hk (fun p hp => ⟨?_, ?_⟩)
                 · rw [if_neg (fun h => absurd (c1.symm.trans h.1) (by decide))]; omega
                 · rw [if_neg (show ¬ w = 1 by omega)]; omega)
          · refine r_loadA a26_76 rfl (by decide) ?_
            refine r_getR a26_77 ty85 rf85_7 (by decide) ?_
            refine r_loadA a26_80 rfl (by decide) ?_
            refine r_loadI a26_81 rfl ?_
            refine r_loadA a26_82 rfl (by decide) ?_
            refine r_getR a26_83 ty85 rf85_5 (by decide) ?_
            refine r_callI_3 a26_86 (Nat.le_of_ble_eq_true rfl) (le_mx mx9 (Nat.le_of_ble_eq_true rfl)) (Or.inr (recv_ok ty43 ow9 (by decide))) (call) (fun x_86 m_86 h_86 => ?_)
            obtain ⟨⟨g, hm_86⟩, a, ha, hx_86⟩ := h_86
            rw [hm_86, hx_86]
            refine r_loadA a26_89 rfl (by decide) ?_
            refine r_getR a26_90 ty43 rf43_5 (by decide) ?_
            refine r_loadI a26_93 rfl ?_
            refine r_iald a26_94 ty45 (by omega) ?_
            rw [ea g]
            refine r_callV_3 a26_95 (Nat.le_of_ble_eq_true rfl) (le_mx mx27 (Nat.le_of_ble_eq_true rfl)) (Or.inl rfl) (c_Pa_addAt_92 dd z (upC m1 48 g) a c.2.1 o1 (fun k q1 q2 => by rw [upC_n (by decide)]; have := (hb k q1 q2).2; omega)) (fun m_95 h_95 => ?_)
            have c1 : c.1 = true := by
              by_cases q : c.1 = true
              · exact q
              · rw [if_neg q] at e44; exact absurd e44 h_44
            first
              | (rw [h_95]
                 refine fin _ (fun x x1 x2 x3 => by rw [upC_n x2, upC_n x3]; exact hk x x1 x2 x3) (fun p hp => ⟨?_, ?_⟩)
                 · rw [upC_n (by decide), upC_n (by decide)]
                   rw [if_neg (fun h => absurd (c1.symm.trans h.1) (by decide))]; omega
                 · rw [upC_s, upC_n (by decide)]
                   unfold addP
                   rw [if_pos (by omega), evF_hold ha]
                   rw [Int.toNat_natCast, e90, if_pos (show w = 1 by omega)]
                   congr 1
                   show (if holdsC (vAt (m 90) p) c = true then _ else _) = _
                   by_cases q : holdsC (vAt (m 90) p) c = true
                   · rw [if_pos q, if_pos ⟨c1, q⟩]
                   · rw [if_neg q, if_neg (fun h => q h.2)])
              | (refine fin _ hk (fun p hp => ⟨?_, ?_⟩)
                 · rw [if_neg (fun h => absurd (c1.symm.trans h.1) (by decide))]; omega
                 · rw [if_neg (show ¬ w = 1 by omega)]; omega)
        · refine r_loadA a26_47 rfl (by decide) ?_
          refine r_getR a26_48 ty85 rf85_6 (by decide) ?_
          refine r_loadA a26_51 rfl (by decide) ?_
          refine r_loadI a26_52 rfl ?_
          refine r_loadA a26_53 rfl (by decide) ?_
          refine r_getR a26_54 ty85 rf85_5 (by decide) ?_
          refine r_callI_3 a26_57 (Nat.le_of_ble_eq_true rfl) (le_mx mx9 (Nat.le_of_ble_eq_true rfl)) (Or.inr (recv_ok ty43 ow9 (by decide))) (call) (fun x_57 m_57 h_57 => ?_)
          obtain ⟨⟨g, hm_57⟩, a, ha, hx_57⟩ := h_57
          rw [hm_57, hx_57]
          refine r_loadA a26_60 rfl (by decide) ?_
          refine r_getR a26_61 ty43 rf43_5 (by decide) ?_
          refine r_loadI a26_64 rfl ?_
          refine r_iald a26_65 ty45 (by omega) ?_
          rw [ea g]
          refine r_callV_3 a26_66 (Nat.le_of_ble_eq_true rfl) (le_mx mx27 (Nat.le_of_ble_eq_true rfl)) (Or.inl rfl) (c_Pa_addAt_91 dd z (upC m1 48 g) a c.2.1 o1 (fun k q1 q2 => by rw [upC_n (by decide)]; have := (hb k q1 q2).1; omega)) (fun m_66 h_66 => ?_)
          refine r_goto a26_69 ?_
          have c1 : c.1 = false := by
            by_cases q : c.1 = true
            · rw [q] at e44; exact absurd (e44.symm.trans (by omega)) (by decide)
            · exact Bool.eq_false_iff.mpr q
          rw [h_66]
          refine fin _ (fun x x1 x2 x3 => by rw [upC_n x1, upC_n x3]; exact hk x x1 x2 x3) (fun p hp => ⟨?_, ?_⟩)
          · rw [upC_s, upC_n (by decide)]
            unfold addP
            rw [if_pos (by omega), evF_hold ha]
            rw [Int.toNat_natCast, e90]
            congr 1
            show (if holdsC (vAt (m 90) p) c = true then _ else _) = _
            by_cases q : holdsC (vAt (m 90) p) c = true
            · rw [if_pos q, if_pos ⟨c1, q⟩]
            · rw [if_neg q, if_neg (fun h => q h.2)]
          · rw [upC_n (by decide), upC_n (by decide)]
            have : (if c.1 = true ∧ holdsC (vAt (m 90) p) c = true then c.2.1 else 0) = 0 := if_neg (fun h => absurd (c1.symm.trans h.1) (by decide))
            rw [this]; split <;> omega
  have zero : ∀ (n : Nat) (k : Int) (m1 : XM), 10 < k + n → 0 ≤ k → k ≤ 10 → (∀ x, x ≠ 91 → x ≠ 92 → x ≠ 48 → m1 x = m x) →
      (∀ j, 0 ≤ j → j < k → m1 91 j = 0 ∧ m1 92 j = 0) →
      RZ (dd + 1) k_Pa_sumClauses 2 [vR 85, vR 43, vI w, vI k] [] (zH z m1) (qz z (qv (fun m' => (∀ x, x ≠ 91 → x ≠ 92 → x ≠ 48 → m' x = m x) ∧
      ∀ p : Nat, p < 10 → m' 91 p = sumC false (vAt (m 90) p) cl ∧ m' 92 p = if w = 1 then sumC true (vAt (m 90) p) cl else 0))) := by
    intro n
    induction n with
    | zero => intro k m1 q1 q2 q3; exfalso; omega
    | succ n ih =>
      intro k m1 q1 q2 q3 hk hz
      refine r_loadI a26_2 rfl ?_
      refine r_pushI a26_3 ?_
      refine r_icge a26_5 (fun h_5 => ?_) (fun h_5 => ?_)
      · have hk10 : k = 10 := by omega
        refine r_pushI a26_28 ?_
        refine r_storeI_3 a26_29 rfl ?_
        refine loop cl m1 0 0 hok (by omega) (by omega) (fun _ => rfl) (fun q => absurd q (by omega)) hcl hk (fun p hp => ?_) (fun j r1 r2 => ?_)
        · obtain ⟨t1, t2⟩ := hz p (by omega) (by omega)
          rw [t1, t2]
          refine ⟨by omega, by split <;> omega⟩
        · obtain ⟨t1, t2⟩ := hz j r1 (by omega)
          rw [t1, t2]; omega
      · refine r_loadA a26_8 rfl (by decide) ?_
        refine r_getR a26_9 ty85 rf85_6 (by decide) ?_
        refine r_loadI a26_12 rfl ?_
        refine r_pushI a26_13 ?_
        refine r_iast a26_14 ty91 (by omega) ?_
        refine r_loadA a26_15 rfl (by decide) ?_
        refine r_getR a26_16 ty85 rf85_7 (by decide) ?_
        refine r_loadI a26_19 rfl ?_
        refine r_pushI a26_20 ?_
        refine r_iast a26_21 ty92 (by omega) ?_
        refine r_iinc_3 a26_22 rfl (by omega) ?_
        refine r_goto a26_25 ?_
        refine ih (k + 1) _ (by omega) (by omega) (by omega) (fun x x1 x2 x3 => by rw [up2_c x2, up2_c x1]; exact hk x x1 x2 x3) (fun j r1 r2 => ⟨?_, ?_⟩)
        · rw [up2_c (by decide), up2_C, upC_s, upi_at]
          by_cases q : j = k
          · rw [if_pos q]
          · rw [if_neg q]; exact (hz j r1 (by omega)).1
        · rw [up2_C, upC_s, upi_at]
          by_cases q : j = k
          · rw [if_pos q]
          · rw [if_neg q, up2_c (by decide)]; exact (hz j r1 (by omega)).2
  refine r_entry mx26 rfl ?_
  refine r_pushI a26_0 ?_
  refine r_storeI_3 a26_1 rfl ?_
  exact zero 11 0 m (by omega) (by omega) (by omega) (fun _ _ _ _ => rfl) (fun j q1 q2 => absurd q1 (by omega))
theorem c_Pa_sum_98 (d z : Nat) (m : XM) (cl : CLs) (w : Int) (hd : 2 ≤ d) (hw : w = 0 ∨ w = 1) (hF : ∀ w, 0 ≤ w → w < 6 → 0 ≤ m 103 w ∧ m 103 w ≤ 9)
    (hcl : ∃ en, en ≤ 100 ∧ ClR m 43 0 0 cl (m 43 2) en) (hok : ∀ c ∈ cl, okC c) (h10 : m 43 2 ≤ 10) :
    CV d k_Pa_sumClauses z m [vR 98, vR 43, vI w] (fun m' => (∀ x, x ≠ 104 → x ≠ 105 → x ≠ 48 → m' x = m x) ∧
      ∀ p : Nat, p < 10 → m' 104 p = sumC false (vAt (m 103) p) cl ∧ m' 105 p = if w = 1 then sumC true (vAt (m 103) p) cl else 0) := by
  obtain ⟨dd, rfl⟩ : ∃ dd, d = dd + 1 := ⟨d - 1, by omega⟩
  obtain ⟨en, hen, hcl⟩ := hcl
  have loop : ∀ (cs : CLs) (m1 : XM) (i e : Int), (∀ c ∈ cs, okC c) → 0 ≤ i → 0 ≤ e → (i = 0 → e = 0) → (0 < i → m 46 (i - 1) = e) → ClR m 43 i e cs (m 43 2) en →
      (∀ x, x ≠ 104 → x ≠ 105 → x ≠ 48 → m1 x = m x) →
      (∀ p : Nat, p < 10 → m1 104 p + sumC false (vAt (m 103) p) cs = sumC false (vAt (m 103) p) cl ∧
        m1 105 p + (if w = 1 then sumC true (vAt (m 103) p) cs else 0) = if w = 1 then sumC true (vAt (m 103) p) cl else 0) →
      (∀ k, 0 ≤ k → k < 10 → (0 ≤ m1 104 k ∧ m1 104 k ≤ 100 * i) ∧ (0 ≤ m1 105 k ∧ m1 105 k ≤ 100 * i)) →
      RZ (dd + 1) k_Pa_sumClauses 30 [vR 98, vR 43, vI w, vI i] [] (zH z m1) (qz z (qv (fun m' => (∀ x, x ≠ 104 → x ≠ 105 → x ≠ 48 → m' x = m x) ∧
      ∀ p : Nat, p < 10 → m' 104 p = sumC false (vAt (m 103) p) cl ∧ m' 105 p = if w = 1 then sumC true (vAt (m 103) p) cl else 0))) := by
    intro cs
    induction cs with
    | nil =>
      intro m1 i e hoc hi he h1 h2 hC hk hs hb
      have e43 : m1 43 2 = m 43 2 := by rw [hk 43 (by decide) (by decide) (by decide)]
      obtain ⟨hC1, _⟩ := hC
      refine r_loadI a26_30 rfl ?_
      refine r_loadA a26_31 rfl (by decide) ?_
      refine r_getI (ki := 2) a26_32 ty43 rfl ?_
      refine r_icge a26_35 (fun h_35 => ?_) (fun h_35 => ?_)
      · refine r_retVq a26_104 ?_
        refine ⟨hk, fun p hp => ?_⟩
        obtain ⟨q1, q2⟩ := hs p hp
        refine ⟨?_, ?_⟩
        · rw [← q1]; show _ = _ + (0 : Int); omega
        · rw [← q2]; split <;> (show _ = _ + (0 : Int); omega)
      · exfalso
        omega
    | cons c cs ih =>
      intro m1 i e hoc hi he h1 h2 hC hk hs hb
      have e43 : m1 43 2 = m 43 2 := by rw [hk 43 (by decide) (by decide) (by decide)]
      have hlen := ClR_len hC
      rw [List.length_cons] at hlen; push_cast at hlen
      obtain ⟨g1, g2, g3, g4, g5⟩ := hC
      have hlen2 := ClR_len g5
      have hoc1 := hoc c (List.mem_cons_self ..)
      obtain ⟨o1, o2⟩ := hoc1
      have e44 : m1 44 i = if c.1 then 1 else 0 := by rw [hk 44 (by decide) (by decide) (by decide)]; exact g1
      have e90 : m1 103 = m 103 := hk 103 (by decide) (by decide) (by decide)
      have fin : ∀ m2 : XM, (∀ x, x ≠ 104 → x ≠ 105 → x ≠ 48 → m2 x = m x) →
          (∀ p : Nat, p < 10 → m2 104 p = m1 104 p + (if c.1 = false ∧ holdsC (vAt (m 103) p) c = true then c.2.1 else 0) ∧
            m2 105 p = m1 105 p + (if w = 1 then (if c.1 = true ∧ holdsC (vAt (m 103) p) c = true then c.2.1 else 0) else 0)) →
          RZ (dd + 1) k_Pa_sumClauses 98 [vR 98, vR 43, vI w, vI i] [] (zH z m2) (qz z (qv (fun m' => (∀ x, x ≠ 104 → x ≠ 105 → x ≠ 48 → m' x = m x) ∧
          ∀ p : Nat, p < 10 → m' 104 p = sumC false (vAt (m 103) p) cl ∧ m' 105 p = if w = 1 then sumC true (vAt (m 103) p) cl else 0))) := by
        intro m2 k2 s2
        refine r_iinc_3 a26_98 rfl (by omega) ?_
        refine r_goto a26_101 ?_
        refine ih m2 (i + 1) (e + c.2.2.length) (fun x hx => hoc x (List.mem_cons_of_mem _ hx)) (by omega) (by omega) (by omega) (fun _ => by rw [Int.add_sub_cancel]; exact g3) g5 k2 (fun p hp => ?_) (fun k q1 q2 => ?_)
        · obtain ⟨r1, r2⟩ := hs p hp
          obtain ⟨t1, t2⟩ := s2 p hp
          refine ⟨?_, ?_⟩
          · rw [← r1, t1]; show _ + sumC false _ cs = _ + ((if c.1 = false ∧ _ then _ else _) + sumC false _ cs); omega
          · rw [← r2, t2]
            split
            · show _ + sumC true _ cs = _ + ((if c.1 = true ∧ _ then _ else _) + sumC true _ cs); omega
            · omega
        · obtain ⟨b1, b2⟩ := hb k q1 q2
          obtain ⟨t1, t2⟩ := s2 k.toNat (by omega)
          have ek : ((k.toNat : Nat) : Int) = k := Int.toNat_of_nonneg q1
          rw [ek] at t1 t2
          rw [t1, t2]
          refine ⟨?_, ?_⟩
          · split <;> omega
          · split
            · split <;> omega
            · omega
      have call : CI dd k_Cl_pacesOf z m1 [vR 43, vI i, vR 103] (fun x m' => (∃ g, m' = upC m1 48 g) ∧
          ∃ a, evF (fun t p => tkH t (fcP (m1 103) p)) c.2.2 [] = [a] ∧ x = MK a) :=
        c_Cl_pacesOf_103 dd z m1 i e c.2.2 (by omega) (by omega) (by rw [e90]; exact hF) he h1 (fun q => by rw [hk 46 (by decide) (by decide) (by decide)]; exact h2 q)
          (by rw [hk 46 (by decide) (by decide) (by decide)]; exact g3) (by omega) (by rw [hk 47 (by decide) (by decide) (by decide)]; exact g4) o2
      have ea : ∀ g : Int → Int, upC m1 48 g 45 i = c.2.1 := fun g => by
        rw [upC_n (by decide), hk 45 (by decide) (by decide) (by decide)]; exact g2
      refine r_loadI a26_30 rfl ?_
      refine r_loadA a26_31 rfl (by decide) ?_
      refine r_getI (ki := 2) a26_32 ty43 rfl ?_
      refine r_icge a26_35 (fun h_35 => ?_) (fun h_35 => ?_)
      · exfalso
        omega
      · refine r_loadA a26_38 rfl (by decide) ?_
        refine r_getR a26_39 ty43 rf43_4 (by decide) ?_
        refine r_loadI a26_42 rfl ?_
        refine r_bald a26_43 ty44 (by omega) ?_
        refine r_ifne a26_44 (fun h_44 => ?_) (fun h_44 => ?_)
        · refine r_loadI a26_72 rfl ?_
          refine r_ifeq a26_73 (fun h_73 => ?_) (fun h_73 => ?_)
          · have c1 : c.1 = true := by
              by_cases q : c.1 = true
              · exact q
              · rw [if_neg q] at e44; exact absurd e44 h_44
            first
              | (rw [h_95]
                 refine fin _ (fun x x1 x2 x3 => by rw [upC_n x2, upC_n x3]; exact hk x x1 x2 x3) (fun p hp => ⟨?_, ?_⟩)
                 · rw [upC_n (by decide), upC_n (by decide)]
                   rw [if_neg (fun h => absurd (c1.symm.trans h.1) (by decide))]; omega
                 · rw [upC_s, upC_n (by decide)]
                   unfold addP
                   rw [if_pos (by omega), evF_hold ha]
                   rw [Int.toNat_natCast, e90, if_pos (show w = 1 by omega)]
                   congr 1
                   show (if holdsC (vAt (m 103) p) c = true then _ else _) = _
                   by_cases q : holdsC (vAt (m 103) p) c = true
                   · rw [if_pos q, if_pos ⟨c1, q⟩]
                   · rw [if_neg q, if_neg (fun h => q h.2)])
              | (refine fin _ hk (fun p hp => ⟨?_, ?_⟩)
                 · rw [if_neg (fun h => absurd (c1.symm.trans h.1) (by decide))]; omega
                 · rw [if_neg (show ¬ w = 1 by omega)]; omega)
          · refine r_loadA a26_76 rfl (by decide) ?_
            refine r_getR a26_77 ty98 rf98_7 (by decide) ?_
            refine r_loadA a26_80 rfl (by decide) ?_
            refine r_loadI a26_81 rfl ?_
            refine r_loadA a26_82 rfl (by decide) ?_
            refine r_getR a26_83 ty98 rf98_5 (by decide) ?_
            refine r_callI_3 a26_86 (Nat.le_of_ble_eq_true rfl) (le_mx mx9 (Nat.le_of_ble_eq_true rfl)) (Or.inr (recv_ok ty43 ow9 (by decide))) (call) (fun x_86 m_86 h_86 => ?_)
            obtain ⟨⟨g, hm_86⟩, a, ha, hx_86⟩ := h_86
            rw [hm_86, hx_86]
            refine r_loadA a26_89 rfl (by decide) ?_
            refine r_getR a26_90 ty43 rf43_5 (by decide) ?_
            refine r_loadI a26_93 rfl ?_
            refine r_iald a26_94 ty45 (by omega) ?_
            rw [ea g]
            refine r_callV_3 a26_95 (Nat.le_of_ble_eq_true rfl) (le_mx mx27 (Nat.le_of_ble_eq_true rfl)) (Or.inl rfl) (c_Pa_addAt_105 dd z (upC m1 48 g) a c.2.1 o1 (fun k q1 q2 => by rw [upC_n (by decide)]; have := (hb k q1 q2).2; omega)) (fun m_95 h_95 => ?_)
            have c1 : c.1 = true := by
              by_cases q : c.1 = true
              · exact q
              · rw [if_neg q] at e44; exact absurd e44 h_44
            first
              | (rw [h_95]
                 refine fin _ (fun x x1 x2 x3 => by rw [upC_n x2, upC_n x3]; exact hk x x1 x2 x3) (fun p hp => ⟨?_, ?_⟩)
                 · rw [upC_n (by decide), upC_n (by decide)]
                   rw [if_neg (fun h => absurd (c1.symm.trans h.1) (by decide))]; omega
                 · rw [upC_s, upC_n (by decide)]
                   unfold addP
                   rw [if_pos (by omega), evF_hold ha]
                   rw [Int.toNat_natCast, e90, if_pos (show w = 1 by omega)]
                   congr 1
                   show (if holdsC (vAt (m 103) p) c = true then _ else _) = _
                   by_cases q : holdsC (vAt (m 103) p) c = true
                   · rw [if_pos q, if_pos ⟨c1, q⟩]
                   · rw [if_neg q, if_neg (fun h => q h.2)])
              | (refine fin _ hk (fun p hp => ⟨?_, ?_⟩)
                 · rw [if_neg (fun h => absurd (c1.symm.trans h.1) (by decide))]; omega
                 · rw [if_neg (show ¬ w = 1 by omega)]; omega)
        · refine r_loadA a26_47 rfl (by decide) ?_
          refine r_getR a26_48 ty98 rf98_6 (by decide) ?_
          refine r_loadA a26_51 rfl (by decide) ?_
          refine r_loadI a26_52 rfl ?_
          refine r_loadA a26_53 rfl (by decide) ?_
          refine r_getR a26_54 ty98 rf98_5 (by decide) ?_
          refine r_callI_3 a26_57 (Nat.le_of_ble_eq_true rfl) (le_mx mx9 (Nat.le_of_ble_eq_true rfl)) (Or.inr (recv_ok ty43 ow9 (by decide))) (call) (fun x_57 m_57 h_57 => ?_)
          obtain ⟨⟨g, hm_57⟩, a, ha, hx_57⟩ := h_57
          rw [hm_57, hx_57]
          refine r_loadA a26_60 rfl (by decide) ?_
          refine r_getR a26_61 ty43 rf43_5 (by decide) ?_
          refine r_loadI a26_64 rfl ?_
          refine r_iald a26_65 ty45 (by omega) ?_
          rw [ea g]
          refine r_callV_3 a26_66 (Nat.le_of_ble_eq_true rfl) (le_mx mx27 (Nat.le_of_ble_eq_true rfl)) (Or.inl rfl) (c_Pa_addAt_104 dd z (upC m1 48 g) a c.2.1 o1 (fun k q1 q2 => by rw [upC_n (by decide)]; have := (hb k q1 q2).1; omega)) (fun m_66 h_66 => ?_)
          refine r_goto a26_69 ?_
          have c1 : c.1 = false := by
            by_cases q : c.1 = true
            · rw [q] at e44; exact absurd (e44.symm.trans (by omega)) (by decide)
            · exact Bool.eq_false_iff.mpr q
          rw [h_66]
          refine fin _ (fun x x1 x2 x3 => by rw [upC_n x1, upC_n x3]; exact hk x x1 x2 x3) (fun p hp => ⟨?_, ?_⟩)
          · rw [upC_s, upC_n (by decide)]
            unfold addP
            rw [if_pos (by omega), evF_hold ha]
            rw [Int.toNat_natCast, e90]
            congr 1
            show (if holdsC (vAt (m 103) p) c = true then _ else _) = _
            by_cases q : holdsC (vAt (m 103) p) c = true
            · rw [if_pos q, if_pos ⟨c1, q⟩]
            · rw [if_neg q, if_neg (fun h => q h.2)]
          · rw [upC_n (by decide), upC_n (by decide)]
            have : (if c.1 = true ∧ holdsC (vAt (m 103) p) c = true then c.2.1 else 0) = 0 := if_neg (fun h => absurd (c1.symm.trans h.1) (by decide))
            rw [this]; split <;> omega
  have zero : ∀ (n : Nat) (k : Int) (m1 : XM), 10 < k + n → 0 ≤ k → k ≤ 10 → (∀ x, x ≠ 104 → x ≠ 105 → x ≠ 48 → m1 x = m x) →
      (∀ j, 0 ≤ j → j < k → m1 104 j = 0 ∧ m1 105 j = 0) →
      RZ (dd + 1) k_Pa_sumClauses 2 [vR 98, vR 43, vI w, vI k] [] (zH z m1) (qz z (qv (fun m' => (∀ x, x ≠ 104 → x ≠ 105 → x ≠ 48 → m' x = m x) ∧
      ∀ p : Nat, p < 10 → m' 104 p = sumC false (vAt (m 103) p) cl ∧ m' 105 p = if w = 1 then sumC true (vAt (m 103) p) cl else 0))) := by
    intro n
    induction n with
    | zero => intro k m1 q1 q2 q3; exfalso; omega
    | succ n ih =>
      intro k m1 q1 q2 q3 hk hz
      refine r_loadI a26_2 rfl ?_
      refine r_pushI a26_3 ?_
      refine r_icge a26_5 (fun h_5 => ?_) (fun h_5 => ?_)
      · have hk10 : k = 10 := by omega
        refine r_pushI a26_28 ?_
        refine r_storeI_3 a26_29 rfl ?_
        refine loop cl m1 0 0 hok (by omega) (by omega) (fun _ => rfl) (fun q => absurd q (by omega)) hcl hk (fun p hp => ?_) (fun j r1 r2 => ?_)
        · obtain ⟨t1, t2⟩ := hz p (by omega) (by omega)
          rw [t1, t2]
          refine ⟨by omega, by split <;> omega⟩
        · obtain ⟨t1, t2⟩ := hz j r1 (by omega)
          rw [t1, t2]; omega
      · refine r_loadA a26_8 rfl (by decide) ?_
        refine r_getR a26_9 ty98 rf98_6 (by decide) ?_
        refine r_loadI a26_12 rfl ?_
        refine r_pushI a26_13 ?_
        refine r_iast a26_14 ty104 (by omega) ?_
        refine r_loadA a26_15 rfl (by decide) ?_
        refine r_getR a26_16 ty98 rf98_7 (by decide) ?_
        refine r_loadI a26_19 rfl ?_
        refine r_pushI a26_20 ?_
        refine r_iast a26_21 ty105 (by omega) ?_
        refine r_iinc_3 a26_22 rfl (by omega) ?_
        refine r_goto a26_25 ?_
        refine ih (k + 1) _ (by omega) (by omega) (by omega) (fun x x1 x2 x3 => by rw [up2_c x2, up2_c x1]; exact hk x x1 x2 x3) (fun j r1 r2 => ⟨?_, ?_⟩)
        · rw [up2_c (by decide), up2_C, upC_s, upi_at]
          by_cases q : j = k
          · rw [if_pos q]
          · rw [if_neg q]; exact (hz j r1 (by omega)).1
        · rw [up2_C, upC_s, upi_at]
          by_cases q : j = k
          · rw [if_pos q]
          · rw [if_neg q, up2_c (by decide)]; exact (hz j r1 (by omega)).2
  refine r_entry mx26 rfl ?_
  refine r_pushI a26_0 ?_
  refine r_storeI_3 a26_1 rfl ?_
  exact zero 11 0 m (by omega) (by omega) (by omega) (fun _ _ _ _ => rfl) (fun j q1 q2 => absurd q1 (by omega))
