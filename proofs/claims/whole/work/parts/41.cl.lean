-- ===== the class: by which paces a condition holds =====
/-- masks stand on a stack -/
def StkR (g : Int → Int) : List (Nat → Bool) → Prop
  | [] => True
  | a :: r => g r.length = MK a ∧ StkR g r
theorem StkR_up {g : Int → Int} {k v : Int} : ∀ {st : List (Nat → Bool)}, StkR g st → (st.length : Int) ≤ k → StkR (upi g k v) st := by
  intro st
  induction st with
  | nil => intro _ _; trivial
  | cons a r ih =>
    intro ⟨h1, h2⟩ hk
    have hk' : ((r.length : Nat) : Int) + 1 ≤ k := by rw [List.length_cons] at hk; push_cast at hk; exact hk
    exact ⟨by rw [upi_n (by omega)]; exact h1, ih h2 (by omega)⟩
theorem cTok_c {t : Int} (h : okTok t) : (0 ≤ t ∧ 3 ≤ cTok t ∧ cTok t ≤ 7000) ∨ (t = -1 ∧ cTok t = 2) ∨ (t = -2 ∧ cTok t = 0) ∨ (t = -3 ∧ cTok t = 1) := by
  obtain ⟨h1, h2⟩ := h
  by_cases h0 : 0 ≤ t
  · have := cTok_t h0
    have hM := MK_lt (dgH (t / 8 % 4) (t / 32))
    have := h2 h0
    left; omega
  · right
    have e : cTok t = if t = -1 then 2 else if t = -2 then 0 else 1 := by unfold cTok; rw [if_neg h0]
    by_cases h3 : t = -1
    · left; rw [e, if_pos h3]; exact ⟨h3, rfl⟩
    · right; rw [e, if_neg h3]
      by_cases h4 : t = -2
      · left; rw [if_pos h4]; exact ⟨h4, rfl⟩
      · right; rw [if_neg h4]; exact ⟨by omega, rfl⟩
theorem c_Cl_pacesOf_90 (d z : Nat) (m : XM) (i e : Int) (toks : List Int) (hd : 1 ≤ d) (hi : 0 ≤ i ∧ i < 10)
    (hF : ∀ w, 0 ≤ w → w < 6 → 0 ≤ m 90 w ∧ m 90 w ≤ 9) (he0 : 0 ≤ e) (he1 : i = 0 → e = 0) (he2 : 0 < i → m 46 (i - 1) = e)
    (he3 : m 46 i = e + toks.length) (he4 : e + toks.length ≤ 100) (hs : Seg (m 47) e (toks.map cTok)) (hw : wfR toks 0 1) :
    CI d k_Cl_pacesOf z m [vR 43, vI i, vR 90] (fun x m' => (∃ g, m' = upC m 48 g) ∧
      ∃ a, evF (fun t p => tkH t (fcP (m 90) p)) toks [] = [a] ∧ x = MK a) := by
  obtain ⟨dd, rfl⟩ : ∃ dd, d = dd + 1 := ⟨d - 1, by omega⟩
  have loop : ∀ (ts : List Int) (st : List (Nat → Bool)) (g : Int → Int) (j top : Int), 0 ≤ j → j + ts.length = e + toks.length → top = st.length →
      Seg (m 47) j (ts.map cTok) → StkR g st → wfR ts st.length 1 → st.length ≤ 13 →
      evF (fun t p => tkH t (fcP (m 90) p)) toks [] = evF (fun t p => tkH t (fcP (m 90) p)) ts st →
      RZ (dd + 1) k_Cl_pacesOf 20 [vR 43, vI i, vR 90, vI top, vI j] [] (zH z (upC m 48 g)) (qz z (qi fun x m' => (∃ g, m' = upC m 48 g) ∧
        ∃ a, evF (fun t p => tkH t (fcP (m 90) p)) toks [] = [a] ∧ x = MK a)) := by
    intro ts
    induction ts with
    | nil =>
      intro st g j top hj0 hj ht hsg hst hwf hl hev
      have e46 : upC m 48 g 46 i = e + toks.length := by rw [upC_n (by decide)]; exact he3
      have hj' : j = e + toks.length := by rw [List.length_nil] at hj; push_cast at hj; omega
      have hlen : st.length = 1 := hwf
      obtain ⟨a, rfl⟩ : ∃ a, st = [a] := by
        match st, hlen with
        | [a], _ => exact ⟨a, rfl⟩
      have htop : top = 1 := by rw [ht]; rfl
      subst htop
      refine r_loadI a9_20 rfl ?_
      refine r_loadA a9_22 rfl (by decide) ?_
      refine r_getR a9_23 ty43 rf43_6 (by decide) ?_
      refine r_loadI a9_26 rfl ?_
      refine r_iald a9_27 ty46 (by omega) ?_
      refine r_icge a9_28 (fun h_28 => ?_) (fun h_28 => ?_)
      · refine r_loadI a9_174 rfl ?_
        refine r_ifne a9_175 (fun h_175 => ?_) (fun h_175 => ?_)
        · refine r_loadA a9_182 rfl (by decide) ?_
          refine r_getR a9_183 ty43 rf43_8 (by decide) ?_
          refine r_loadI a9_186 rfl ?_
          refine r_pushI a9_187 ?_
          refine r_sub a9_188 (by omega) ?_
          refine r_iald a9_189 ty48 (by omega) ?_
          refine r_retIq a9_190 ?_
          exact ⟨⟨g, rfl⟩, a, hev, by rw [upC_s]; exact hst.1⟩
        · exfalso
          omega
      · exfalso
        omega
    | cons t ts ih =>
      intro st g j top hj0 hj ht hsg hst hwf hl hev
      have e46 : upC m 48 g 46 i = e + toks.length := by rw [upC_n (by decide)]; exact he3
      have hj' : j + (ts.length : Int) + 1 = e + toks.length := by rw [List.length_cons] at hj; push_cast at hj; omega
      have e47 : upC m 48 g 47 j = cTok t := by rw [upC_n (by decide)]; exact hsg.1
      have hok : okTok t := hwf.1
      have hwf2 := hwf.2
      have hc := cTok_c hok
      have hsg2 : Seg (m 47) (j + 1) (ts.map cTok) := hsg.2
      have fin : ∀ (st' : List (Nat → Bool)) (g' : Int → Int) (top' : Int), top' = st'.length → StkR g' st' → wfR ts st'.length 1 → st'.length ≤ 13 →
          evF (fun t p => tkH t (fcP (m 90) p)) (t :: ts) st = evF (fun t p => tkH t (fcP (m 90) p)) ts st' →
          RZ (dd + 1) k_Cl_pacesOf 168 [vR 43, vI i, vR 90, vI top', vI j] [] (zH z (upC m 48 g')) (qz z (qi fun x m' => (∃ g, m' = upC m 48 g) ∧
            ∃ a, evF (fun t p => tkH t (fcP (m 90) p)) toks [] = [a] ∧ x = MK a)) := by
        intro st' g' top' q1 q2 q3 q4 q5
        refine r_iinc_4 a9_168 rfl (by omega) ?_
        refine r_goto a9_171 ?_
        exact ih st' g' (j + 1) top' (by omega) (by omega) q1 hsg2 q2 q3 q4 (hev.trans q5)
      refine r_loadI a9_20 rfl ?_
      refine r_loadA a9_22 rfl (by decide) ?_
      refine r_getR a9_23 ty43 rf43_6 (by decide) ?_
      refine r_loadI a9_26 rfl ?_
      refine r_iald a9_27 ty46 (by omega) ?_
      refine r_icge a9_28 (fun h_28 => ?_) (fun h_28 => ?_)
      · exfalso
        omega
      · refine r_loadA a9_31 rfl (by decide) ?_
        refine r_getR a9_32 ty43 rf43_7 (by decide) ?_
        refine r_loadI a9_35 rfl ?_
        refine r_iald a9_37 ty47 (by omega) ?_
        refine r_pushI a9_38 ?_
        refine r_iclt a9_39 (fun h_39 => ?_) (fun h_39 => ?_)
        · refine r_loadA a9_76 rfl (by decide) ?_
          refine r_getR a9_77 ty43 rf43_7 (by decide) ?_
          refine r_loadI a9_80 rfl ?_
          refine r_iald a9_82 ty47 (by omega) ?_
          refine r_pushI a9_83 ?_
          refine r_icne a9_84 (fun h_84 => ?_) (fun h_84 => ?_)
          · refine r_loadI a9_109 rfl ?_
            refine r_pushI a9_110 ?_
            refine r_iclt a9_111 (fun h_111 => ?_) (fun h_111 => ?_)
            · exfalso
              rw [if_neg (by omega), if_neg (by omega)] at hwf2
              omega
            · refine r_iinc_3 a9_114 rfl (by omega) ?_
              refine r_loadA a9_117 rfl (by decide) ?_
              refine r_getR a9_118 ty43 rf43_8 (by decide) ?_
              refine r_loadI a9_121 rfl ?_
              refine r_pushI a9_122 ?_
              refine r_sub a9_123 (by omega) ?_
              refine r_loadA a9_124 rfl (by decide) ?_
              refine r_getR a9_125 ty43 rf43_7 (by decide) ?_
              refine r_loadI a9_128 rfl ?_
              refine r_iald a9_130 ty47 (by omega) ?_
              refine r_ifne a9_131 (fun h_131 => ?_) (fun h_131 => ?_)
              · refine r_loadA a9_152 rfl (by decide) ?_
                refine r_getR a9_153 ty43 rf43_8 (by decide) ?_
                refine r_loadI a9_156 rfl ?_
                refine r_pushI a9_157 ?_
                refine r_sub a9_158 (by omega) ?_
                refine r_iald a9_159 ty48 (by omega) ?_
                refine r_loadA a9_160 rfl (by decide) ?_
                refine r_getR a9_161 ty43 rf43_8 (by decide) ?_
                refine r_loadI a9_164 rfl ?_
                refine r_iald a9_165 ty48 (by omega) ?_
                refine r_or a9_166 ?_
                refine r_iast a9_167 ty48 (by omega) ?_
                rw [if_neg (by omega), if_neg (by omega)] at hwf2
                match st, ht, hst, hwf2, hl, hev, fin with
                | [], ht, hst, hwf2, hl, hev, fin => exact absurd (show 2 ≤ 0 from hwf2.1) (by decide)
                | [a], ht, hst, hwf2, hl, hev, fin => exact absurd (show 2 ≤ 1 from hwf2.1) (by decide)
                | b :: a :: r, ht, hst, hwf2, hl, hev, fin =>
                  have htr : top + -1 = (r.length : Int) + 1 := by rw [List.length_cons, List.length_cons] at ht; push_cast at ht; omega
                  have htr2 : top + -1 - 1 = (r.length : Int) := by omega
                  have hb : g ((r.length : Int) + 1) = MK b := by have := hst.1; rw [List.length_cons] at this; push_cast at this; exact this
                  have ha : g (r.length : Int) = MK a := hst.2.1
                  rw [up2_C, upC_s, upC_upC, htr2, htr, hb, ha]
                  first
                    | (rw [MK_and]
                       refine fin ((fun p => a p && b p) :: r) _ _ ?_ ⟨by rw [upi_s], StkR_up hst.2.2 (by omega)⟩ hwf2.2 ?_ ?_
                       · rw [List.length_cons]; push_cast; rfl
                       · rw [List.length_cons, List.length_cons] at hl; rw [List.length_cons]; omega
                       · show evF _ ts _ = _
                         rw [if_neg (by omega), if_neg (by omega)]
                         show evF _ ts ((if t = -2 then _ else _) :: r) = _
                         rw [if_pos (by omega)])
                    | (rw [MK_or]
                       refine fin ((fun p => a p || b p) :: r) _ _ ?_ ⟨by rw [upi_s], StkR_up hst.2.2 (by omega)⟩ hwf2.2 ?_ ?_
                       · rw [List.length_cons]; push_cast; rfl
                       · rw [List.length_cons, List.length_cons] at hl; rw [List.length_cons]; omega
                       · show evF _ ts _ = _
                         rw [if_neg (by omega), if_neg (by omega)]
                         show evF _ ts ((if t = -2 then _ else _) :: r) = _
                         rw [if_neg (by omega)])
              · refine r_loadA a9_134 rfl (by decide) ?_
                refine r_getR a9_135 ty43 rf43_8 (by decide) ?_
                refine r_loadI a9_138 rfl ?_
                refine r_pushI a9_139 ?_
                refine r_sub a9_140 (by omega) ?_
                refine r_iald a9_141 ty48 (by omega) ?_
                refine r_loadA a9_142 rfl (by decide) ?_
                refine r_getR a9_143 ty43 rf43_8 (by decide) ?_
                refine r_loadI a9_146 rfl ?_
                refine r_iald a9_147 ty48 (by omega) ?_
                refine r_and a9_148 ?_
                refine r_goto a9_149 ?_
                refine r_iast a9_167 ty48 (by omega) ?_
                rw [if_neg (by omega), if_neg (by omega)] at hwf2
                match st, ht, hst, hwf2, hl, hev, fin with
                | [], ht, hst, hwf2, hl, hev, fin => exact absurd (show 2 ≤ 0 from hwf2.1) (by decide)
                | [a], ht, hst, hwf2, hl, hev, fin => exact absurd (show 2 ≤ 1 from hwf2.1) (by decide)
                | b :: a :: r, ht, hst, hwf2, hl, hev, fin =>
                  have htr : top + -1 = (r.length : Int) + 1 := by rw [List.length_cons, List.length_cons] at ht; push_cast at ht; omega
                  have htr2 : top + -1 - 1 = (r.length : Int) := by omega
                  have hb : g ((r.length : Int) + 1) = MK b := by have := hst.1; rw [List.length_cons] at this; push_cast at this; exact this
                  have ha : g (r.length : Int) = MK a := hst.2.1
                  rw [up2_C, upC_s, upC_upC, htr2, htr, hb, ha]
                  first
                    | (rw [MK_and]
                       refine fin ((fun p => a p && b p) :: r) _ _ ?_ ⟨by rw [upi_s], StkR_up hst.2.2 (by omega)⟩ hwf2.2 ?_ ?_
                       · rw [List.length_cons]; push_cast; rfl
                       · rw [List.length_cons, List.length_cons] at hl; rw [List.length_cons]; omega
                       · show evF _ ts _ = _
                         rw [if_neg (by omega), if_neg (by omega)]
                         show evF _ ts ((if t = -2 then _ else _) :: r) = _
                         rw [if_pos (by omega)])
                    | (rw [MK_or]
                       refine fin ((fun p => a p || b p) :: r) _ _ ?_ ⟨by rw [upi_s], StkR_up hst.2.2 (by omega)⟩ hwf2.2 ?_ ?_
                       · rw [List.length_cons]; push_cast; rfl
                       · rw [List.length_cons, List.length_cons] at hl; rw [List.length_cons]; omega
                       · show evF _ ts _ = _
                         rw [if_neg (by omega), if_neg (by omega)]
                         show evF _ ts ((if t = -2 then _ else _) :: r) = _
                         rw [if_neg (by omega)])
          · refine r_loadI a9_87 rfl ?_
            refine r_pushI a9_88 ?_
            refine r_iclt a9_89 (fun h_89 => ?_) (fun h_89 => ?_)
            · exfalso
              have h0 : t = -1 := by omega
              rw [if_neg (by omega), if_pos h0] at hwf2
              omega
            · refine r_loadA a9_92 rfl (by decide) ?_
              refine r_getR a9_93 ty43 rf43_8 (by decide) ?_
              refine r_loadI a9_96 rfl ?_
              refine r_pushI a9_97 ?_
              refine r_sub a9_98 (by omega) ?_
              refine r_dup2 a9_99 rfl rfl ?_
              refine r_iald a9_100 ty48 (by omega) ?_
              refine r_pushI a9_101 ?_
              refine r_xor a9_104 ?_
              refine r_iast a9_105 ty48 (by omega) ?_
              have h0 : t = -1 := by omega
              rw [if_neg (by omega), if_pos h0] at hwf2
              match st, ht, hst, hwf2, hl, hev, fin with
              | [], ht, hst, hwf2, hl, hev, fin => exact absurd (show 1 ≤ 0 from hwf2.1) (by decide)
              | a :: r, ht, hst, hwf2, hl, hev, fin =>
                have htr : top - 1 = (r.length : Int) := by rw [List.length_cons] at ht; push_cast at ht; omega
                rw [up2_C, upC_s, upC_upC, htr, hst.1, MK_not]
                refine r_goto a9_106 ?_
                refine fin ((fun p => !a p) :: r) _ top ht ⟨by rw [upi_s], StkR_up hst.2 (by omega)⟩ hwf2.2 hl ?_
                show evF _ ts _ = _
                rw [if_neg (by omega), if_pos h0]
        · refine r_loadI a9_42 rfl ?_
          refine r_loadA a9_43 rfl (by decide) ?_
          refine r_getR a9_44 ty43 rf43_8 (by decide) ?_
          refine r_alen a9_47 ty48 (Or.inl rfl) rfl ?_
          refine r_icge a9_48 (fun h_48 => ?_) (fun h_48 => ?_)
          · exfalso
            omega
          · refine r_loadA a9_51 rfl (by decide) ?_
            refine r_getR a9_52 ty43 rf43_8 (by decide) ?_
            refine r_loadI a9_55 rfl ?_
            refine r_iinc_3 a9_56 rfl (by omega) ?_
            refine r_loadA a9_59 rfl (by decide) ?_
            refine r_getR a9_60 ty43 rf43_7 (by decide) ?_
            refine r_loadI a9_63 rfl ?_
            refine r_iald a9_65 ty47 (by omega) ?_
            refine r_pushI a9_66 ?_
            refine r_sub a9_67 (by omega) ?_
            rw [e47]
            refine r_loadA a9_68 rfl (by decide) ?_
            refine r_callI_2 a9_69 (Nat.le_of_ble_eq_true rfl) (le_mx mx10 (Nat.le_of_ble_eq_true rfl)) (Or.inl rfl) (c_Cl_test_90 dd z (upC m 48 g) t (by omega) hok (fun w a b => by rw [upC_n (by decide)]; exact hF w a b)) (fun x_69 m_69 h_69 => ?_)
            obtain ⟨hm_69, h_69⟩ := h_69
            rw [hm_69]
            refine r_iast a9_72 ty48 (by omega) ?_
            rw [up2_C, upC_s, upC_upC, h_69, upC_n (by decide)]
            have h0 : 0 ≤ t := by omega
            rw [if_pos h0] at hwf2
            refine r_goto a9_73 ?_
            refine fin ((fun p => tkH t (fcP (m 90) p)) :: st) _ (top + 1) ?_ ⟨?_, StkR_up hst (by omega)⟩ hwf2.2 ?_ ?_
            · rw [List.length_cons]; push_cast; omega
            · rw [ht, upi_s]
            · rw [List.length_cons]; omega
            · show evF _ ts _ = _
              rw [if_pos h0]
  have h0 : zH z m = zH z (upC m 48 (m 48)) := by rw [upC_id]
  refine r_entry mx9 rfl ?_
  refine r_pushI a9_0 ?_
  refine r_storeI_3 a9_1 rfl ?_
  refine r_loadI a9_2 rfl ?_
  refine r_ifne a9_3 (fun h_3 => ?_) (fun h_3 => ?_)
  · refine r_loadA a9_10 rfl (by decide) ?_
    refine r_getR a9_11 ty43 rf43_6 (by decide) ?_
    refine r_loadI a9_14 rfl ?_
    refine r_pushI a9_15 ?_
    refine r_sub a9_16 (by omega) ?_
    refine r_iald a9_17 ty46 (by omega) ?_
    refine r_storeI_4 a9_18 rfl ?_
    have ee : ∀ q, q = e → RZ (dd + 1) k_Cl_pacesOf 20 [vR 43, vI i, vR 90, vI 0, vI q] [] (zH z m) (qz z (qi fun x m' => (∃ g, m' = upC m 48 g) ∧
        ∃ a, evF (fun t p => tkH t (fcP (m 90) p)) toks [] = [a] ∧ x = MK a)) := by
      intro q hq
      rw [h0, hq]
      exact loop toks [] (m 48) e 0 he0 rfl rfl hs trivial hw (by decide) rfl
    exact ee _ (by omega)
  · refine r_pushI a9_6 ?_
    refine r_goto a9_7 ?_
    refine r_storeI_4 a9_18 rfl ?_
    have ee : ∀ q, q = e → RZ (dd + 1) k_Cl_pacesOf 20 [vR 43, vI i, vR 90, vI 0, vI q] [] (zH z m) (qz z (qi fun x m' => (∃ g, m' = upC m 48 g) ∧
        ∃ a, evF (fun t p => tkH t (fcP (m 90) p)) toks [] = [a] ∧ x = MK a)) := by
      intro q hq
      rw [h0, hq]
      exact loop toks [] (m 48) e 0 he0 rfl rfl hs trivial hw (by decide) rfl
    exact ee _ (by omega)
theorem c_Cl_pacesOf_103 (d z : Nat) (m : XM) (i e : Int) (toks : List Int) (hd : 1 ≤ d) (hi : 0 ≤ i ∧ i < 10)
    (hF : ∀ w, 0 ≤ w → w < 6 → 0 ≤ m 103 w ∧ m 103 w ≤ 9) (he0 : 0 ≤ e) (he1 : i = 0 → e = 0) (he2 : 0 < i → m 46 (i - 1) = e)
    (he3 : m 46 i = e + toks.length) (he4 : e + toks.length ≤ 100) (hs : Seg (m 47) e (toks.map cTok)) (hw : wfR toks 0 1) :
    CI d k_Cl_pacesOf z m [vR 43, vI i, vR 103] (fun x m' => (∃ g, m' = upC m 48 g) ∧
      ∃ a, evF (fun t p => tkH t (fcP (m 103) p)) toks [] = [a] ∧ x = MK a) := by
  obtain ⟨dd, rfl⟩ : ∃ dd, d = dd + 1 := ⟨d - 1, by omega⟩
  have loop : ∀ (ts : List Int) (st : List (Nat → Bool)) (g : Int → Int) (j top : Int), 0 ≤ j → j + ts.length = e + toks.length → top = st.length →
      Seg (m 47) j (ts.map cTok) → StkR g st → wfR ts st.length 1 → st.length ≤ 13 →
      evF (fun t p => tkH t (fcP (m 103) p)) toks [] = evF (fun t p => tkH t (fcP (m 103) p)) ts st →
      RZ (dd + 1) k_Cl_pacesOf 20 [vR 43, vI i, vR 103, vI top, vI j] [] (zH z (upC m 48 g)) (qz z (qi fun x m' => (∃ g, m' = upC m 48 g) ∧
        ∃ a, evF (fun t p => tkH t (fcP (m 103) p)) toks [] = [a] ∧ x = MK a)) := by
    intro ts
    induction ts with
    | nil =>
      intro st g j top hj0 hj ht hsg hst hwf hl hev
      have e46 : upC m 48 g 46 i = e + toks.length := by rw [upC_n (by decide)]; exact he3
      have hj' : j = e + toks.length := by rw [List.length_nil] at hj; push_cast at hj; omega
      have hlen : st.length = 1 := hwf
      obtain ⟨a, rfl⟩ : ∃ a, st = [a] := by
        match st, hlen with
        | [a], _ => exact ⟨a, rfl⟩
      have htop : top = 1 := by rw [ht]; rfl
      subst htop
      refine r_loadI a9_20 rfl ?_
      refine r_loadA a9_22 rfl (by decide) ?_
      refine r_getR a9_23 ty43 rf43_6 (by decide) ?_
      refine r_loadI a9_26 rfl ?_
      refine r_iald a9_27 ty46 (by omega) ?_
      refine r_icge a9_28 (fun h_28 => ?_) (fun h_28 => ?_)
      · refine r_loadI a9_174 rfl ?_
        refine r_ifne a9_175 (fun h_175 => ?_) (fun h_175 => ?_)
        · refine r_loadA a9_182 rfl (by decide) ?_
          refine r_getR a9_183 ty43 rf43_8 (by decide) ?_
          refine r_loadI a9_186 rfl ?_
          refine r_pushI a9_187 ?_
          refine r_sub a9_188 (by omega) ?_
          refine r_iald a9_189 ty48 (by omega) ?_
          refine r_retIq a9_190 ?_
          exact ⟨⟨g, rfl⟩, a, hev, by rw [upC_s]; exact hst.1⟩
        · exfalso
          omega
      · exfalso
        omega
    | cons t ts ih =>
      intro st g j top hj0 hj ht hsg hst hwf hl hev
      have e46 : upC m 48 g 46 i = e + toks.length := by rw [upC_n (by decide)]; exact he3
      have hj' : j + (ts.length : Int) + 1 = e + toks.length := by rw [List.length_cons] at hj; push_cast at hj; omega
      have e47 : upC m 48 g 47 j = cTok t := by rw [upC_n (by decide)]; exact hsg.1
      have hok : okTok t := hwf.1
      have hwf2 := hwf.2
      have hc := cTok_c hok
      have hsg2 : Seg (m 47) (j + 1) (ts.map cTok) := hsg.2
      have fin : ∀ (st' : List (Nat → Bool)) (g' : Int → Int) (top' : Int), top' = st'.length → StkR g' st' → wfR ts st'.length 1 → st'.length ≤ 13 →
          evF (fun t p => tkH t (fcP (m 103) p)) (t :: ts) st = evF (fun t p => tkH t (fcP (m 103) p)) ts st' →
          RZ (dd + 1) k_Cl_pacesOf 168 [vR 43, vI i, vR 103, vI top', vI j] [] (zH z (upC m 48 g')) (qz z (qi fun x m' => (∃ g, m' = upC m 48 g) ∧
            ∃ a, evF (fun t p => tkH t (fcP (m 103) p)) toks [] = [a] ∧ x = MK a)) := by
        intro st' g' top' q1 q2 q3 q4 q5
        refine r_iinc_4 a9_168 rfl (by omega) ?_
        refine r_goto a9_171 ?_
        exact ih st' g' (j + 1) top' (by omega) (by omega) q1 hsg2 q2 q3 q4 (hev.trans q5)
      refine r_loadI a9_20 rfl ?_
      refine r_loadA a9_22 rfl (by decide) ?_
      refine r_getR a9_23 ty43 rf43_6 (by decide) ?_
      refine r_loadI a9_26 rfl ?_
      refine r_iald a9_27 ty46 (by omega) ?_
      refine r_icge a9_28 (fun h_28 => ?_) (fun h_28 => ?_)
      · exfalso
        omega
      · refine r_loadA a9_31 rfl (by decide) ?_
        refine r_getR a9_32 ty43 rf43_7 (by decide) ?_
        refine r_loadI a9_35 rfl ?_
        refine r_iald a9_37 ty47 (by omega) ?_
        refine r_pushI a9_38 ?_
        refine r_iclt a9_39 (fun h_39 => ?_) (fun h_39 => ?_)
        · refine r_loadA a9_76 rfl (by decide) ?_
          refine r_getR a9_77 ty43 rf43_7 (by decide) ?_
          refine r_loadI a9_80 rfl ?_
          refine r_iald a9_82 ty47 (by omega) ?_
          refine r_pushI a9_83 ?_
          refine r_icne a9_84 (fun h_84 => ?_) (fun h_84 => ?_)
          · refine r_loadI a9_109 rfl ?_
            refine r_pushI a9_110 ?_
            refine r_iclt a9_111 (fun h_111 => ?_) (fun h_111 => ?_)
            · exfalso
              rw [if_neg (by omega), if_neg (by omega)] at hwf2
              omega
            · refine r_iinc_3 a9_114 rfl (by omega) ?_
              refine r_loadA a9_117 rfl (by decide) ?_
              refine r_getR a9_118 ty43 rf43_8 (by decide) ?_
              refine r_loadI a9_121 rfl ?_
              refine r_pushI a9_122 ?_
              refine r_sub a9_123 (by omega) ?_
              refine r_loadA a9_124 rfl (by decide) ?_
              refine r_getR a9_125 ty43 rf43_7 (by decide) ?_
              refine r_loadI a9_128 rfl ?_
              refine r_iald a9_130 ty47 (by omega) ?_
              refine r_ifne a9_131 (fun h_131 => ?_) (fun h_131 => ?_)
              · refine r_loadA a9_152 rfl (by decide) ?_
                refine r_getR a9_153 ty43 rf43_8 (by decide) ?_
                refine r_loadI a9_156 rfl ?_
                refine r_pushI a9_157 ?_
                refine r_sub a9_158 (by omega) ?_
                refine r_iald a9_159 ty48 (by omega) ?_
                refine r_loadA a9_160 rfl (by decide) ?_
                refine r_getR a9_161 ty43 rf43_8 (by decide) ?_
                refine r_loadI a9_164 rfl ?_
                refine r_iald a9_165 ty48 (by omega) ?_
                refine r_or a9_166 ?_
                refine r_iast a9_167 ty48 (by omega) ?_
                rw [if_neg (by omega), if_neg (by omega)] at hwf2
                match st, ht, hst, hwf2, hl, hev, fin with
                | [], ht, hst, hwf2, hl, hev, fin => exact absurd (show 2 ≤ 0 from hwf2.1) (by decide)
                | [a], ht, hst, hwf2, hl, hev, fin => exact absurd (show 2 ≤ 1 from hwf2.1) (by decide)
                | b :: a :: r, ht, hst, hwf2, hl, hev, fin =>
                  have htr : top + -1 = (r.length : Int) + 1 := by rw [List.length_cons, List.length_cons] at ht; push_cast at ht; omega
                  have htr2 : top + -1 - 1 = (r.length : Int) := by omega
                  have hb : g ((r.length : Int) + 1) = MK b := by have := hst.1; rw [List.length_cons] at this; push_cast at this; exact this
                  have ha : g (r.length : Int) = MK a := hst.2.1
                  rw [up2_C, upC_s, upC_upC, htr2, htr, hb, ha]
                  first
                    | (rw [MK_and]
                       refine fin ((fun p => a p && b p) :: r) _ _ ?_ ⟨by rw [upi_s], StkR_up hst.2.2 (by omega)⟩ hwf2.2 ?_ ?_
                       · rw [List.length_cons]; push_cast; rfl
                       · rw [List.length_cons, List.length_cons] at hl; rw [List.length_cons]; omega
                       · show evF _ ts _ = _
                         rw [if_neg (by omega), if_neg (by omega)]
                         show evF _ ts ((if t = -2 then _ else _) :: r) = _
                         rw [if_pos (by omega)])
                    | (rw [MK_or]
                       refine fin ((fun p => a p || b p) :: r) _ _ ?_ ⟨by rw [upi_s], StkR_up hst.2.2 (by omega)⟩ hwf2.2 ?_ ?_
                       · rw [List.length_cons]; push_cast; rfl
                       · rw [List.length_cons, List.length_cons] at hl; rw [List.length_cons]; omega
                       · show evF _ ts _ = _
                         rw [if_neg (by omega), if_neg (by omega)]
                         show evF _ ts ((if t = -2 then _ else _) :: r) = _
                         rw [if_neg (by omega)])
              · refine r_loadA a9_134 rfl (by decide) ?_
                refine r_getR a9_135 ty43 rf43_8 (by decide) ?_
                refine r_loadI a9_138 rfl ?_
                refine r_pushI a9_139 ?_
                refine r_sub a9_140 (by omega) ?_
                refine r_iald a9_141 ty48 (by omega) ?_
                refine r_loadA a9_142 rfl (by decide) ?_
                refine r_getR a9_143 ty43 rf43_8 (by decide) ?_
                refine r_loadI a9_146 rfl ?_
                refine r_iald a9_147 ty48 (by omega) ?_
                refine r_and a9_148 ?_
                refine r_goto a9_149 ?_
                refine r_iast a9_167 ty48 (by omega) ?_
                rw [if_neg (by omega), if_neg (by omega)] at hwf2
                match st, ht, hst, hwf2, hl, hev, fin with
                | [], ht, hst, hwf2, hl, hev, fin => exact absurd (show 2 ≤ 0 from hwf2.1) (by decide)
                | [a], ht, hst, hwf2, hl, hev, fin => exact absurd (show 2 ≤ 1 from hwf2.1) (by decide)
                | b :: a :: r, ht, hst, hwf2, hl, hev, fin =>
                  have htr : top + -1 = (r.length : Int) + 1 := by rw [List.length_cons, List.length_cons] at ht; push_cast at ht; omega
                  have htr2 : top + -1 - 1 = (r.length : Int) := by omega
                  have hb : g ((r.length : Int) + 1) = MK b := by have := hst.1; rw [List.length_cons] at this; push_cast at this; exact this
                  have ha : g (r.length : Int) = MK a := hst.2.1
                  rw [up2_C, upC_s, upC_upC, htr2, htr, hb, ha]
                  first
                    | (rw [MK_and]
                       refine fin ((fun p => a p && b p) :: r) _ _ ?_ ⟨by rw [upi_s], StkR_up hst.2.2 (by omega)⟩ hwf2.2 ?_ ?_
                       · rw [List.length_cons]; push_cast; rfl
                       · rw [List.length_cons, List.length_cons] at hl; rw [List.length_cons]; omega
                       · show evF _ ts _ = _
                         rw [if_neg (by omega), if_neg (by omega)]
                         show evF _ ts ((if t = -2 then _ else _) :: r) = _
                         rw [if_pos (by omega)])
                    | (rw [MK_or]
                       refine fin ((fun p => a p || b p) :: r) _ _ ?_ ⟨by rw [upi_s], StkR_up hst.2.2 (by omega)⟩ hwf2.2 ?_ ?_
                       · rw [List.length_cons]; push_cast; rfl
                       · rw [List.length_cons, List.length_cons] at hl; rw [List.length_cons]; omega
                       · show evF _ ts _ = _
                         rw [if_neg (by omega), if_neg (by omega)]
                         show evF _ ts ((if t = -2 then _ else _) :: r) = _
                         rw [if_neg (by omega)])
          · refine r_loadI a9_87 rfl ?_
            refine r_pushI a9_88 ?_
            refine r_iclt a9_89 (fun h_89 => ?_) (fun h_89 => ?_)
            · exfalso
              have h0 : t = -1 := by omega
              rw [if_neg (by omega), if_pos h0] at hwf2
              omega
            · refine r_loadA a9_92 rfl (by decide) ?_
              refine r_getR a9_93 ty43 rf43_8 (by decide) ?_
              refine r_loadI a9_96 rfl ?_
              refine r_pushI a9_97 ?_
              refine r_sub a9_98 (by omega) ?_
              refine r_dup2 a9_99 rfl rfl ?_
              refine r_iald a9_100 ty48 (by omega) ?_
              refine r_pushI a9_101 ?_
              refine r_xor a9_104 ?_
              refine r_iast a9_105 ty48 (by omega) ?_
              have h0 : t = -1 := by omega
              rw [if_neg (by omega), if_pos h0] at hwf2
              match st, ht, hst, hwf2, hl, hev, fin with
              | [], ht, hst, hwf2, hl, hev, fin => exact absurd (show 1 ≤ 0 from hwf2.1) (by decide)
              | a :: r, ht, hst, hwf2, hl, hev, fin =>
                have htr : top - 1 = (r.length : Int) := by rw [List.length_cons] at ht; push_cast at ht; omega
                rw [up2_C, upC_s, upC_upC, htr, hst.1, MK_not]
                refine r_goto a9_106 ?_
                refine fin ((fun p => !a p) :: r) _ top ht ⟨by rw [upi_s], StkR_up hst.2 (by omega)⟩ hwf2.2 hl ?_
                show evF _ ts _ = _
                rw [if_neg (by omega), if_pos h0]
        · refine r_loadI a9_42 rfl ?_
          refine r_loadA a9_43 rfl (by decide) ?_
          refine r_getR a9_44 ty43 rf43_8 (by decide) ?_
          refine r_alen a9_47 ty48 (Or.inl rfl) rfl ?_
          refine r_icge a9_48 (fun h_48 => ?_) (fun h_48 => ?_)
          · exfalso
            omega
          · refine r_loadA a9_51 rfl (by decide) ?_
            refine r_getR a9_52 ty43 rf43_8 (by decide) ?_
            refine r_loadI a9_55 rfl ?_
            refine r_iinc_3 a9_56 rfl (by omega) ?_
            refine r_loadA a9_59 rfl (by decide) ?_
            refine r_getR a9_60 ty43 rf43_7 (by decide) ?_
            refine r_loadI a9_63 rfl ?_
            refine r_iald a9_65 ty47 (by omega) ?_
            refine r_pushI a9_66 ?_
            refine r_sub a9_67 (by omega) ?_
            rw [e47]
            refine r_loadA a9_68 rfl (by decide) ?_
            refine r_callI_2 a9_69 (Nat.le_of_ble_eq_true rfl) (le_mx mx10 (Nat.le_of_ble_eq_true rfl)) (Or.inl rfl) (c_Cl_test_103 dd z (upC m 48 g) t (by omega) hok (fun w a b => by rw [upC_n (by decide)]; exact hF w a b)) (fun x_69 m_69 h_69 => ?_)
            obtain ⟨hm_69, h_69⟩ := h_69
            rw [hm_69]
            refine r_iast a9_72 ty48 (by omega) ?_
            rw [up2_C, upC_s, upC_upC, h_69, upC_n (by decide)]
            have h0 : 0 ≤ t := by omega
            rw [if_pos h0] at hwf2
            refine r_goto a9_73 ?_
            refine fin ((fun p => tkH t (fcP (m 103) p)) :: st) _ (top + 1) ?_ ⟨?_, StkR_up hst (by omega)⟩ hwf2.2 ?_ ?_
            · rw [List.length_cons]; push_cast; omega
            · rw [ht, upi_s]
            · rw [List.length_cons]; omega
            · show evF _ ts _ = _
              rw [if_pos h0]
  have h0 : zH z m = zH z (upC m 48 (m 48)) := by rw [upC_id]
  refine r_entry mx9 rfl ?_
  refine r_pushI a9_0 ?_
  refine r_storeI_3 a9_1 rfl ?_
  refine r_loadI a9_2 rfl ?_
  refine r_ifne a9_3 (fun h_3 => ?_) (fun h_3 => ?_)
  · refine r_loadA a9_10 rfl (by decide) ?_
    refine r_getR a9_11 ty43 rf43_6 (by decide) ?_
    refine r_loadI a9_14 rfl ?_
    refine r_pushI a9_15 ?_
    refine r_sub a9_16 (by omega) ?_
    refine r_iald a9_17 ty46 (by omega) ?_
    refine r_storeI_4 a9_18 rfl ?_
    have ee : ∀ q, q = e → RZ (dd + 1) k_Cl_pacesOf 20 [vR 43, vI i, vR 103, vI 0, vI q] [] (zH z m) (qz z (qi fun x m' => (∃ g, m' = upC m 48 g) ∧
        ∃ a, evF (fun t p => tkH t (fcP (m 103) p)) toks [] = [a] ∧ x = MK a)) := by
      intro q hq
      rw [h0, hq]
      exact loop toks [] (m 48) e 0 he0 rfl rfl hs trivial hw (by decide) rfl
    exact ee _ (by omega)
  · refine r_pushI a9_6 ?_
    refine r_goto a9_7 ?_
    refine r_storeI_4 a9_18 rfl ?_
    have ee : ∀ q, q = e → RZ (dd + 1) k_Cl_pacesOf 20 [vR 43, vI i, vR 103, vI 0, vI q] [] (zH z m) (qz z (qi fun x m' => (∃ g, m' = upC m 48 g) ∧
        ∃ a, evF (fun t p => tkH t (fcP (m 103) p)) toks [] = [a] ∧ x = MK a)) := by
      intro q hq
      rw [h0, hq]
      exact loop toks [] (m 48) e 0 he0 rfl rfl hs trivial hw (by decide) rfl
    exact ee _ (by omega)
