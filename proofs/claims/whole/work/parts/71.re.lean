-- ===== the class reads: parts, any =====
theorem bnd_bnd (r : PRes) (g h : Int → List Int → PRes) : bnd (bnd r g) h = bnd r (fun q t => bnd (g q t) h) := by
  obtain ⟨q, t⟩ := r
  cases t with
  | none => rfl
  | some t => rfl
theorem bnd_some (q : Int) (t : List Int) (g : Int → List Int → PRes) : bnd (q, some t) g = g q t := rfl
theorem bnd_none (q : Int) (g : Int → List Int → PRes) : bnd (q, none) g = (q, none) := rfl
def orK (F : Int → PRes) (f : Int → Int) (E : Int) (o : Bool) (mm : Nat) (ao : List Int) (q : Int) (t : List Int) : PRes :=
  lpP (evP F f E) f E 124 (-3) (if o then mm else 101) q (if o then ao ++ t ++ [-3] else t)
def hdK (F : Int → PRes) (f : Int → Int) (E : Int) (a o : Bool) (n mm : Nat) (ch ao : List Int) (p : Int) : PRes :=
  bnd (F p) (fun q t => bnd (lpP F f E 38 (-2) (if a then n else 101) q (if a then ch ++ t ++ [-2] else t)) (orK F f E o mm ao))
theorem soP_hd (F : Int → PRes) (f : Int → Int) (E p : Int) : soP F f E p = hdK F f E false false 0 0 [] [] p := by
  show bnd (bnd (F p) (fun q t => lpP F f E 38 (-2) 101 q t)) (orK F f E false 0 []) = _
  rw [bnd_bnd]; rfl
/-- the loop of ands stops or goes on -/
theorem lp_stop {F : Int → PRes} {f : Int → Int} {E sep op : Int} (n : Nat) {q : Int} {acc : List Int} (h : atP f E q ≠ sep) : lpP F f E sep op n q acc = (q, some acc) := by
  cases n with
  | zero => rfl
  | succ n => show (if atP f E q = sep then _ else _) = _; rw [if_neg h]
theorem lp_go {F : Int → PRes} {f : Int → Int} {E sep op : Int} {n : Nat} {q : Int} {acc : List Int} (h : atP f E q = sep) (hn : 0 < n) : lpP F f E sep op n q acc = bnd (F (q + 1)) (fun q' t => lpP F f E sep op (n - 1) q' (acc ++ t ++ [op])) := by
  cases n with
  | zero => exact absurd hn (by decide)
  | succ n => show (if atP f E q = sep then _ else _) = _; rw [if_pos h]; rfl
def PartC (E : Int) (k : Nat) : Prop := ∀ (d : Nat) (m : XM), 8 + 2 * k ≤ d → RdIn m E → CI d k_Re_readPart 42 m [vR 77, vI (5 - (k : Int))] (fun x m' => RdR m m' x (faP (m 42) E k (m 77 1)))
def AnyC (E : Int) (k : Nat) : Prop := ∀ (d : Nat) (m : XM), 9 + 2 * k ≤ d → RdIn m E → CI d k_Re_readAny 42 m [vR 77, vI (5 - (k : Int))] (fun x m' => RdR m m' x (soP (faP (m 42) E k) (m 42) E (m 77 1)))
theorem c_Re_any (E : Int) (k : Nat) (hk : k ≤ 5) (hP : PartC E k) : AnyC E k := by
  intro d m hd hI
  obtain ⟨e, rfl⟩ : ∃ e, d = e + 1 := ⟨d - 1, by omega⟩
  have hS := hI.1
  have hb := hS.2.1
  have hp0 := hS.2.2.1
  obtain ⟨R, hR⟩ : ∃ R, soP (faP (m 42) E k) (m 42) E (m 77 1) = R := ⟨_, rfl⟩
  rw [hR]
  obtain ⟨F, hF⟩ : ∃ F, faP (m 42) E k = F := ⟨_, rfl⟩
  obtain ⟨f, hf⟩ : ∃ f, m 42 = f := ⟨_, rfl⟩
  have good : GoodF F E (12 - 2 * k) := by rw [← hF]; exact faP_good (m 42) E k hk
  rw [soP_hd, hF, hf] at hR
  have loop : ∀ (c : Nat) (j p : Int) (a o : Bool) (n mm : Nat) (ch ao : List Int) (m1 : XM), E < p + c → 0 ≤ j → 2 * j ≤ p → m1 77 1 = p → 0 ≤ p → p ≤ E → RdF m m1 →
      m1 78 3 = m 78 3 + (((if o then ao else []) ++ (if a then ch else []) : List Int).length : Int) → Seg (m1 82) (m 78 3) (((if o then ao else []) ++ (if a then ch else []) : List Int).map cTok) → m1 78 3 + bI a + bI o ≤ p → (a = true → 101 ≤ p + n) → (o = true → 101 ≤ p + mm) →
      hdK F f E a o n mm ch ao p = R →
      RZ (e + 1) k_Re_readAny 7 [vR 77, vI (5 - (k : Int)), vI (bI a), vI (bI o), vI j] [] (zH 42 m1) (qz 42 (qi fun x m' => RdR m m' x R)) := by
    intro c
    induction c with
    | zero => intro j p a o n mm ch ao m1 q1 q2 q3 q4 q5 q6; exfalso; omega
    | succ c ih =>
      intro j p a o n mm ch ao m1 q1 q2 q3 e1 p0 p1 fr hl hs hc hn hmm hh
      have hz : ∀ q : Bool, (bI q = 0 → q = false) ∧ (bI q ≠ 0 → q = true) ∧ (bI q = 0 ∨ bI q = 1) := by intro q; cases q <;> decide
      have za := hz a
      have zo := hz o
      have hS1 : RdS m1 E := RdF_S fr hS (by omega)
      have e42 : m1 42 = f := by rw [fr.1 42 (by decide) (by decide) (by decide)]; exact hf
      have hI1 : RdIn m1 E := ⟨hS1, by have := hI.2.1; omega, by omega⟩
      have part : CI e k_Re_readPart 42 m1 [vR 77, vI (5 - (k : Int))] (fun x m' => RdR m1 m' x (F p)) := by
        have := hP e m1 (by omega) hI1
        rw [e42, e1] at this
        rw [← hf, hF] at this
        exact this
      have gd := good p p0 p1
      have hcm : m 78 3 ≤ m1 78 3 := by omega
      have h2 : ∀ (m2 : XM) (q : Int) (t : List Int), F p = (q, some t) → RdR m1 m2 1 (q, some t) →
          RZ (e + 1) k_Re_readAny 24 [vR 77, vI (5 - (k : Int)), vI (bI a), vI (bI o), vI j] [] (zH 42 m2) (qz 42 (qi fun x m' => RdR m m' x R)) := by
        intro m2 q t hFp hr
        obtain ⟨g1, g2, g3, g4⟩ := gd.1 q t hFp
        obtain ⟨r1, r2, r3⟩ := hr
        have r2' : m2 77 1 = q := r2
        have r3' : m2 78 3 = m1 78 3 + t.length ∧ Seg (m2 82) (m1 78 3) (t.map cTok) := by
          rcases r3 with ⟨t', w1, _, w2, w3⟩ | ⟨w1, _⟩
          · have w1' : some t = some t' := w1
            rw [Option.some.injEq] at w1'
            rw [w1']; exact ⟨w2, w3⟩
          · exact absurd w1 (by simp)
        rw [hdK, hFp, bnd_some] at hh
        -- after an and
        have h36 : ∀ (m3 : XM) (c2 : List Int), c2 = (if a then ch ++ t ++ [-2] else t) → RdF m m3 → m3 77 1 = q → m3 78 3 = m 78 3 + (((if o then ao else []) ++ c2 : List Int).length : Int) → Seg (m3 82) (m 78 3) (((if o then ao else []) ++ c2 : List Int).map cTok) → m3 78 3 + bI o ≤ q →
            RZ (e + 1) k_Re_readAny 36 [vR 77, vI (5 - (k : Int)), vI (bI a), vI (bI o), vI j] [] (zH 42 m3) (qz 42 (qi fun x m' => RdR m m' x R)) := by
          intro m3 c2 hc2 f3 p3 l3 s3 b3
          rw [← hc2] at hh
          have hS3 : RdS m3 E := RdF_S f3 hS (by omega)
          have e423 : atM m3 E (m3 77 1) = atP f E q := by show atP (m3 42) E (m3 77 1) = _; rw [f3.1 42 (by decide) (by decide) (by decide), hf, p3]
          have t39 := c_Re_take e m3 E 38 (by omega) hS3 (by omega)
          rw [e423, p3] at t39
          have fu : 0 < (if a then n else 101) := by
            cases a with
            | false => show 0 < 101; decide
            | true => show 0 < n; have := hn rfl; omega
          -- after an or
          have h62 : ∀ (m4 : XM) (a4 : List Int), atP f E q ≠ 38 → a4 = (if o then ao ++ c2 ++ [-3] else c2) → RdF m m4 → m4 77 1 = q → m4 78 3 = m 78 3 + (a4.length : Int) → Seg (m4 82) (m 78 3) (a4.map cTok) → m4 78 3 ≤ q →
              RZ (e + 1) k_Re_readAny 62 [vR 77, vI (5 - (k : Int)), vI 0, vI (bI o), vI j] [] (zH 42 m4) (qz 42 (qi fun x m' => RdR m m' x R)) := by
            intro m4 a4 h38 ha4 f4 p4 l4 s4 b4
            rw [lp_stop _ h38, bnd_some, orK, ← ha4] at hh
            have hS4 : RdS m4 E := RdF_S f4 hS (by omega)
            have e424 : atM m4 E (m4 77 1) = atP f E q := by show atP (m4 42) E (m4 77 1) = _; rw [f4.1 42 (by decide) (by decide) (by decide), hf, p4]
            have t65 := c_Re_take e m4 E 124 (by omega) hS4 (by omega)
            rw [e424, p4] at t65
            have fo : 0 < (if o then mm else 101) := by
              cases o with
              | false => show 0 < 101; decide
              | true => show 0 < mm; have := hmm rfl; omega
            refine r_loadA a47_62 rfl (by decide) ?_
            refine r_pushI a47_63 ?_
            refine r_callI_2 a47_65 (Nat.le_of_ble_eq_true rfl) (le_mx mx54 (Nat.le_of_ble_eq_true rfl)) (Or.inr (recv_ok ty77 ow54 (by decide))) (t65) (fun x_65 m_65 h_65 => ?_)
            refine r_storeI_3 a47_68 rfl ?_
            refine r_loadI a47_69 rfl ?_
            refine r_ifne a47_70 (fun h_70 => ?_) (fun h_70 => ?_)
            · rcases h_65 with ⟨w1, w2, w3⟩ | ⟨w1, w2, w3⟩
              · rw [lp_go w2 fo] at hh
                have hlt := @atP_lt f E q (by rw [w2]; decide)
                refine r_iinc_4 a47_75 rfl (by omega) ?_
                refine r_goto a47_78 ?_
                rw [w1]
                have nx := ih (j + 1) (q + 1) false true 0 ((if o then mm else 101) - 1) [] a4 m_65 (by omega) (by omega) (by omega) (by rw [w3, up2_s]) (by omega) (by omega)
                  (RdF.trans f4 (by rw [w3]; exact RdF_p m4 _) (by omega)) (by rw [w3, up2_c (by decide), l4]; show _ = m 78 3 + (((a4 ++ [] : List Int)).length : Int); rw [List.append_nil]) (by rw [w3, up2_c (by decide)]; show Seg _ _ ((a4 ++ [] : List Int).map cTok); rw [List.append_nil]; exact s4)
                  (by rw [w3, up2_c (by decide)]; show m4 78 3 + 0 + 1 ≤ _; omega) (fun w => absurd w (by decide)) (fun _ => by
                    cases o with
                    | false => show (101 : Int) ≤ q + 1 + ((100 : Nat) : Int); omega
                    | true =>
                      have := hmm rfl
                      show (101 : Int) ≤ q + 1 + ((mm - 1 : Nat) : Int)
                      omega)
                  (by
                    rw [← hh]
                    show _ = bnd (bnd (F (q + 1)) (fun q t => lpP F f E 38 (-2) 101 q t)) _
                    rw [bnd_bnd]; rfl)
                exact nx
              · exfalso; omega
            · refine r_pushI a47_73 ?_
              refine r_retZq a47_74 (by omega) ?_
              rcases h_65 with ⟨w1, w2, w3⟩ | ⟨w1, w2, w3⟩
              · exfalso; omega
              · rw [lp_stop _ w2] at hh
                rw [← hh, w3]
                exact RdR_ok f4 p4 l4 s4
          refine r_loadA a47_36 rfl (by decide) ?_
          refine r_pushI a47_37 ?_
          refine r_callI_2 a47_39 (Nat.le_of_ble_eq_true rfl) (le_mx mx54 (Nat.le_of_ble_eq_true rfl)) (Or.inr (recv_ok ty77 ow54 (by decide))) (t39) (fun x_39 m_39 h_39 => ?_)
          refine r_storeI_2 a47_42 rfl ?_
          refine r_loadI a47_43 rfl ?_
          refine r_ifeq a47_44 (fun h_44 => ?_) (fun h_44 => ?_)
          · have w : atP f E q ≠ 38 ∧ m_39 = m3 ∧ x_39 = 0 := by
              rcases h_39 with ⟨w1, w2, w3⟩ | ⟨w1, w2, w3⟩
              · exfalso; omega
              · exact ⟨w2, w3, w1⟩
            obtain ⟨w2, w3, w1⟩ := w
            rw [w3, w1]
            refine r_loadI a47_50 rfl ?_
            refine r_ifeq a47_51 (fun h_51 => ?_) (fun h_51 => ?_)
            · have ho := zo.1 h_51
              rw [ho] at l3 s3
              exact h62 m3 c2 w2 (by rw [ho]; rfl) f3 p3 l3 s3 (by have := zo.2.2; omega)
            · refine r_loadA a47_54 rfl (by decide) ?_
              refine r_getR a47_55 ty77 rf77_0 (by decide) ?_
              refine r_pushI a47_58 ?_
              refine r_callV_2 a47_59 (Nat.le_of_ble_eq_true rfl) (le_mx mx7 (Nat.le_of_ble_eq_true rfl)) (Or.inr (recv_ok ty78 ow7 (by decide))) (c_Cl_write e 42 m3 1 (by have := hI.2.1; have := zo.2.2; omega)) (fun m_59 h_59 => ?_)
              have ho := zo.2.1 h_51
              have bo : bI o = 1 := by rw [ho]; rfl
              rw [ho] at l3 s3
              have l3' : m3 78 3 = m 78 3 + ((ao ++ c2 : List Int).length : Int) := l3
              have s3' : Seg (m3 82) (m 78 3) ((ao ++ c2 : List Int).map cTok) := s3
              refine h62 m_59 (ao ++ c2 ++ [-3]) w2 (by rw [ho]; rfl) (RdF.trans f3 (by rw [h_59]; exact RdF_w m3 1) (by have := hI.2.1; omega)) (by rw [h_59, wr_1]; exact p3) ?_ ?_ ?_
              · rw [h_59, wr_3, l3', List.length_append (as := ao ++ c2)]; push_cast; show _ = _ + (_ + ((1 : Nat) : Int)); omega
              · rw [h_59, List.map_append, Seg_app]
                refine ⟨Seg_le s3' (fun i i1 i2 => ?_), ?_⟩
                · rw [List.length_map] at i2; exact (RdF_w m3 1).2.2.2 i (by omega)
                · rw [List.length_map, ← l3']; exact ⟨wr_v m3 1, trivial⟩
              · rw [h_59, wr_3]; omega
          · refine r_goto a47_47 ?_
            rcases h_39 with ⟨w1, w2, w3⟩ | ⟨w1, w2, w3⟩
            · rw [lp_go w2 fu, bnd_bnd] at hh
              have hlt := @atP_lt f E q (by rw [w2]; decide)
              refine r_iinc_4 a47_75 rfl (by omega) ?_
              refine r_goto a47_78 ?_
              rw [w1]
              exact ih (j + 1) (q + 1) true o ((if a then n else 101) - 1) mm c2 ao m_39 (by omega) (by omega) (by omega) (by rw [w3, up2_s]) (by omega) (by omega)
                (RdF.trans f3 (by rw [w3]; exact RdF_p m3 _) (by omega)) (by rw [w3, up2_c (by decide)]; exact l3) (by rw [w3, up2_c (by decide)]; exact s3) (by rw [w3, up2_c (by decide)]; show m3 78 3 + 1 + bI o ≤ _; omega) (fun _ => by
                  cases a with
                  | false => show (101 : Int) ≤ q + 1 + ((100 : Nat) : Int); omega
                  | true =>
                    have := hn rfl
                    show (101 : Int) ≤ q + 1 + ((n - 1 : Nat) : Int)
                    omega) (fun w => by have := hmm w; omega) hh
            · exfalso; omega
        refine r_loadI a47_24 rfl ?_
        refine r_ifeq a47_25 (fun h_25 => ?_) (fun h_25 => ?_)
        · have ha := za.1 h_25
          refine h36 m2 t (by rw [ha]; rfl) (RdF.trans fr r1 hcm) r2' ?_ ?_ ?_
          · rw [ha] at hl
            have hl' : m1 78 3 = m 78 3 + (((if o then ao else []) ++ [] : List Int).length : Int) := hl
            rw [List.append_nil] at hl'
            rw [r3'.1, hl', List.length_append]; push_cast; omega
          · rw [ha] at hl hs
            have hl' : m1 78 3 = m 78 3 + (((if o then ao else []) ++ [] : List Int).length : Int) := hl
            have hs' : Seg (m1 82) (m 78 3) (((if o then ao else []) ++ [] : List Int).map cTok) := hs
            rw [List.append_nil] at hl' hs'
            rw [List.map_append, Seg_app]
            refine ⟨Seg_le hs' (fun i i1 i2 => ?_), ?_⟩
            · rw [List.length_map] at i2; exact r1.2.2.2 i (by omega)
            · rw [List.length_map, ← hl']; exact r3'.2
          · have := za.2.2; omega
        · refine r_loadA a47_28 rfl (by decide) ?_
          refine r_getR a47_29 ty77 rf77_0 (by decide) ?_
          refine r_pushI a47_32 ?_
          refine r_callV_2 a47_33 (Nat.le_of_ble_eq_true rfl) (le_mx mx7 (Nat.le_of_ble_eq_true rfl)) (Or.inr (recv_ok ty78 ow7 (by decide))) (c_Cl_write e 42 m2 0 (by have := hI.2.1; have := zo.2.2; have := za.2.2; omega)) (fun m_33 h_33 => ?_)
          have ha := za.2.1 h_25
          have ba : bI a = 1 := by rw [ha]; rfl
          rw [ha] at hl hs
          have hl' : m1 78 3 = m 78 3 + (((if o then ao else []) ++ ch : List Int).length : Int) := hl
          have hs' : Seg (m1 82) (m 78 3) (((if o then ao else []) ++ ch : List Int).map cTok) := hs
          refine h36 m_33 (ch ++ t ++ [-2]) (by rw [ha]; rfl) (RdF.trans (RdF.trans fr r1 hcm) (by rw [h_33]; exact RdF_w m2 0) (by omega)) (by rw [h_33, wr_1]; exact r2') ?_ ?_ ?_
          · rw [h_33, wr_3, r3'.1, hl', List.length_append, List.length_append, List.length_append, List.length_append]; push_cast; show _ = _ + (_ + (_ + _ + ((1 : Nat) : Int))); omega
          · have el : (((if o then ao else []) ++ (ch ++ t ++ [-2]) : List Int).map cTok) = (((if o then ao else []) ++ ch : List Int).map cTok) ++ (t.map cTok ++ [cTok (-2)]) := by
              rw [List.map_append, List.map_append, List.map_append, List.map_append, List.append_assoc, List.append_assoc]; rfl
            rw [h_33, el, Seg_app, Seg_app, List.length_map, ← hl']
            refine ⟨Seg_le hs' (fun i i1 i2 => ?_), Seg_le r3'.2 (fun i i1 i2 => ?_), ?_⟩
            · rw [List.length_map] at i2
              rw [(RdF_w m2 0).2.2.2 i (by omega)]; exact r1.2.2.2 i (by omega)
            · rw [List.length_map] at i2; rw [(RdF_w m2 0).2.2.2 i (by omega)]
            · rw [List.length_map, ← r3'.1]; exact ⟨wr_v m2 0, trivial⟩
          · rw [h_33, wr_3]; omega
      refine r_loadI a47_7 rfl ?_
      refine r_pushI a47_9 ?_
      refine r_icge a47_11 (fun h_11 => ?_) (fun h_11 => ?_)
      · exfalso
        omega
      · refine r_loadA a47_14 rfl (by decide) ?_
        refine r_loadI a47_15 rfl ?_
        refine r_callI_2 a47_16 (Nat.le_of_ble_eq_true rfl) (le_mx mx48 (Nat.le_of_ble_eq_true rfl)) (Or.inr (recv_ok ty77 ow48 (by decide))) (part) (fun x_16 m_16 h_16 => ?_)
        refine r_ifne a47_19 (fun h_19 => ?_) (fun h_19 => ?_)
        · rcases bnd_cases (F p) (fun q t => (q, some t)) with ⟨q, t, w1, _⟩ | ⟨q, w1, _⟩
          · rw [w1] at h_16
            have hx : x_16 = 1 := by
              rcases h_16.2.2 with ⟨_, _, u, _⟩ | ⟨u, _⟩
              · exact u
              · exact absurd u (by simp)
            rw [hx] at h_16
            exact h2 m_16 q t w1 h_16
          · exfalso
            rw [w1] at h_16
            rcases h_16.2.2 with ⟨_, u, _⟩ | ⟨_, u⟩
            · exact absurd u (by simp)
            · omega
        · refine r_pushI a47_22 ?_
          refine r_retZq a47_23 (by omega) ?_
          rw [hdK] at hh
          rcases bnd_cases (F p) (fun q t => bnd (lpP F f E 38 (-2) (if a then n else 101) q (if a then ch ++ t ++ [-2] else t)) (orK F f E o mm ao)) with ⟨q, t, w1, w2⟩ | ⟨q, w1, w2⟩
          · exfalso
            rw [w1] at h_16
            rcases h_16.2.2 with ⟨_, _, u, _⟩ | ⟨u, _⟩
            · omega
            · exact absurd u (by simp)
          · rw [w2] at hh
            rw [w1] at h_16
            rw [← hh]
            exact RdR_fail (RdF.trans fr h_16.1 hcm) h_16.2.1
  refine r_entry mx47 rfl ?_
  refine r_pushI a47_0 ?_
  refine r_storeI_2 a47_1 rfl ?_
  refine r_pushI a47_2 ?_
  refine r_storeI_3 a47_3 rfl ?_
  refine r_pushI a47_4 ?_
  refine r_storeI_4 a47_5 rfl ?_
  exact loop 101 0 (m 77 1) false false 0 0 [] [] m (by omega) (by omega) (by omega) rfl hp0.1 hp0.2 (RdF.refl m) (by show m 78 3 = m 78 3 + ((0 : Nat) : Int); omega) trivial (by have := hI.2.2; show m 78 3 + 0 + 0 ≤ _; omega) (fun w => absurd w (by decide)) (fun w => absurd w (by decide)) hR
theorem c_Re_part (E : Int) : ∀ k : Nat, k ≤ 5 → PartC E k := by
  intro k
  induction k with
  | zero =>
    intro _ d m hd hI
    obtain ⟨e, rfl⟩ : ∃ e, d = e + 1 := ⟨d - 1, by omega⟩
    have hS := hI.1
    have hk : (5 : Int) - ((0 : Nat) : Int) = 5 := by omega
    rw [hk]
    have ef : faP (m 42) E 0 (m 77 1) = if atM m E (m 77 1) = 33 ∨ atM m E (m 77 1) = 40 then (m 77 1, none) else pTest (m 42) E (m 77 1) := rfl
    rw [ef]
    refine r_entry mx48 rfl ?_
    refine r_loadA a48_0 rfl (by decide) ?_
    refine r_pushI a48_1 ?_
    refine r_callI_2 a48_3 (Nat.le_of_ble_eq_true rfl) (le_mx mx53 (Nat.le_of_ble_eq_true rfl)) (Or.inr (recv_ok ty77 ow53 (by decide))) (c_Re_sees e m E 33 hS (by omega)) (fun x_3 m_3 h_3 => ?_)
    obtain ⟨hm_3, h_3⟩ := h_3
    rw [hm_3]
    refine r_ifeq a48_6 (fun h_6 => ?_) (fun h_6 => ?_)
    · refine r_loadA a48_30 rfl (by decide) ?_
      refine r_pushI a48_31 ?_
      refine r_callI_2 a48_33 (Nat.le_of_ble_eq_true rfl) (le_mx mx53 (Nat.le_of_ble_eq_true rfl)) (Or.inr (recv_ok ty77 ow53 (by decide))) (c_Re_sees e m E 40 hS (by omega)) (fun x_33 m_33 h_33 => ?_)
      obtain ⟨hm_33, h_33⟩ := h_33
      rw [hm_33]
      refine r_ifeq a48_36 (fun h_36 => ?_) (fun h_36 => ?_)
      · refine r_loadA a48_78 rfl (by decide) ?_
        refine r_callI_1 a48_79 (Nat.le_of_ble_eq_true rfl) (le_mx mx50 (Nat.le_of_ble_eq_true rfl)) (Or.inr (recv_ok ty77 ow50 (by decide))) (c_Re_readTest e m E (by omega) hI) (fun x_79 m_79 h_79 => ?_)
        refine r_retZq a48_82 (by rcases h_79.2.2 with ⟨_, _, u, _⟩ | ⟨_, u⟩ <;> omega) ?_
        rw [if_neg (by omega)]; exact h_79
      · refine r_loadI a48_39 rfl ?_
        refine r_pushI a48_40 ?_
        refine r_icge a48_41 (fun h_41 => ?_) (fun h_41 => ?_)
        · refine r_pushI a48_76 ?_
          refine r_retZq a48_77 (by omega) ?_
          rw [if_pos (by omega)]; exact RdR_fail (RdF.refl m) rfl
        · exfalso
          omega
    · refine r_loadI a48_9 rfl ?_
      refine r_pushI a48_10 ?_
      refine r_icge a48_11 (fun h_11 => ?_) (fun h_11 => ?_)
      · refine r_pushI a48_28 ?_
        refine r_retZq a48_29 (by omega) ?_
        rw [if_pos (by omega)]; exact RdR_fail (RdF.refl m) rfl
      · exfalso
        omega
  | succ k ih =>
    intro hk d m hd hI
    have hP := ih (by omega)
    obtain ⟨e, rfl⟩ : ∃ e, d = e + 2 := ⟨d - 2, by omega⟩
    have hS := hI.1
    have hb := hS.2.1
    have hp := hS.2.2.1
    have hlt := @atP_lt (m 42) E (m 77 1)
    have hkk : (5 : Int) - ((k + 1 : Nat) : Int) + 1 = 5 - (k : Int) := by push_cast; omega
    have hk0 : (5 : Int) - ((k + 1 : Nat) : Int) < 5 := by push_cast; omega
    have ef : faP (m 42) E (k + 1) (m 77 1) = if atM m E (m 77 1) = 33 then bnd (faP (m 42) E k (m 77 1 + 1)) (fun q t => (q, some (t ++ [-1])))
      else if atM m E (m 77 1) = 40 then bnd (soP (faP (m 42) E k) (m 42) E (m 77 1 + 1)) (fun q t => if atP (m 42) E q = 41 then (q + 1, some t) else (q, none))
      else pTest (m 42) E (m 77 1) := rfl
    rw [ef]
    -- one sign is taken
    have one : atM m E (m 77 1) ≠ -1 → RdIn (up2 m 77 1 (m 77 1 + 1)) E := fun w => by
      have := hlt w
      exact ⟨RdS_up hS (by omega), by rw [up2_c (by decide)]; exact hI.2.1, by rw [up2_c (by decide), up2_s]; have := hI.2.2; omega⟩
    have nt : atM m E (m 77 1) = 33 → CI (e + 1) k_Re_readNot 42 m [vR 77, vI (5 - (k : Int))] (fun x m' => RdR m m' x (bnd (faP (m 42) E k (m 77 1 + 1)) (fun q t => (q, some (t ++ [-1]))))) := by
      intro h33
      have hI2 := one (by omega)
      have part := hP e (up2 m 77 1 (m 77 1 + 1)) (by omega) hI2
      rw [up2_c (show 42 ≠ 77 by decide), up2_s] at part
      have gd := faP_good (m 42) E k (by omega) (m 77 1 + 1) (by omega) (by have := hlt (show atM m E (m 77 1) ≠ -1 by omega); omega)
      refine r_entry mx49 rfl ?_
      refine r_loadA a49_0 rfl (by decide) ?_
      refine r_pushI a49_1 ?_
      refine r_callI_2 a49_3 (Nat.le_of_ble_eq_true rfl) (le_mx mx54 (Nat.le_of_ble_eq_true rfl)) (Or.inr (recv_ok ty77 ow54 (by decide))) (c_Re_take e m E 33 (by omega) hS (by omega)) (fun x_3 m_3 h_3 => ?_)
      have hm : m_3 = up2 m 77 1 (m 77 1 + 1) ∧ x_3 = 1 := by
        rcases h_3 with ⟨w1, w2, w3⟩ | ⟨w1, w2, w3⟩
        · exact ⟨w3, w1⟩
        · exact absurd h33 w2
      rw [hm.1]
      refine r_ifeq a49_6 (fun h_6 => ?_) (fun h_6 => ?_)
      · exfalso
        omega
      · refine r_loadA a49_9 rfl (by decide) ?_
        refine r_loadI a49_10 rfl ?_
        refine r_callI_2 a49_11 (Nat.le_of_ble_eq_true rfl) (le_mx mx48 (Nat.le_of_ble_eq_true rfl)) (Or.inr (recv_ok ty77 ow48 (by decide))) (part) (fun x_11 m_11 h_11 => ?_)
        have fr : RdF m m_11 := RdF.trans (RdF_p m _) h_11.1 (by rw [up2_c (by decide)]; omega)
        refine r_ifne a49_14 (fun h_14 => ?_) (fun h_14 => ?_)
        · have ok : ∃ q t, faP (m 42) E k (m 77 1 + 1) = (q, some t) ∧ m_11 77 1 = q ∧ m_11 78 3 = m 78 3 + t.length ∧ Seg (m_11 82) (m 78 3) (t.map cTok) := by
            rcases bnd_cases (faP (m 42) E k (m 77 1 + 1)) (fun q t => (q, some t)) with ⟨q, t, w1, _⟩ | ⟨q, w1, _⟩
            · rw [w1] at h_11
              rcases h_11.2.2 with ⟨t', u1, _, u2, u3⟩ | ⟨u, _⟩
              · have u1' : some t = some t' := u1
                rw [Option.some.injEq] at u1'
                rw [← u1'] at u2 u3
                rw [up2_c (by decide)] at u2 u3
                exact ⟨q, t, w1, h_11.2.1, u2, u3⟩
              · exact absurd u (by simp)
            · exfalso
              rw [w1] at h_11
              rcases h_11.2.2 with ⟨_, u, _⟩ | ⟨_, u⟩
              · exact absurd u (by simp)
              · omega
          obtain ⟨q, t, k1, k2, k3, k4⟩ := ok
          obtain ⟨g1, g2, g3, _⟩ := gd.1 q t k1
          refine r_loadA a49_19 rfl (by decide) ?_
          refine r_getR a49_20 ty77 rf77_0 (by decide) ?_
          refine r_pushI a49_23 ?_
          refine r_callV_2 a49_24 (Nat.le_of_ble_eq_true rfl) (le_mx mx7 (Nat.le_of_ble_eq_true rfl)) (Or.inr (recv_ok ty78 ow7 (by decide))) (c_Cl_write e 42 m_11 2 (by have := hI.2.1; have := hI.2.2; omega)) (fun m_24 h_24 => ?_)
          refine r_pushI a49_27 ?_
          refine r_retZq a49_28 (by omega) ?_
          rw [k1, bnd_some, h_24]
          refine RdR_ok (RdF.trans fr (RdF_w m_11 2) (by omega)) (by rw [wr_1]; exact k2) ?_ ?_
          · rw [wr_3, k3, List.length_append]; push_cast; show _ = _ + (_ + ((1 : Nat) : Int)); omega
          · rw [List.map_append, Seg_app]
            refine ⟨Seg_le k4 (fun i i1 i2 => ?_), ?_⟩
            · rw [List.length_map] at i2; exact (RdF_w m_11 2).2.2.2 i (by omega)
            · rw [List.length_map, ← k3]; exact ⟨wr_v m_11 2, trivial⟩
        · refine r_pushI a49_17 ?_
          refine r_retZq a49_18 (by omega) ?_
          rcases bnd_cases (faP (m 42) E k (m 77 1 + 1)) (fun q t => (q, some (t ++ [-1]))) with ⟨q, t, w1, w2⟩ | ⟨q, w1, w2⟩
          · exfalso
            rw [w1] at h_11
            rcases h_11.2.2 with ⟨_, _, u, _⟩ | ⟨u, _⟩
            · omega
            · exact absurd u (by simp)
          · rw [w2]
            rw [w1] at h_11
            exact RdR_fail fr h_11.2.1
    refine r_entry mx48 rfl ?_
    refine r_loadA a48_0 rfl (by decide) ?_
    refine r_pushI a48_1 ?_
    refine r_callI_2 a48_3 (Nat.le_of_ble_eq_true rfl) (le_mx mx53 (Nat.le_of_ble_eq_true rfl)) (Or.inr (recv_ok ty77 ow53 (by decide))) (c_Re_sees (e + 1) m E 33 hS (by omega)) (fun x_3 m_3 h_3 => ?_)
    obtain ⟨hm_3, h_3⟩ := h_3
    rw [hm_3]
    refine r_ifeq a48_6 (fun h_6 => ?_) (fun h_6 => ?_)
    · refine r_loadA a48_30 rfl (by decide) ?_
      refine r_pushI a48_31 ?_
      refine r_callI_2 a48_33 (Nat.le_of_ble_eq_true rfl) (le_mx mx53 (Nat.le_of_ble_eq_true rfl)) (Or.inr (recv_ok ty77 ow53 (by decide))) (c_Re_sees (e + 1) m E 40 hS (by omega)) (fun x_33 m_33 h_33 => ?_)
      obtain ⟨hm_33, h_33⟩ := h_33
      rw [hm_33]
      refine r_ifeq a48_36 (fun h_36 => ?_) (fun h_36 => ?_)
      · refine r_loadA a48_78 rfl (by decide) ?_
        refine r_callI_1 a48_79 (Nat.le_of_ble_eq_true rfl) (le_mx mx50 (Nat.le_of_ble_eq_true rfl)) (Or.inr (recv_ok ty77 ow50 (by decide))) (c_Re_readTest (e + 1) m E (by omega) hI) (fun x_79 m_79 h_79 => ?_)
        refine r_retZq a48_82 (by rcases h_79.2.2 with ⟨_, _, u, _⟩ | ⟨_, u⟩ <;> omega) ?_
        rw [if_neg (by omega), if_neg (by omega)]; exact h_79
      · refine r_loadI a48_39 rfl ?_
        refine r_pushI a48_40 ?_
        refine r_icge a48_41 (fun h_41 => ?_) (fun h_41 => ?_)
        · exfalso
          omega
        · refine r_loadA a48_44 rfl (by decide) ?_
          refine r_pushI a48_45 ?_
          refine r_callI_2 a48_47 (Nat.le_of_ble_eq_true rfl) (le_mx mx54 (Nat.le_of_ble_eq_true rfl)) (Or.inr (recv_ok ty77 ow54 (by decide))) (c_Re_take (e + 1) m E 40 (by omega) hS (by omega)) (fun x_47 m_47 h_47 => ?_)
          have h40 : atM m E (m 77 1) = 40 := by omega
          have hm : m_47 = up2 m 77 1 (m 77 1 + 1) ∧ x_47 = 1 := by
            rcases h_47 with ⟨w1, w2, w3⟩ | ⟨w1, w2, w3⟩
            · exact ⟨w3, w1⟩
            · exact absurd h40 w2
          rw [hm.1]
          have hI2 := one (by omega)
          have any := c_Re_any E k (by omega) hP (e + 1) (up2 m 77 1 (m 77 1 + 1)) (by omega) hI2
          rw [up2_c (show 42 ≠ 77 by decide), up2_s] at any
          have gd := (soP_good (f := m 42) (A := 12 - 2 * (k + 1)) (GoodF_mono (faP_good (m 42) E k (by omega)) (by omega))) (m 77 1 + 1) (by omega) (by have := hlt (show atM m E (m 77 1) ≠ -1 by omega); omega)
          refine r_ifeq a48_50 (fun h_50 => ?_) (fun h_50 => ?_)
          · exfalso
            omega
          · refine r_loadA a48_53 rfl (by decide) ?_
            refine r_loadI a48_54 rfl ?_
            refine r_pushI a48_55 ?_
            refine r_add a48_56 (by omega) ?_
            rw [hkk]
            refine r_callI_2 a48_57 (Nat.le_of_ble_eq_true rfl) (le_mx mx47 (Nat.le_of_ble_eq_true rfl)) (Or.inr (recv_ok ty77 ow47 (by decide))) (any) (fun x_57 m_57 h_57 => ?_)
            have fr : RdF m m_57 := RdF.trans (RdF_p m _) h_57.1 (by rw [up2_c (by decide)]; omega)
            refine r_ifeq a48_60 (fun h_60 => ?_) (fun h_60 => ?_)
            · refine r_pushI a48_76 ?_
              refine r_retZq a48_77 (by omega) ?_
              rw [if_neg (by omega), if_pos h40]
              first
                | (have k1' := k1
                   rw [k1, bnd_some]
                   rcases h_66 with ⟨w1, w2, w3⟩ | ⟨w1, w2, w3⟩
                   · first
                       | (exfalso; omega)
                       | (rw [if_pos w2, w3]
                          exact RdR_ok (RdF.trans fr (RdF_p m_57 _) (by omega)) (up2_s _ _ _ _) (by rw [up2_c (by decide)]; exact k3) (by rw [up2_c (by decide)]; exact k4))
                   · first
                       | (exfalso; omega)
                       | (rw [if_neg w2, w3]
                          exact RdR_fail fr k2))
                | (rcases bnd_cases (soP (faP (m 42) E k) (m 42) E (m 77 1 + 1)) (fun q t => if atP (m 42) E q = 41 then (q + 1, some t) else (q, none)) with ⟨q, t, w1, w2⟩ | ⟨q, w1, w2⟩
                   · exfalso
                     rw [w1] at h_57
                     rcases h_57.2.2 with ⟨_, _, u, _⟩ | ⟨u, _⟩
                     · omega
                     · exact absurd u (by simp)
                   · rw [w2]
                     rw [w1] at h_57
                     exact RdR_fail fr h_57.2.1)
            · have ok : ∃ q t, soP (faP (m 42) E k) (m 42) E (m 77 1 + 1) = (q, some t) ∧ m_57 77 1 = q ∧ m_57 78 3 = m 78 3 + t.length ∧ Seg (m_57 82) (m 78 3) (t.map cTok) := by
                rcases bnd_cases (soP (faP (m 42) E k) (m 42) E (m 77 1 + 1)) (fun q t => (q, some t)) with ⟨q, t, w1, _⟩ | ⟨q, w1, _⟩
                · rw [w1] at h_57
                  rcases h_57.2.2 with ⟨t', u1, _, u2, u3⟩ | ⟨u, _⟩
                  · have u1' : some t = some t' := u1
                    rw [Option.some.injEq] at u1'
                    rw [← u1'] at u2 u3
                    rw [up2_c (by decide)] at u2 u3
                    exact ⟨q, t, w1, h_57.2.1, u2, u3⟩
                  · exact absurd u (by simp)
                · exfalso
                  rw [w1] at h_57
                  rcases h_57.2.2 with ⟨_, u, _⟩ | ⟨_, u⟩
                  · exact absurd u (by simp)
                  · omega
              obtain ⟨q, t, k1, k2, k3, k4⟩ := ok
              obtain ⟨g1, g2, g3, _⟩ := gd.1 q t k1
              have hS3 : RdS m_57 E := RdF_S fr hS (by omega)
              have t66 := c_Re_take (e + 1) m_57 E 41 (by omega) hS3 (by omega)
              have e423 : atM m_57 E (m_57 77 1) = atP (m 42) E q := by show atP (m_57 42) E (m_57 77 1) = _; rw [fr.1 42 (by decide) (by decide) (by decide), k2]
              rw [e423, k2] at t66
              refine r_loadA a48_63 rfl (by decide) ?_
              refine r_pushI a48_64 ?_
              refine r_callI_2 a48_66 (Nat.le_of_ble_eq_true rfl) (le_mx mx54 (Nat.le_of_ble_eq_true rfl)) (Or.inr (recv_ok ty77 ow54 (by decide))) (t66) (fun x_66 m_66 h_66 => ?_)
              refine r_ifeq a48_69 (fun h_69 => ?_) (fun h_69 => ?_)
              · refine r_pushI a48_76 ?_
                refine r_retZq a48_77 (by omega) ?_
                rw [if_neg (by omega), if_pos h40]
                first
                  | (have k1' := k1
                     rw [k1, bnd_some]
                     rcases h_66 with ⟨w1, w2, w3⟩ | ⟨w1, w2, w3⟩
                     · first
                         | (exfalso; omega)
                         | (rw [if_pos w2, w3]
                            exact RdR_ok (RdF.trans fr (RdF_p m_57 _) (by omega)) (up2_s _ _ _ _) (by rw [up2_c (by decide)]; exact k3) (by rw [up2_c (by decide)]; exact k4))
                     · first
                         | (exfalso; omega)
                         | (rw [if_neg w2, w3]
                            exact RdR_fail fr k2))
                  | (rcases bnd_cases (soP (faP (m 42) E k) (m 42) E (m 77 1 + 1)) (fun q t => if atP (m 42) E q = 41 then (q + 1, some t) else (q, none)) with ⟨q, t, w1, w2⟩ | ⟨q, w1, w2⟩
                     · exfalso
                       rw [w1] at h_57
                       rcases h_57.2.2 with ⟨_, _, u, _⟩ | ⟨u, _⟩
                       · omega
                       · exact absurd u (by simp)
                     · rw [w2]
                       rw [w1] at h_57
                       exact RdR_fail fr h_57.2.1)
              · refine r_pushI a48_72 ?_
                refine r_goto a48_73 ?_
                refine r_retZq a48_77 (by omega) ?_
                rw [if_neg (by omega), if_pos h40]
                first
                  | (have k1' := k1
                     rw [k1, bnd_some]
                     rcases h_66 with ⟨w1, w2, w3⟩ | ⟨w1, w2, w3⟩
                     · first
                         | (exfalso; omega)
                         | (rw [if_pos w2, w3]
                            exact RdR_ok (RdF.trans fr (RdF_p m_57 _) (by omega)) (up2_s _ _ _ _) (by rw [up2_c (by decide)]; exact k3) (by rw [up2_c (by decide)]; exact k4))
                     · first
                         | (exfalso; omega)
                         | (rw [if_neg w2, w3]
                            exact RdR_fail fr k2))
                  | (rcases bnd_cases (soP (faP (m 42) E k) (m 42) E (m 77 1 + 1)) (fun q t => if atP (m 42) E q = 41 then (q + 1, some t) else (q, none)) with ⟨q, t, w1, w2⟩ | ⟨q, w1, w2⟩
                     · exfalso
                       rw [w1] at h_57
                       rcases h_57.2.2 with ⟨_, _, u, _⟩ | ⟨u, _⟩
                       · omega
                       · exact absurd u (by simp)
                     · rw [w2]
                       rw [w1] at h_57
                       exact RdR_fail fr h_57.2.1)
    · refine r_loadI a48_9 rfl ?_
      refine r_pushI a48_10 ?_
      refine r_icge a48_11 (fun h_11 => ?_) (fun h_11 => ?_)
      · exfalso
        omega
      · refine r_loadA a48_14 rfl (by decide) ?_
        refine r_loadI a48_15 rfl ?_
        refine r_pushI a48_16 ?_
        refine r_add a48_17 (by omega) ?_
        rw [hkk]
        refine r_callI_2 a48_18 (Nat.le_of_ble_eq_true rfl) (le_mx mx49 (Nat.le_of_ble_eq_true rfl)) (Or.inr (recv_ok ty77 ow49 (by decide))) (nt (by omega)) (fun x_18 m_18 h_18 => ?_)
        refine r_ifeq a48_21 (fun h_21 => ?_) (fun h_21 => ?_)
        · refine r_pushI a48_28 ?_
          refine r_retZq a48_29 (by omega) ?_
          rw [if_pos (by omega)]
          first
            | (have hx : x_18 = 1 := by rcases h_18.2.2 with ⟨_, _, u, _⟩ | ⟨_, u⟩ <;> omega
               rw [hx] at h_18; exact h_18)
            | (have hx : x_18 = 0 := by omega
               rw [hx] at h_18; exact h_18)
        · refine r_pushI a48_24 ?_
          refine r_goto a48_25 ?_
          refine r_retZq a48_29 (by omega) ?_
          rw [if_pos (by omega)]
          first
            | (have hx : x_18 = 1 := by rcases h_18.2.2 with ⟨_, _, u, _⟩ | ⟨_, u⟩ <;> omega
               rw [hx] at h_18; exact h_18)
            | (have hx : x_18 = 0 := by omega
               rw [hx] at h_18; exact h_18)
