-- ===== the class reads: a clause, a tape, a slope =====
theorem c_Cl_append (d z : Nat) (m : XM) (w v n c : Int) (hw : w = 0 ∨ w = 1) (hn : m 78 2 = n) (h0 : 0 ≤ n ∧ n < 10) (hc : m 78 3 = c) : CV d k_Cl_append z m [vR 78, vI w, vI v] (fun m' => m' = up2 (up2 (up2 (up2 m 79 n w) 80 n v) 81 n c) 78 2 (n + 1)) := by
  refine r_entry mx8 rfl ?_
  refine r_loadA a8_0 rfl (by decide) ?_
  refine r_getI (ki := 2) a8_1 ty78 rfl ?_
  rw [hn]
  refine r_pushI a8_4 ?_
  refine r_icge a8_6 (fun h_6 => ?_) (fun h_6 => ?_)
  · exfalso
    omega
  · refine r_loadA a8_9 rfl (by decide) ?_
    refine r_getR a8_10 ty78 rf78_4 (by decide) ?_
    refine r_loadA a8_13 rfl (by decide) ?_
    refine r_getI (ki := 2) a8_14 ty78 rfl ?_
    rw [hn]
    refine r_loadI a8_17 rfl ?_
    refine r_bast a8_18 ty79 (by omega) (by omega) ?_
    refine r_loadA a8_19 rfl (by decide) ?_
    refine r_getR a8_20 ty78 rf78_5 (by decide) ?_
    refine r_loadA a8_23 rfl (by decide) ?_
    refine r_getI (ki := 2) a8_24 ty78 rfl ?_
    rw [up2_c (by decide), hn]
    refine r_loadI a8_27 rfl ?_
    refine r_iast a8_28 ty80 (by omega) ?_
    refine r_loadA a8_29 rfl (by decide) ?_
    refine r_getR a8_30 ty78 rf78_6 (by decide) ?_
    refine r_loadA a8_33 rfl (by decide) ?_
    refine r_getI (ki := 2) a8_34 ty78 rfl ?_
    rw [up2_c (by decide), up2_c (by decide), hn]
    refine r_loadA a8_37 rfl (by decide) ?_
    refine r_getI (ki := 3) a8_38 ty78 rfl ?_
    rw [up2_c (by decide), up2_c (by decide), hc]
    refine r_iast a8_41 ty81 (by omega) ?_
    refine r_loadA a8_42 rfl (by decide) ?_
    refine r_dup a8_43 rfl ?_
    refine r_getI (ki := 2) a8_44 ty78 rfl ?_
    rw [up2_c (by decide), up2_c (by decide), up2_c (by decide), hn]
    refine r_pushI a8_47 ?_
    refine r_add a8_48 (by omega) ?_
    refine r_putI (ki := 2) a8_49 ty78 rfl ?_
    refine r_retVq a8_52 ?_
    rfl
theorem c_Re_readClause (d : Nat) (m : XM) (E r fo : Int) (cl : CLs) (hd : 21 ≤ d) (hI : RdIn m E) (hM : MdR m r fo cl) (hl : cl.length < 10) : CI d k_Re_readClause 42 m [vR 77] (fun x m' => RdC m m' x (pClause (m 42) E (m 77 1) r fo cl)) := by
  obtain ⟨e, rfl⟩ : ∃ e, d = e + 1 := ⟨d - 1, by omega⟩
  have hS := hI.1
  obtain ⟨f, hf⟩ : ∃ f, m 42 = f := ⟨_, rfl⟩
  obtain ⟨p, hp⟩ : ∃ p, m 77 1 = p := ⟨_, rfl⟩
  have hpb := hS.2.2.1
  rw [hp] at hpb
  have hbE := hS.2.1
  have hc1 := hI.2.1
  have hc2 := hI.2.2
  rw [hp] at hc2
  have hat : atM m E (m 77 1) = atP f E p := by show atP (m 42) E (m 77 1) = _; rw [hf, hp]
  have hz : ∀ q : Bool, (bI q = 0 → q = false) ∧ (bI q ≠ 0 → q = true) := by intro q; cases q <;> decide
  have hn2 : m 78 2 = cl.length := by have := (ClR_len hM.2.2).1; omega
  obtain ⟨R, hR⟩ : ∃ R, pClause (m 42) E (m 77 1) r fo cl = R := ⟨_, rfl⟩
  rw [hR]
  rw [hf, hp] at hR
  unfold pClause at hR
  have word : ∀ (w : Bool) (o : Nat) (L : List Int), (w = true ∧ o = 9 ∧ L = wWax) ∨ (w = false ∧ o = 10 ∧ L = wIce) → pMuch f E w L p r fo cl = R → ∀ y2, RZ (e + 1) k_Re_readClause 37 [vR 77, vI (bI w), y2] [vR o, vR 77] (zH 42 m) (qz 42 (qi fun x m' => RdC m m' x R)) := by
    intro w o L hw hh y2
    have hL : ∀ c ∈ L, c ≠ -1 := by rcases hw with ⟨_, _, q⟩ | ⟨_, _, q⟩ <;> rw [q] <;> decide
    have wl := pWord_r (f := f) (E := E) L hL p hpb.1 hpb.2
    have t37 : CI e k_Re_takeWord 42 m [vR 77, vR o] (fun x m' => x = bI (pWord f E L p).2 ∧ m' = up2 m 77 1 (pWord f E L p).1) := by
      rcases hw with ⟨_, q1, q2⟩ | ⟨_, q1, q2⟩ <;> subst q1 <;> subst q2
      · have := c_Re_takeWord_9 e m E (by omega) hS
        rw [hf, hp] at this; exact this
      · have := c_Re_takeWord_10 e m E (by omega) hS
        rw [hf, hp] at this; exact this
    unfold pMuch at hh
    have hbw : bI w = 0 ∨ bI w = 1 := by cases w <;> decide
    have fail : ∀ (q : Int) (m1 : XM), m1 = up2 m 77 1 q → RdC m m1 0 (q, none) := fun q m1 h => by rw [h]; exact ⟨RdF_K (RdF_p m _), up2_s _ _ _ _, Or.inr ⟨rfl, rfl⟩⟩
    refine r_callI_2 a45_37 (Nat.le_of_ble_eq_true rfl) (le_mx mx55 (Nat.le_of_ble_eq_true rfl)) (Or.inr (recv_ok ty77 ow55 (by decide))) (t37) (fun x_37 m_37 h_37 => ?_)
    refine r_ifne a45_40 (fun h_40 => ?_) (fun h_40 => ?_)
    · refine r_loadA a45_45 rfl (by decide) ?_
      have hb := (hz (pWord f E L p).2).2 (by rw [← h_37.1]; exact h_40)
      rw [if_pos hb] at hh
      obtain ⟨q, hq⟩ : ∃ q, (pWord f E L p).1 = q := ⟨_, rfl⟩
      rw [hq] at hh wl
      have hm37 : m_37 = up2 m 77 1 q := by rw [← hq]; exact h_37.2
      have hS1 : RdS m_37 E := by rw [hm37]; exact RdS_up hS ⟨by omega, wl.2.1⟩
      have t46 := c_Re_readNumber e m_37 E (by omega) hS1
      have e421 : m_37 42 = f := by rw [hm37, up2_c (by decide)]; exact hf
      have ep1 : m_37 77 1 = q := by rw [hm37, up2_s]
      rw [e421, ep1] at t46
      refine r_callI_1 a45_46 (Nat.le_of_ble_eq_true rfl) (le_mx mx52 (Nat.le_of_ble_eq_true rfl)) (Or.inr (recv_ok ty77 ow52 (by decide))) (t46) (fun x_46 m_46 h_46 => ?_)
      have ok : (∃ v q2, pNum f E q = some (v, q2) ∧ x_46 = v ∧ m_46 = up2 m 77 1 q2) ∨ (pNum f E q = none ∧ x_46 = -1 ∧ m_46 = up2 m 77 1 q) := by
        rcases h_46 with ⟨v, q2, a, b, c⟩ | ⟨a, b, c⟩
        · exact Or.inl ⟨v, q2, a, b, by rw [c, hm37, up2_up2]⟩
        · exact Or.inr ⟨a, b, by rw [c, hm37]⟩
      refine r_storeI_2 a45_49 rfl ?_
      refine r_loadI a45_50 rfl ?_
      refine r_iflt a45_51 (fun h_51 => ?_) (fun h_51 => ?_)
      · refine r_pushI a45_71 ?_
        refine r_retZq a45_72 (by omega) ?_
        first
          | (rcases bnd_cases (soP (faP f E 5) f E (q2 + 1)) (fun q t => (q, some t)) with ⟨q3, t, w1, _⟩ | ⟨q3, w1, _⟩
             · exfalso
               rw [w1] at h_65
               rcases h_65.2.2 with ⟨_, _, u, _⟩ | ⟨u, _⟩
               · omega
               · exact absurd u (by simp)
             · rw [w1] at hh2 h_65
               rw [← hh2]
               exact ⟨fr, h_65.2.1, Or.inr ⟨rfl, rfl⟩⟩)
          | (rcases h_57 with ⟨w1, w2, w3⟩ | ⟨w1, w2, w3⟩
             · exfalso; omega
             · have hh2 : (if atP f E q2 = 32 then (match soP (faP f E 5) f E (q2 + 1) with | (q3, some t) => (q3, some (r, fo, cl ++ [(w, x_46, t)])) | (q3, none) => (q3, none)) else (q2, none)) = R := hh
               rw [if_neg w2] at hh2
               rw [← hh2]
               exact fail _ _ (by rw [w3, k2]))
          | (rcases ok with ⟨v, q2, a, b, c⟩ | ⟨a, b, c⟩
             · have := pNum_r a
               exfalso; omega
             · rw [a] at hh
               rw [← hh]
               exact fail _ _ c)
      · refine r_loadA a45_54 rfl (by decide) ?_
        refine r_pushI a45_55 ?_
        have ok2 : ∃ q2, pNum f E q = some (x_46, q2) ∧ m_46 = up2 m 77 1 q2 := by
          rcases ok with ⟨v, q2, a, b, c⟩ | ⟨a, b, c⟩
          · exact ⟨q2, by rw [b]; exact a, c⟩
          · exfalso; omega
        obtain ⟨q2, k1, k2⟩ := ok2
        have kr := pNum_r k1
        have hS2 : RdS m_46 E := by rw [k2]; exact RdS_up hS ⟨by omega, kr.2.1⟩
        have t57 := c_Re_take e m_46 E 32 (by omega) hS2 (by omega)
        have ea : atM m_46 E (m_46 77 1) = atP f E q2 := by show atP (m_46 42) E _ = _; rw [k2, up2_c (by decide), up2_s, hf]
        have ep2 : m_46 77 1 = q2 := by rw [k2, up2_s]
        rw [ea, ep2] at t57
        rw [k1] at hh
        refine r_callI_2 a45_57 (Nat.le_of_ble_eq_true rfl) (le_mx mx54 (Nat.le_of_ble_eq_true rfl)) (Or.inr (recv_ok ty77 ow54 (by decide))) (t57) (fun x_57 m_57 h_57 => ?_)
        refine r_ifeq a45_60 (fun h_60 => ?_) (fun h_60 => ?_)
        · refine r_pushI a45_71 ?_
          refine r_retZq a45_72 (by omega) ?_
          first
            | (rcases bnd_cases (soP (faP f E 5) f E (q2 + 1)) (fun q t => (q, some t)) with ⟨q3, t, w1, _⟩ | ⟨q3, w1, _⟩
               · exfalso
                 rw [w1] at h_65
                 rcases h_65.2.2 with ⟨_, _, u, _⟩ | ⟨u, _⟩
                 · omega
                 · exact absurd u (by simp)
               · rw [w1] at hh2 h_65
                 rw [← hh2]
                 exact ⟨fr, h_65.2.1, Or.inr ⟨rfl, rfl⟩⟩)
            | (rcases h_57 with ⟨w1, w2, w3⟩ | ⟨w1, w2, w3⟩
               · exfalso; omega
               · have hh2 : (if atP f E q2 = 32 then (match soP (faP f E 5) f E (q2 + 1) with | (q3, some t) => (q3, some (r, fo, cl ++ [(w, x_46, t)])) | (q3, none) => (q3, none)) else (q2, none)) = R := hh
                 rw [if_neg w2] at hh2
                 rw [← hh2]
                 exact fail _ _ (by rw [w3, k2]))
            | (rcases ok with ⟨v, q2, a, b, c⟩ | ⟨a, b, c⟩
               · have := pNum_r a
                 exfalso; omega
               · rw [a] at hh
                 rw [← hh]
                 exact fail _ _ c)
        · refine r_loadA a45_63 rfl (by decide) ?_
          refine r_pushI a45_64 ?_
          have hm57 : atP f E q2 = 32 ∧ m_57 = up2 m 77 1 (q2 + 1) := by
            rcases h_57 with ⟨w1, w2, w3⟩ | ⟨w1, w2, w3⟩
            · exact ⟨w2, by rw [w3, k2, up2_up2]⟩
            · exfalso; omega
          have hlt := @atP_lt f E q2 (by omega)
          have hh2 : (if atP f E q2 = 32 then (match soP (faP f E 5) f E (q2 + 1) with | (q3, some t) => (q3, some (r, fo, cl ++ [(w, x_46, t)])) | (q3, none) => (q3, none)) else (q2, none)) = R := hh
          rw [if_pos hm57.1] at hh2
          have hI3 : RdIn m_57 E := by rw [hm57.2]; exact ⟨RdS_up hS (by omega), by rw [up2_c (by decide)]; exact hc1, by rw [up2_c (by decide), up2_s]; omega⟩
          have t65 := c_Re_any E 5 (by omega) (c_Re_part E 5 (by omega)) e m_57 (by omega) hI3
          have e573 : m_57 42 = f := by rw [hm57.2, up2_c (by decide)]; exact hf
          have ep3 : m_57 77 1 = q2 + 1 := by rw [hm57.2, up2_s]
          have e578 : m_57 78 = m 78 := by rw [hm57.2, up2_c (by decide)]
          have e5782 : m_57 82 = m 82 := by rw [hm57.2, up2_c (by decide)]
          rw [e573, ep3, show (5 : Int) - ((5 : Nat) : Int) = 0 by decide] at t65
          have gd := (soP_good (f := f) (A := 0) (GoodF_mono (faP_good f E 5 (by omega)) (by omega))) (q2 + 1) (by omega) (by omega)
          refine r_callI_2 a45_65 (Nat.le_of_ble_eq_true rfl) (le_mx mx47 (Nat.le_of_ble_eq_true rfl)) (Or.inr (recv_ok ty77 ow47 (by decide))) (t65) (fun x_65 m_65 h_65 => ?_)
          have fr : RdK m m_65 := RdK.trans (by rw [hm57.2]; exact RdF_K (RdF_p m _)) (RdF_K h_65.1)
          refine r_ifne a45_68 (fun h_68 => ?_) (fun h_68 => ?_)
          · refine r_loadA a45_73 rfl (by decide) ?_
            refine r_getR a45_74 ty77 rf77_0 (by decide) ?_
            refine r_loadI a45_77 rfl ?_
            refine r_loadI a45_78 rfl ?_
            have okt : ∃ q3 t, soP (faP f E 5) f E (q2 + 1) = (q3, some t) ∧ m_65 77 1 = q3 ∧ m_65 78 3 = m 78 3 + t.length ∧ Seg (m_65 82) (m 78 3) (t.map cTok) := by
              rcases bnd_cases (soP (faP f E 5) f E (q2 + 1)) (fun q t => (q, some t)) with ⟨q3, t, w1, _⟩ | ⟨q3, w1, _⟩
              · rw [w1] at h_65
                rcases h_65.2.2 with ⟨t', u1, _, u2, u3⟩ | ⟨u, _⟩
                · have u1' : some t = some t' := u1
                  rw [Option.some.injEq] at u1'
                  rw [← u1', e578] at u2 u3
                  exact ⟨q3, t, w1, h_65.2.1, u2, u3⟩
                · exact absurd u (by simp)
              · exfalso
                rw [w1] at h_65
                rcases h_65.2.2 with ⟨_, u, _⟩ | ⟨_, u⟩
                · exact absurd u (by simp)
                · omega
            obtain ⟨q3, t, k3, k4, k5, k6⟩ := okt
            obtain ⟨g1, g2, g3, _⟩ := gd.1 q3 t k3
            have f2 : m_65 78 2 = (cl.length : Int) := by rw [h_65.1.2.2.1 2 (by decide), e578]; exact hn2
            refine r_callV_3 a45_79 (Nat.le_of_ble_eq_true rfl) (le_mx mx8 (Nat.le_of_ble_eq_true rfl)) (Or.inr (recv_ok ty78 ow8 (by decide))) (c_Cl_append e 42 m_65 (bI w) x_46 cl.length (m 78 3 + t.length) hbw f2 (by omega) k5) (fun m_79 h_79 => ?_)
            refine r_pushI a45_82 ?_
            refine r_retZq a45_83 (by omega) ?_
            rw [k3] at hh2
            have hh3 : (q3, some (r, fo, cl ++ [(w, x_46, t)])) = R := hh2
            rw [← hh3, h_79]
            obtain ⟨mm1, mm2, mm3⟩ := hM
            have a78 : ∀ y, y ≠ 2 → up2 (up2 (up2 (up2 m_65 79 (cl.length : Int) (bI w)) 80 (cl.length : Int) x_46) 81 (cl.length : Int) (m 78 3 + t.length)) 78 2 ((cl.length : Int) + 1) 78 y = m_65 78 y := fun y hy => by rw [up2_k hy, up2_c (by decide), up2_c (by decide), up2_c (by decide)]
            have b78 : ∀ y, y ≠ 3 → m_65 78 y = m 78 y := fun y hy => by rw [h_65.1.2.2.1 y hy, e578]
            have kx : ∀ x, x ≠ 77 → x ≠ 78 → x ≠ 82 → m_65 x = m x := fun x x1 x2 x3 => by rw [h_65.1.1 x x1 x2 x3, hm57.2, up2_c x1]
            refine ⟨⟨fun x hx => by rw [up2_c (by omega), up2_c (by omega), up2_c (by omega), up2_c (by omega)]; exact fr.1 x hx, fun y hy => by rw [up2_c (by decide), up2_c (by decide), up2_c (by decide), up2_c (by decide)]; exact fr.2 y hy⟩, by rw [up2_c (by decide), up2_c (by decide), up2_c (by decide), up2_c (by decide)]; exact k4, Or.inl ⟨r, fo, cl ++ [(w, x_46, t)], rfl, rfl, ⟨by rw [a78 0 (by decide), b78 0 (by decide)]; exact mm1, by rw [a78 1 (by decide), b78 1 (by decide)]; exact mm2, ?_⟩, ?_, ?_⟩⟩
            · rw [up2_s, a78 3 (by decide), k5]
              rw [hn2] at mm3
              refine ClR_snoc (ClR_keep mm3 (fun j hj => ⟨?_, ?_, ?_⟩) (fun j hj => ?_)) ?_ ?_ ?_ ?_
              · rw [up2_c (by decide), up2_c (by decide), up2_c (by decide), up2_k (by omega), kx 79 (by decide) (by decide) (by decide)]
              · rw [up2_c (by decide), up2_c (by decide), up2_k (by omega), up2_c (by decide), kx 80 (by decide) (by decide) (by decide)]
              · rw [up2_c (by decide), up2_k (by omega), up2_c (by decide), up2_c (by decide), kx 81 (by decide) (by decide) (by decide)]
              · rw [up2_c (by decide), up2_c (by decide), up2_c (by decide), up2_c (by decide)]
                have := h_65.1.2.2.2 j (by rw [e578]; exact hj)
                show m_65 82 j = m 82 j
                rw [this, e5782]
              · rw [up2_c (by decide), up2_c (by decide), up2_c (by decide), up2_s]; cases w <;> rfl
              · rw [up2_c (by decide), up2_c (by decide), up2_s]
              · rw [up2_c (by decide), up2_s]
              · rw [up2_c (by decide), up2_c (by decide), up2_c (by decide), up2_c (by decide)]; exact k6
            · rw [a78 3 (by decide), k5]; omega
            · rw [a78 3 (by decide), k5]; show _ ≤ q3; omega
          · refine r_pushI a45_71 ?_
            refine r_retZq a45_72 (by omega) ?_
            first
              | (rcases bnd_cases (soP (faP f E 5) f E (q2 + 1)) (fun q t => (q, some t)) with ⟨q3, t, w1, _⟩ | ⟨q3, w1, _⟩
                 · exfalso
                   rw [w1] at h_65
                   rcases h_65.2.2 with ⟨_, _, u, _⟩ | ⟨u, _⟩
                   · omega
                   · exact absurd u (by simp)
                 · rw [w1] at hh2 h_65
                   rw [← hh2]
                   exact ⟨fr, h_65.2.1, Or.inr ⟨rfl, rfl⟩⟩)
              | (rcases h_57 with ⟨w1, w2, w3⟩ | ⟨w1, w2, w3⟩
                 · exfalso; omega
                 · have hh2 : (if atP f E q2 = 32 then (match soP (faP f E 5) f E (q2 + 1) with | (q3, some t) => (q3, some (r, fo, cl ++ [(w, x_46, t)])) | (q3, none) => (q3, none)) else (q2, none)) = R := hh
                   rw [if_neg w2] at hh2
                   rw [← hh2]
                   exact fail _ _ (by rw [w3, k2]))
              | (rcases ok with ⟨v, q2, a, b, c⟩ | ⟨a, b, c⟩
                 · have := pNum_r a
                   exfalso; omega
                 · rw [a] at hh
                   rw [← hh]
                   exact fail _ _ c)
    · refine r_pushI a45_43 ?_
      refine r_retZq a45_44 (by omega) ?_
      have hb := (hz _).1 (h_37.1.symm.trans (by omega))
      rw [if_neg (by rw [hb]; decide)] at hh
      rw [← hh]
      exact fail _ _ h_37.2
  refine r_entry mx45 rfl ?_
  refine r_loadA a45_0 rfl (by decide) ?_
  refine r_pushI a45_1 ?_
  refine r_callI_2 a45_3 (Nat.le_of_ble_eq_true rfl) (le_mx mx53 (Nat.le_of_ble_eq_true rfl)) (Or.inr (recv_ok ty77 ow53 (by decide))) (c_Re_sees e m E 119 hS (by omega)) (fun x_3 m_3 h_3 => ?_)
  obtain ⟨hm_3, h_3⟩ := h_3
  rw [hm_3]
  rw [hat] at h_3
  refine r_storeI_1 a45_6 rfl ?_
  refine r_loadI a45_7 rfl ?_
  refine r_ifne a45_8 (fun h_8 => ?_) (fun h_8 => ?_)
  · refine r_loadA a45_25 rfl (by decide) ?_
    refine r_loadI a45_26 rfl ?_
    refine r_ifeq a45_27 (fun h_27 => ?_) (fun h_27 => ?_)
    · refine r_statR a45_35 ?_
      first
        | (have hx : x_3 = bI true := by show x_3 = 1; omega
           rw [hx]
           exact word true 9 wWax (Or.inl ⟨rfl, rfl, rfl⟩) (by rw [← hR, if_pos (by omega)]) _)
        | (have hx : x_3 = bI false := by show x_3 = 0; omega
           rw [hx]
           exact word false 10 wIce (Or.inr ⟨rfl, rfl, rfl⟩) (by rw [← hR, if_neg (by omega), if_pos (by omega)]) _)
    · refine r_statR a45_30 ?_
      refine r_goto a45_32 ?_
      first
        | (have hx : x_3 = bI true := by show x_3 = 1; omega
           rw [hx]
           exact word true 9 wWax (Or.inl ⟨rfl, rfl, rfl⟩) (by rw [← hR, if_pos (by omega)]) _)
        | (have hx : x_3 = bI false := by show x_3 = 0; omega
           rw [hx]
           exact word false 10 wIce (Or.inr ⟨rfl, rfl, rfl⟩) (by rw [← hR, if_neg (by omega), if_pos (by omega)]) _)
  · refine r_loadA a45_11 rfl (by decide) ?_
    refine r_pushI a45_12 ?_
    refine r_callI_2 a45_14 (Nat.le_of_ble_eq_true rfl) (le_mx mx53 (Nat.le_of_ble_eq_true rfl)) (Or.inr (recv_ok ty77 ow53 (by decide))) (c_Re_sees e m E 105 hS (by omega)) (fun x_14 m_14 h_14 => ?_)
    obtain ⟨hm_14, h_14⟩ := h_14
    rw [hm_14]
    rw [hat] at h_14
    refine r_ifne a45_17 (fun h_17 => ?_) (fun h_17 => ?_)
    · refine r_loadA a45_25 rfl (by decide) ?_
      refine r_loadI a45_26 rfl ?_
      refine r_ifeq a45_27 (fun h_27 => ?_) (fun h_27 => ?_)
      · refine r_statR a45_35 ?_
        first
          | (have hx : x_3 = bI true := by show x_3 = 1; omega
             rw [hx]
             exact word true 9 wWax (Or.inl ⟨rfl, rfl, rfl⟩) (by rw [← hR, if_pos (by omega)]) _)
          | (have hx : x_3 = bI false := by show x_3 = 0; omega
             rw [hx]
             exact word false 10 wIce (Or.inr ⟨rfl, rfl, rfl⟩) (by rw [← hR, if_neg (by omega), if_pos (by omega)]) _)
      · refine r_statR a45_30 ?_
        refine r_goto a45_32 ?_
        first
          | (have hx : x_3 = bI true := by show x_3 = 1; omega
             rw [hx]
             exact word true 9 wWax (Or.inl ⟨rfl, rfl, rfl⟩) (by rw [← hR, if_pos (by omega)]) _)
          | (have hx : x_3 = bI false := by show x_3 = 0; omega
             rw [hx]
             exact word false 10 wIce (Or.inr ⟨rfl, rfl, rfl⟩) (by rw [← hR, if_neg (by omega), if_pos (by omega)]) _)
    · refine r_loadA a45_20 rfl (by decide) ?_
      refine r_callI_1 a45_21 (Nat.le_of_ble_eq_true rfl) (le_mx mx46 (Nat.le_of_ble_eq_true rfl)) (Or.inr (recv_ok ty77 ow46 (by decide))) (c_Re_readSetting e m E r fo cl (by omega) hI hM) (fun x_21 m_21 h_21 => ?_)
      refine r_retZq a45_24 (by rcases h_21.2.2 with ⟨_, _, _, _, u, _⟩ | ⟨_, u⟩ <;> omega) ?_
      rw [hat, hf, hp] at h_21
      rw [if_neg (by omega), if_neg (by omega)] at hR
      rw [← hR]
      exact h_21
theorem c_Cl_clear (d z : Nat) (m : XM) : CV d k_Cl_clear z m [vR 78] (fun m' => m' = up2 (up2 (up2 (up2 m 78 0 0) 78 1 0) 78 2 0) 78 3 0) := by
  refine r_entry mx5 rfl ?_
  refine r_loadA a5_0 rfl (by decide) ?_
  refine r_pushI a5_1 ?_
  refine r_putI (ki := 0) a5_2 ty78 rfl ?_
  refine r_loadA a5_5 rfl (by decide) ?_
  refine r_pushI a5_6 ?_
  refine r_putI (ki := 1) a5_7 ty78 rfl ?_
  refine r_loadA a5_10 rfl (by decide) ?_
  refine r_pushI a5_11 ?_
  refine r_putI (ki := 2) a5_12 ty78 rfl ?_
  refine r_loadA a5_15 rfl (by decide) ?_
  refine r_pushI a5_16 ?_
  refine r_putI (ki := 3) a5_17 ty78 rfl ?_
  refine r_retVq a5_20 ?_
  rfl
theorem c_Re_readTape (d z : Nat) (m : XM) (E : Int) (hd : 22 ≤ d) (hE : m 41 0 = E) (hE2 : 0 ≤ E ∧ E ≤ 100) (hs : ∀ i, 0 ≤ i → i < 100 → 0 ≤ m 42 i ∧ m 42 i ≤ 127) :
    RZ d k_Re_readTape 0 (entryL k_Re_readTape [vR 77, vR 41]) [] (zH z m) (qz 42 (qi fun x m' => (∀ x, ¬ (77 ≤ x ∧ x ≤ 82) → m' x = m x) ∧ m' 77 1 = (pTape (m 42) E 10 0 0 0 []).1 ∧ ((∃ r fo cl, (pTape (m 42) E 10 0 0 0 []).2 = some (r, fo, cl) ∧ x = 1 ∧ MdR m' r fo cl ∧ 0 ≤ m' 78 3 ∧ m' 78 3 ≤ 100) ∨ ((pTape (m 42) E 10 0 0 0 []).2 = none ∧ x = 0)))) := by
  obtain ⟨e, rfl⟩ : ∃ e, d = e + 1 := ⟨d - 1, by omega⟩
  obtain ⟨f, hf⟩ : ∃ f, m 42 = f := ⟨_, rfl⟩
  obtain ⟨R, hR⟩ : ∃ R, pTape (m 42) E 10 0 0 0 [] = R := ⟨_, rfl⟩
  rw [hR]
  rw [hf] at hR
  have em : iMin E ((100 : Nat) : Int) = E := by unfold iMin; split <;> omega
  have loop : ∀ (n : Nat) (j : Int) (m1 : XM) (r fo : Int) (cl : CLs), j + n = 10 → 0 ≤ j → (cl.length : Int) ≤ j → (∀ x, ¬ (77 ≤ x ∧ x ≤ 82) → m1 x = m x) → RdIn m1 E → MdR m1 r fo cl → pTape f E n (m1 77 1) r fo cl = R → 0 < n →
      RZ (e + 1) k_Re_readTape 38 [vR 77, vR 41, vI j] [] (zH 42 m1) (qz 42 (qi fun x m' => (∀ x, ¬ (77 ≤ x ∧ x ≤ 82) → m' x = m x) ∧ m' 77 1 = R.1 ∧ ((∃ r fo cl, R.2 = some (r, fo, cl) ∧ x = 1 ∧ MdR m' r fo cl ∧ 0 ≤ m' 78 3 ∧ m' 78 3 ≤ 100) ∨ (R.2 = none ∧ x = 0)))) := by
    intro n
    induction n with
    | zero => intro j m1 r fo cl _ _ _ _ _ _ _ h; exact absurd h (by decide)
    | succ n ih =>
      intro j m1 r fo cl hj h0 hcl fr hI hM hh _
      push_cast at hj
      have hS := hI.1
      have hpb := hS.2.2.1
      have e42 : m1 42 = f := by rw [fr 42 (by decide)]; exact hf
      have t45 := c_Re_readClause e m1 E r fo cl (by omega) hI hM (by omega)
      rw [e42] at t45
      have gc := pClause_good (f := f) (r := r) (fo := fo) (cl := cl) hpb.1 hpb.2
      have hh2 : (match pClause f E (m1 77 1) r fo cl with
        | (q, none) => (q, none)
        | (q, some (r', fo', cl')) => if E ≤ q then (q, some (r', fo', cl')) else if n = 0 then (q, none) else if atP f E q = 59 then pTape f E n (q + 1) r' fo' cl' else (q, none)) = R := hh
      obtain ⟨C, hC⟩ : ∃ C, pClause f E (m1 77 1) r fo cl = C := ⟨_, rfl⟩
      rw [hC] at t45 gc hh2
      obtain ⟨q, C2⟩ := C
      refine r_loadI a44_38 rfl ?_
      refine r_pushI a44_39 ?_
      refine r_icge a44_41 (fun h_41 => ?_) (fun h_41 => ?_)
      · exfalso
        omega
      · refine r_loadA a44_44 rfl (by decide) ?_
        refine r_callI_1 a44_45 (Nat.le_of_ble_eq_true rfl) (le_mx mx45 (Nat.le_of_ble_eq_true rfl)) (Or.inr (recv_ok ty77 ow45 (by decide))) (t45) (fun x_45 m_45 h_45 => ?_)
        obtain ⟨kk, kp, kc⟩ := h_45
        have kp' : m_45 77 1 = q := kp
        have fr2 : ∀ x, ¬ (77 ≤ x ∧ x ≤ 82) → m_45 x = m x := fun x hx => by rw [kk.1 x hx]; exact fr x hx
        have gc1 : m1 77 1 ≤ q := gc.1
        have gc2 : q ≤ E := gc.2.1
        have hS2 : RdS m_45 E := RdK_S kk hS (by omega)
        refine r_ifne a44_48 (fun h_48 => ?_) (fun h_48 => ?_)
        · refine r_loadA a44_53 rfl (by decide) ?_
          have ok : ∃ r' fo' cl', C2 = some (r', fo', cl') ∧ MdR m_45 r' fo' cl' ∧ 0 ≤ m_45 78 3 ∧ m_45 78 3 ≤ q := by
            rcases kc with ⟨r', fo', cl', u, _, u2, u3, u4⟩ | ⟨_, u⟩
            · exact ⟨r', fo', cl', u, u2, u3, u4⟩
            · exfalso; omega
          obtain ⟨r', fo', cl', k1, k2, k3, k4⟩ := ok
          have gc3 := gc.2.2 r' fo' cl' k1
          subst k1
          have hh3 : (if E ≤ q then (q, some (r', fo', cl')) else if n = 0 then (q, none) else if atP f E q = 59 then pTape f E n (q + 1) r' fo' cl' else (q, none)) = R := hh2
          have eE : m_45 77 2 = E := hS2.1
          refine r_getI (ki := 1) a44_54 ty77 rfl ?_
          refine r_loadA a44_57 rfl (by decide) ?_
          refine r_getI (ki := 2) a44_58 ty77 rfl ?_
          rw [kp', eE]
          refine r_iclt a44_61 (fun h_61 => ?_) (fun h_61 => ?_)
          · refine r_loadI a44_66 rfl ?_
            refine r_pushI a44_67 ?_
            refine r_iceq a44_69 (fun h_69 => ?_) (fun h_69 => ?_)
            · refine r_pushI a44_81 ?_
              refine r_retZq a44_82 (by omega) ?_
              rw [if_neg (by omega)] at hh3
              first
                | (rcases h_75 with ⟨w1, w2, w3⟩ | ⟨w1, w2, w3⟩
                   · exfalso; omega
                   · rw [if_neg (by omega), if_neg w2] at hh3
                     rw [← hh3, w3]
                     exact ⟨fr2, kp', Or.inr ⟨rfl, rfl⟩⟩)
                | (rw [if_pos (by omega)] at hh3
                   rw [← hh3]
                   exact ⟨fr2, kp', Or.inr ⟨rfl, rfl⟩⟩)
            · refine r_loadA a44_72 rfl (by decide) ?_
              have t75 := c_Re_take e m_45 E 59 (by omega) hS2 (by omega)
              have ea : atM m_45 E (m_45 77 1) = atP f E q := by show atP (m_45 42) E _ = _; rw [kk.1 42 (by decide), e42, kp']
              rw [ea, kp'] at t75
              refine r_pushI a44_73 ?_
              refine r_callI_2 a44_75 (Nat.le_of_ble_eq_true rfl) (le_mx mx54 (Nat.le_of_ble_eq_true rfl)) (Or.inr (recv_ok ty77 ow54 (by decide))) (t75) (fun x_75 m_75 h_75 => ?_)
              refine r_ifne a44_78 (fun h_78 => ?_) (fun h_78 => ?_)
              · rcases h_75 with ⟨w1, w2, w3⟩ | ⟨w1, w2, w3⟩
                · rw [if_neg (by omega), if_neg (by omega), if_pos w2] at hh3
                  have hlt := @atP_lt f E q (by omega)
                  have hl2 : (cl'.length : Int) ≤ cl.length + 1 := by
                    rcases gc3.2 with ⟨_, _, c, u, _⟩ | ⟨u, _⟩
                    · rw [u, List.length_append]; push_cast; show _ + ((1 : Nat) : Int) ≤ _; omega
                    · rw [u]; omega
                  refine r_iinc_2 a44_83 rfl (by omega) ?_
                  refine r_goto a44_86 ?_
                  rw [w3]
                  refine ih (j + 1) _ r' fo' cl' (by omega) (by omega) (by omega) (fun x hx => by rw [up2_c (by omega)]; exact fr2 x hx) ⟨RdS_up hS2 (by omega), by rw [up2_c (by decide)]; exact k3, by rw [up2_c (by decide), up2_s]; omega⟩ ⟨by rw [up2_c (by decide)]; exact k2.1, by rw [up2_c (by decide)]; exact k2.2.1, ?_⟩ (by rw [up2_s]; exact hh3) (by omega)
                  rw [up2_c (by decide)]
                  exact ClR_keep k2.2.2 (fun j _ => ⟨by rw [up2_c (by decide)], by rw [up2_c (by decide)], by rw [up2_c (by decide)]⟩) (fun j _ => by rw [up2_c (by decide)])
                · exfalso; omega
              · refine r_pushI a44_81 ?_
                refine r_retZq a44_82 (by omega) ?_
                rw [if_neg (by omega)] at hh3
                first
                  | (rcases h_75 with ⟨w1, w2, w3⟩ | ⟨w1, w2, w3⟩
                     · exfalso; omega
                     · rw [if_neg (by omega), if_neg w2] at hh3
                       rw [← hh3, w3]
                       exact ⟨fr2, kp', Or.inr ⟨rfl, rfl⟩⟩)
                  | (rw [if_pos (by omega)] at hh3
                     rw [← hh3]
                     exact ⟨fr2, kp', Or.inr ⟨rfl, rfl⟩⟩)
          · refine r_pushI a44_64 ?_
            refine r_retZq a44_65 (by omega) ?_
            rw [if_pos (by omega)] at hh3
            rw [← hh3]
            exact ⟨fr2, kp', Or.inl ⟨r', fo', cl', rfl, rfl, k2, k3, by omega⟩⟩
        · refine r_pushI a44_51 ?_
          refine r_retZq a44_52 (by omega) ?_
          rcases kc with ⟨_, _, _, _, u, _⟩ | ⟨u, _⟩
          · exfalso; omega
          · have u' : C2 = none := u
            subst u'
            rw [← hh2]
            exact ⟨fr2, kp', Or.inr ⟨rfl, rfl⟩⟩
  have tail : ∀ m1 : XM, m1 = up2 m 77 2 E → RZ (e + 1) k_Re_readTape 24 [vR 77, vR 41, vR 0] [] (zH 42 m1) (qz 42 (qi fun x m' => (∀ x, ¬ (77 ≤ x ∧ x ≤ 82) → m' x = m x) ∧ m' 77 1 = R.1 ∧ ((∃ r fo cl, R.2 = some (r, fo, cl) ∧ x = 1 ∧ MdR m' r fo cl ∧ 0 ≤ m' 78 3 ∧ m' 78 3 ≤ 100) ∨ (R.2 = none ∧ x = 0)))) := by
    intro m1 hm1
    refine r_loadA a44_24 rfl (by decide) ?_
    refine r_pushI a44_25 ?_
    refine r_putI (ki := 1) a44_26 ty77 rfl ?_
    refine r_loadA a44_29 rfl (by decide) ?_
    refine r_getR a44_30 ty77 rf77_0 (by decide) ?_
    refine r_callV_1 a44_33 (Nat.le_of_ble_eq_true rfl) (le_mx mx5 (Nat.le_of_ble_eq_true rfl)) (Or.inr (recv_ok ty78 ow5 (by decide))) (c_Cl_clear e 42 _) (fun m_33 h_33 => ?_)
    refine r_pushI a44_36 ?_
    refine r_storeI_2 a44_37 rfl ?_
    have e78 : ∀ y, m_33 78 y = if y = 3 then 0 else if y = 2 then 0 else if y = 1 then 0 else if y = 0 then 0 else m 78 y := fun y => by
      rw [h_33, up2_C, up2_C, up2_C, up2_C, upC_s, upC_s, upC_s, upC_s, upi_at, upi_at, upi_at, upi_at, hm1, up2_c (by decide), up2_c (by decide)]
    have e77 : ∀ y, m_33 77 y = up2 (up2 m 77 2 E) 77 1 0 77 y := fun y => by rw [h_33, up2_c (by decide), up2_c (by decide), up2_c (by decide), up2_c (by decide), hm1]
    have p0 : m_33 77 1 = 0 := by rw [e77, up2_s]
    refine loop 10 0 m_33 0 0 [] (by omega) (by omega) (by show ((0 : Nat) : Int) ≤ 0; omega) (fun x hx => ?_) ⟨⟨?_, hE2, by rw [p0]; omega, ?_⟩, ?_, ?_⟩ ⟨?_, ?_, ?_, ?_⟩ (by rw [p0]; exact hR) (by decide)
    · rw [h_33, up2_c (by omega), up2_c (by omega), up2_c (by omega), up2_c (by omega), up2_c (by omega), hm1, up2_c (by omega)]
    · rw [e77, up2_k (by decide), up2_s]
    · rw [h_33, up2_c (by decide), up2_c (by decide), up2_c (by decide), up2_c (by decide), up2_c (by decide), hm1, up2_c (by decide)]; exact hs
    · rw [e78, if_pos rfl]; omega
    · rw [e78, if_pos rfl, p0]; omega
    · rw [e78]; rfl
    · rw [e78]; rfl
    · rw [e78]; rfl
    · rw [e78]; rfl
  refine r_entry mx44 rfl ?_
  refine r_loadA a44_0 rfl (by decide) ?_
  refine r_loadA a44_1 rfl (by decide) ?_
  refine r_getI (ki := 0) a44_2 ty41 rfl ?_
  refine r_loadA a44_5 rfl (by decide) ?_
  refine r_getR a44_6 ty41 rf41_1 (by decide) ?_
  refine r_alen a44_9 ty42 (Or.inl rfl) rfl ?_
  rw [hE]
  refine r_minI a44_10 (by omega) (Nat.le_of_ble_eq_true rfl) ?_
  rw [em]
  refine r_putI (ki := 2) a44_13 ty77 rfl ?_
  refine r_loadA a44_16 rfl (by decide) ?_
  refine r_loadA a44_17 rfl (by decide) ?_
  refine r_getR a44_18 ty41 rf41_1 (by decide) ?_
  refine r_putRs a44_21 (by decide) ?_
  exact tail _ rfl
