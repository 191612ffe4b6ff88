-- ===== the class reads: words, clauses =====
def pWord (f : Int → Int) (E : Int) : List Int → Int → Int × Bool
  | [], p => (p, true)
  | c :: cs, p => if atP f E p = c then pWord f E cs (p + 1) else (p, false)
theorem pWord_r {f : Int → Int} {E : Int} : ∀ (L : List Int), (∀ c ∈ L, c ≠ -1) → ∀ p, 0 ≤ p → p ≤ E → p ≤ (pWord f E L p).1 ∧ (pWord f E L p).1 ≤ E ∧ ((pWord f E L p).2 = true → (pWord f E L p).1 = p + L.length) := by
  intro L
  induction L with
  | nil => intro _ p h0 h1; show p ≤ p ∧ p ≤ E ∧ (_ → p = p + ((0 : Nat) : Int)); omega
  | cons c cs ih =>
    intro hc p h0 h1
    have e : pWord f E (c :: cs) p = if atP f E p = c then pWord f E cs (p + 1) else (p, false) := rfl
    rw [e]
    by_cases q : atP f E p = c
    · rw [if_pos q]
      have hp := @atP_lt f E p (by rw [q]; exact hc c (List.mem_cons_self ..))
      have r := ih (fun x hx => hc x (List.mem_cons_of_mem _ hx)) (p + 1) (by omega) (by omega)
      rw [List.length_cons]; push_cast
      exact ⟨by omega, r.2.1, fun w => by have := r.2.2 w; omega⟩
    · rw [if_neg q]
      exact ⟨Int.le_refl _, h1, fun w => absurd w (by simp)⟩
abbrev CRes : Type := Int × Option (Int × Int × CLs)
def wRut : List Int := [114, 117, 116, 32]
def wFog : List Int := [102, 111, 103, 32]
def wWax : List Int := [119, 97, 120, 32]
def wIce : List Int := [105, 99, 101, 32]
def pMuch (f : Int → Int) (E : Int) (w : Bool) (L : List Int) (p : Int) (r fo : Int) (cl : CLs) : CRes :=
  if (pWord f E L p).2 = true then
    (match pNum f E (pWord f E L p).1 with
      | none => ((pWord f E L p).1, none)
      | some (v, q) => if atP f E q = 32 then (match soP (faP f E 5) f E (q + 1) with
          | (q2, some t) => (q2, some (r, fo, cl ++ [(w, v, t)]))
          | (q2, none) => (q2, none)) else (q, none))
  else ((pWord f E L p).1, none)
def pSet (f : Int → Int) (E : Int) (w : Bool) (L : List Int) (p : Int) (r fo : Int) (cl : CLs) : CRes :=
  if (pWord f E L p).2 = true then
    (match pNum f E (pWord f E L p).1 with
      | none => ((pWord f E L p).1, none)
      | some (v, q) => (q, some (if w then (v, fo, cl) else (r, v, cl))))
  else ((pWord f E L p).1, none)
def pClause (f : Int → Int) (E p r fo : Int) (cl : CLs) : CRes :=
  if atP f E p = 119 then pMuch f E true wWax p r fo cl else if atP f E p = 105 then pMuch f E false wIce p r fo cl
  else if atP f E p = 114 then pSet f E true wRut p r fo cl else pSet f E false wFog p r fo cl
def pTape (f : Int → Int) (E : Int) : Nat → Int → Int → Int → CLs → CRes
  | 0, p, _, _, _ => (p, none)
  | n + 1, p, r, fo, cl => match pClause f E p r fo cl with
    | (q, none) => (q, none)
    | (q, some (r', fo', cl')) => if E ≤ q then (q, some (r', fo', cl')) else if n = 0 then (q, none) else if atP f E q = 59 then pTape f E n (q + 1) r' fo' cl' else (q, none)
/-- a clause's result keeps its bounds -/
def GoodC (E p : Int) (r fo : Int) (cl : CLs) (R : CRes) : Prop := p ≤ R.1 ∧ R.1 ≤ E ∧ ∀ r' fo' cl', R.2 = some (r', fo', cl') → p < R.1 ∧ ((r' = r ∧ fo' = fo ∧ ∃ c, cl' = cl ++ [c] ∧ okC c ∧ (c.2.2.length : Int) + 1 ≤ R.1 - p) ∨ (cl' = cl ∧ ((0 ≤ r' ∧ r' ≤ 99 ∧ fo' = fo) ∨ (r' = r ∧ 0 ≤ fo' ∧ fo' ≤ 99))))
theorem pMuch_good {f : Int → Int} {E p r fo : Int} {cl : CLs} (w : Bool) (L : List Int) (hL : ∀ c ∈ L, c ≠ -1) (h0 : 0 ≤ p) (h1 : p ≤ E) : GoodC E p r fo cl (pMuch f E w L p r fo cl) := by
  have hw := pWord_r (f := f) (E := E) L hL p h0 h1
  unfold pMuch
  by_cases c1 : (pWord f E L p).2 = true
  · rw [if_pos c1]
    cases hn : pNum f E (pWord f E L p).1 with
    | none => exact ⟨hw.1, hw.2.1, fun r' fo' cl' h => by simp at h⟩
    | some x =>
      obtain ⟨v, q⟩ := x
      have hq := pNum_r hn
      show GoodC E p r fo cl (if atP f E q = 32 then _ else (q, none))
      by_cases c2 : atP f E q = 32
      · rw [if_pos c2]
        have hlt := @atP_lt f E q (by omega)
        have gd := (soP_good (f := f) (A := 0) (GoodF_mono (faP_good f E 5 (by omega)) (by omega))) (q + 1) (by omega) (by omega)
        rcases bnd_cases (soP (faP f E 5) f E (q + 1)) (fun q t => (q, some t)) with ⟨q2, t, e1, _⟩ | ⟨q2, e1, _⟩
        · rw [e1]
          obtain ⟨g1, g2, g3, g4⟩ := gd.1 q2 t e1
          refine ⟨by show p ≤ q2; omega, g2, fun r' fo' cl' h => ?_⟩
          have h' : some (r, fo, cl ++ [(w, v, t)]) = some (r', fo', cl') := h
          simp only [Option.some.injEq, Prod.mk.injEq] at h'
          obtain ⟨a, b, c⟩ := h'
          refine ⟨by show p < q2; omega, Or.inl ⟨a.symm, b.symm, (w, v, t), c.symm, ⟨⟨hq.2.2.1, hq.2.2.2⟩, g4 0 (by omega)⟩, by show (t.length : Int) + 1 ≤ q2 - p; omega⟩⟩
        · rw [e1]
          have := gd.2 q2 e1
          exact ⟨by show p ≤ q2; omega, this.2, fun r' fo' cl' h => by simp at h⟩
      · rw [if_neg c2]
        exact ⟨by show p ≤ q; omega, hq.2.1, fun r' fo' cl' h => by simp at h⟩
  · rw [if_neg c1]
    exact ⟨hw.1, hw.2.1, fun r' fo' cl' h => by simp at h⟩
theorem pSet_good {f : Int → Int} {E p r fo : Int} {cl : CLs} (w : Bool) (L : List Int) (hL : ∀ c ∈ L, c ≠ -1) (h0 : 0 ≤ p) (h1 : p ≤ E) : GoodC E p r fo cl (pSet f E w L p r fo cl) := by
  have hw := pWord_r (f := f) (E := E) L hL p h0 h1
  unfold pSet
  by_cases c1 : (pWord f E L p).2 = true
  · rw [if_pos c1]
    cases hn : pNum f E (pWord f E L p).1 with
    | none => exact ⟨hw.1, hw.2.1, fun r' fo' cl' h => by simp at h⟩
    | some x =>
      obtain ⟨v, q⟩ := x
      have hq := pNum_r hn
      refine ⟨by show p ≤ q; omega, hq.2.1, fun r' fo' cl' h => ?_⟩
      have h' : some (if w then (v, fo, cl) else (r, v, cl)) = some (r', fo', cl') := h
      refine ⟨by show p < q; omega, Or.inr ?_⟩
      cases w with
      | true =>
        have h2 : some (v, fo, cl) = some (r', fo', cl') := h'
        simp only [Option.some.injEq, Prod.mk.injEq] at h2
        exact ⟨h2.2.2.symm, Or.inl ⟨by omega, by omega, by omega⟩⟩
      | false =>
        have h2 : some (r, v, cl) = some (r', fo', cl') := h'
        simp only [Option.some.injEq, Prod.mk.injEq] at h2
        exact ⟨h2.2.2.symm, Or.inr ⟨by omega, by omega, by omega⟩⟩
  · rw [if_neg c1]
    exact ⟨hw.1, hw.2.1, fun r' fo' cl' h => by simp at h⟩
theorem pClause_good {f : Int → Int} {E p r fo : Int} {cl : CLs} (h0 : 0 ≤ p) (h1 : p ≤ E) : GoodC E p r fo cl (pClause f E p r fo cl) := by
  unfold pClause
  by_cases c1 : atP f E p = 119
  · rw [if_pos c1]; exact pMuch_good true wWax (by decide) h0 h1
  · rw [if_neg c1]
    by_cases c2 : atP f E p = 105
    · rw [if_pos c2]; exact pMuch_good false wIce (by decide) h0 h1
    · rw [if_neg c2]
      by_cases c3 : atP f E p = 114
      · rw [if_pos c3]; exact pSet_good true wRut (by decide) h0 h1
      · rw [if_neg c3]; exact pSet_good false wFog (by decide) h0 h1
abbrev w6 : List Int := wRut
abbrev w7 : List Int := wFog
abbrev w9 : List Int := wWax
abbrev w10 : List Int := wIce
theorem c_Re_takeWord_6 (d : Nat) (m : XM) (E : Int) (hd : 5 ≤ d) (hI : RdS m E) : CI d k_Re_takeWord 42 m [vR 77, vR 6] (fun x m' => x = bI (pWord (m 42) E w6 (m 77 1)).2 ∧ m' = up2 m 77 1 (pWord (m 42) E w6 (m 77 1)).1) := by
  obtain ⟨e, rfl⟩ : ∃ e, d = e + 1 := ⟨d - 1, by omega⟩
  have hb := hI.2.1
  obtain ⟨R, hR⟩ : ∃ R, pWord (m 42) E w6 (m 77 1) = R := ⟨_, rfl⟩
  rw [hR]
  have zt : ∀ j : Int, 0 ≤ j → j < 4 → 0 ≤ zTab 19 j := fun j a b => (zTab_19 ⟨a, b⟩).2.1
  have loop : ∀ (L : List Int) (j p : Int), j + L.length = 4 → 0 ≤ j → 0 ≤ p → p ≤ E → (∀ i : Nat, i < L.length → zTab 19 (j + i) = (L[i]?).getD 0) → pWord (m 42) E L p = R →
      RZ (e + 1) k_Re_takeWord 2 [vR 77, vR 6, vI j] [] (zH 42 (up2 m 77 1 p)) (qz 42 (qi fun x m' => x = bI R.2 ∧ m' = up2 m 77 1 R.1)) := by
    intro L
    induction L with
    | nil =>
      intro j p hj h0 p0 p1 hz hh
      have hj4 : j + ((0 : Nat) : Int) = 4 := hj
      refine r_loadI a55_2 rfl ?_
      refine r_loadA a55_3 rfl (by decide) ?_
      refine r_callI_1 a55_4 (Nat.le_of_ble_eq_true rfl) (le_mx mx209 (Nat.le_of_ble_eq_true rfl)) (Or.inr (recv_str ow209 (by omega) (by omega))) (c_J0_length_6 e 42 _ (by omega)) (fun x_4 m_4 h_4 => ?_)
      obtain ⟨hm_4, h_4⟩ := h_4
      rw [hm_4]
      refine r_icge a55_7 (fun h_7 => ?_) (fun h_7 => ?_)
      · refine r_pushI a55_30 ?_
        refine r_retZq a55_31 (by omega) ?_
        rw [← hh]; exact ⟨rfl, rfl⟩
      · exfalso
        omega
    | cons c L ih =>
      intro j p hj h0 p0 p1 hz hh
      rw [List.length_cons] at hj; push_cast at hj
      have hc : zTab 19 j = c := by
        have := hz 0 (by rw [List.length_cons]; omega)
        rw [show j + ((0 : Nat) : Int) = j by omega] at this
        exact this
      have zc := zt j h0 (by omega)
      have hh2 : (if atP (m 42) E p = c then pWord (m 42) E L (p + 1) else (p, false)) = R := hh
      have hS := RdS_up hI ⟨p0, p1⟩
      have t16 := c_Re_take e (up2 m 77 1 p) E (zTab 19 j) (by omega) hS zc
      have ea : atM (up2 m 77 1 p) E (up2 m 77 1 p 77 1) = atP (m 42) E p := by show atP (up2 m 77 1 p 42) E _ = _; rw [up2_c (by decide), up2_s]
      rw [ea, up2_s, up2_up2, hc] at t16
      refine r_loadI a55_2 rfl ?_
      refine r_loadA a55_3 rfl (by decide) ?_
      refine r_callI_1 a55_4 (Nat.le_of_ble_eq_true rfl) (le_mx mx209 (Nat.le_of_ble_eq_true rfl)) (Or.inr (recv_str ow209 (by omega) (by omega))) (c_J0_length_6 e 42 _ (by omega)) (fun x_4 m_4 h_4 => ?_)
      obtain ⟨hm_4, h_4⟩ := h_4
      rw [hm_4]
      refine r_icge a55_7 (fun h_7 => ?_) (fun h_7 => ?_)
      · exfalso
        omega
      · refine r_loadA a55_10 rfl (by decide) ?_
        refine r_loadA a55_11 rfl (by decide) ?_
        refine r_loadI a55_12 rfl ?_
        refine r_callI_2 a55_13 (Nat.le_of_ble_eq_true rfl) (le_mx mx210 (Nat.le_of_ble_eq_true rfl)) (Or.inr (recv_str ow210 (by omega) (by omega))) (c_J0_charAt_6 e 42 _ j (by omega) ⟨h0, by omega⟩) (fun x_13 m_13 h_13 => ?_)
        obtain ⟨hm_13, h_13⟩ := h_13
        rw [hm_13]
        rw [show x_13 = c from h_13.trans hc]
        refine r_callI_2 a55_16 (Nat.le_of_ble_eq_true rfl) (le_mx mx54 (Nat.le_of_ble_eq_true rfl)) (Or.inr (recv_ok ty77 ow54 (by decide))) (t16) (fun x_16 m_16 h_16 => ?_)
        refine r_ifne a55_19 (fun h_19 => ?_) (fun h_19 => ?_)
        · rcases h_16 with ⟨w1, w2, w3⟩ | ⟨w1, w2, w3⟩
          · rw [if_pos w2] at hh2
            have hlt := @atP_lt (m 42) E p (by omega)
            refine r_iinc_2 a55_24 rfl (by omega) ?_
            refine r_goto a55_27 ?_
            rw [w3]
            refine ih (j + 1) (p + 1) (by omega) (by omega) (by omega) (by omega) (fun i hi => ?_) hh2
            have := hz (i + 1) (by rw [List.length_cons]; omega)
            rw [show j + ((i + 1 : Nat) : Int) = j + 1 + (i : Int) by push_cast; omega] at this
            rw [this]; rfl
          · exfalso; omega
        · refine r_pushI a55_22 ?_
          refine r_retZq a55_23 (by omega) ?_
          rcases h_16 with ⟨w1, w2, w3⟩ | ⟨w1, w2, w3⟩
          · exfalso; omega
          · rw [if_neg w2] at hh2
            rw [← hh2, w3]; exact ⟨rfl, rfl⟩
  have e0 : zH 42 m = zH 42 (up2 m 77 1 (m 77 1)) := by
    congr 1
    rw [up2_C]
    have : upi (m 77) 1 (m 77 1) = m 77 := by
      funext y; rw [upi_at]
      by_cases q : y = 1
      · rw [if_pos q, q]
      · rw [if_neg q]
    rw [this, upC_id]
  refine r_entry mx55 rfl ?_
  refine r_pushI a55_0 ?_
  refine r_storeI_2 a55_1 rfl ?_
  rw [e0]
  refine loop w6 0 (m 77 1) rfl (by omega) hI.2.2.1.1 hI.2.2.1.2 (fun i hi => ?_) hR
  have hi4 : i < 4 := hi
  have : i = 0 ∨ i = 1 ∨ i = 2 ∨ i = 3 := by omega
  rcases this with q | q | q | q <;> subst q <;> decide
theorem c_Re_takeWord_7 (d : Nat) (m : XM) (E : Int) (hd : 5 ≤ d) (hI : RdS m E) : CI d k_Re_takeWord 42 m [vR 77, vR 7] (fun x m' => x = bI (pWord (m 42) E w7 (m 77 1)).2 ∧ m' = up2 m 77 1 (pWord (m 42) E w7 (m 77 1)).1) := by
  obtain ⟨e, rfl⟩ : ∃ e, d = e + 1 := ⟨d - 1, by omega⟩
  have hb := hI.2.1
  obtain ⟨R, hR⟩ : ∃ R, pWord (m 42) E w7 (m 77 1) = R := ⟨_, rfl⟩
  rw [hR]
  have zt : ∀ j : Int, 0 ≤ j → j < 4 → 0 ≤ zTab 20 j := fun j a b => (zTab_20 ⟨a, b⟩).2.1
  have loop : ∀ (L : List Int) (j p : Int), j + L.length = 4 → 0 ≤ j → 0 ≤ p → p ≤ E → (∀ i : Nat, i < L.length → zTab 20 (j + i) = (L[i]?).getD 0) → pWord (m 42) E L p = R →
      RZ (e + 1) k_Re_takeWord 2 [vR 77, vR 7, vI j] [] (zH 42 (up2 m 77 1 p)) (qz 42 (qi fun x m' => x = bI R.2 ∧ m' = up2 m 77 1 R.1)) := by
    intro L
    induction L with
    | nil =>
      intro j p hj h0 p0 p1 hz hh
      have hj4 : j + ((0 : Nat) : Int) = 4 := hj
      refine r_loadI a55_2 rfl ?_
      refine r_loadA a55_3 rfl (by decide) ?_
      refine r_callI_1 a55_4 (Nat.le_of_ble_eq_true rfl) (le_mx mx209 (Nat.le_of_ble_eq_true rfl)) (Or.inr (recv_str ow209 (by omega) (by omega))) (c_J0_length_7 e 42 _ (by omega)) (fun x_4 m_4 h_4 => ?_)
      obtain ⟨hm_4, h_4⟩ := h_4
      rw [hm_4]
      refine r_icge a55_7 (fun h_7 => ?_) (fun h_7 => ?_)
      · refine r_pushI a55_30 ?_
        refine r_retZq a55_31 (by omega) ?_
        rw [← hh]; exact ⟨rfl, rfl⟩
      · exfalso
        omega
    | cons c L ih =>
      intro j p hj h0 p0 p1 hz hh
      rw [List.length_cons] at hj; push_cast at hj
      have hc : zTab 20 j = c := by
        have := hz 0 (by rw [List.length_cons]; omega)
        rw [show j + ((0 : Nat) : Int) = j by omega] at this
        exact this
      have zc := zt j h0 (by omega)
      have hh2 : (if atP (m 42) E p = c then pWord (m 42) E L (p + 1) else (p, false)) = R := hh
      have hS := RdS_up hI ⟨p0, p1⟩
      have t16 := c_Re_take e (up2 m 77 1 p) E (zTab 20 j) (by omega) hS zc
      have ea : atM (up2 m 77 1 p) E (up2 m 77 1 p 77 1) = atP (m 42) E p := by show atP (up2 m 77 1 p 42) E _ = _; rw [up2_c (by decide), up2_s]
      rw [ea, up2_s, up2_up2, hc] at t16
      refine r_loadI a55_2 rfl ?_
      refine r_loadA a55_3 rfl (by decide) ?_
      refine r_callI_1 a55_4 (Nat.le_of_ble_eq_true rfl) (le_mx mx209 (Nat.le_of_ble_eq_true rfl)) (Or.inr (recv_str ow209 (by omega) (by omega))) (c_J0_length_7 e 42 _ (by omega)) (fun x_4 m_4 h_4 => ?_)
      obtain ⟨hm_4, h_4⟩ := h_4
      rw [hm_4]
      refine r_icge a55_7 (fun h_7 => ?_) (fun h_7 => ?_)
      · exfalso
        omega
      · refine r_loadA a55_10 rfl (by decide) ?_
        refine r_loadA a55_11 rfl (by decide) ?_
        refine r_loadI a55_12 rfl ?_
        refine r_callI_2 a55_13 (Nat.le_of_ble_eq_true rfl) (le_mx mx210 (Nat.le_of_ble_eq_true rfl)) (Or.inr (recv_str ow210 (by omega) (by omega))) (c_J0_charAt_7 e 42 _ j (by omega) ⟨h0, by omega⟩) (fun x_13 m_13 h_13 => ?_)
        obtain ⟨hm_13, h_13⟩ := h_13
        rw [hm_13]
        rw [show x_13 = c from h_13.trans hc]
        refine r_callI_2 a55_16 (Nat.le_of_ble_eq_true rfl) (le_mx mx54 (Nat.le_of_ble_eq_true rfl)) (Or.inr (recv_ok ty77 ow54 (by decide))) (t16) (fun x_16 m_16 h_16 => ?_)
        refine r_ifne a55_19 (fun h_19 => ?_) (fun h_19 => ?_)
        · rcases h_16 with ⟨w1, w2, w3⟩ | ⟨w1, w2, w3⟩
          · rw [if_pos w2] at hh2
            have hlt := @atP_lt (m 42) E p (by omega)
            refine r_iinc_2 a55_24 rfl (by omega) ?_
            refine r_goto a55_27 ?_
            rw [w3]
            refine ih (j + 1) (p + 1) (by omega) (by omega) (by omega) (by omega) (fun i hi => ?_) hh2
            have := hz (i + 1) (by rw [List.length_cons]; omega)
            rw [show j + ((i + 1 : Nat) : Int) = j + 1 + (i : Int) by push_cast; omega] at this
            rw [this]; rfl
          · exfalso; omega
        · refine r_pushI a55_22 ?_
          refine r_retZq a55_23 (by omega) ?_
          rcases h_16 with ⟨w1, w2, w3⟩ | ⟨w1, w2, w3⟩
          · exfalso; omega
          · rw [if_neg w2] at hh2
            rw [← hh2, w3]; exact ⟨rfl, rfl⟩
  have e0 : zH 42 m = zH 42 (up2 m 77 1 (m 77 1)) := by
    congr 1
    rw [up2_C]
    have : upi (m 77) 1 (m 77 1) = m 77 := by
      funext y; rw [upi_at]
      by_cases q : y = 1
      · rw [if_pos q, q]
      · rw [if_neg q]
    rw [this, upC_id]
  refine r_entry mx55 rfl ?_
  refine r_pushI a55_0 ?_
  refine r_storeI_2 a55_1 rfl ?_
  rw [e0]
  refine loop w7 0 (m 77 1) rfl (by omega) hI.2.2.1.1 hI.2.2.1.2 (fun i hi => ?_) hR
  have hi4 : i < 4 := hi
  have : i = 0 ∨ i = 1 ∨ i = 2 ∨ i = 3 := by omega
  rcases this with q | q | q | q <;> subst q <;> decide
theorem c_Re_takeWord_9 (d : Nat) (m : XM) (E : Int) (hd : 5 ≤ d) (hI : RdS m E) : CI d k_Re_takeWord 42 m [vR 77, vR 9] (fun x m' => x = bI (pWord (m 42) E w9 (m 77 1)).2 ∧ m' = up2 m 77 1 (pWord (m 42) E w9 (m 77 1)).1) := by
  obtain ⟨e, rfl⟩ : ∃ e, d = e + 1 := ⟨d - 1, by omega⟩
  have hb := hI.2.1
  obtain ⟨R, hR⟩ : ∃ R, pWord (m 42) E w9 (m 77 1) = R := ⟨_, rfl⟩
  rw [hR]
  have zt : ∀ j : Int, 0 ≤ j → j < 4 → 0 ≤ zTab 22 j := fun j a b => (zTab_22 ⟨a, b⟩).2.1
  have loop : ∀ (L : List Int) (j p : Int), j + L.length = 4 → 0 ≤ j → 0 ≤ p → p ≤ E → (∀ i : Nat, i < L.length → zTab 22 (j + i) = (L[i]?).getD 0) → pWord (m 42) E L p = R →
      RZ (e + 1) k_Re_takeWord 2 [vR 77, vR 9, vI j] [] (zH 42 (up2 m 77 1 p)) (qz 42 (qi fun x m' => x = bI R.2 ∧ m' = up2 m 77 1 R.1)) := by
    intro L
    induction L with
    | nil =>
      intro j p hj h0 p0 p1 hz hh
      have hj4 : j + ((0 : Nat) : Int) = 4 := hj
      refine r_loadI a55_2 rfl ?_
      refine r_loadA a55_3 rfl (by decide) ?_
      refine r_callI_1 a55_4 (Nat.le_of_ble_eq_true rfl) (le_mx mx209 (Nat.le_of_ble_eq_true rfl)) (Or.inr (recv_str ow209 (by omega) (by omega))) (c_J0_length_9 e 42 _ (by omega)) (fun x_4 m_4 h_4 => ?_)
      obtain ⟨hm_4, h_4⟩ := h_4
      rw [hm_4]
      refine r_icge a55_7 (fun h_7 => ?_) (fun h_7 => ?_)
      · refine r_pushI a55_30 ?_
        refine r_retZq a55_31 (by omega) ?_
        rw [← hh]; exact ⟨rfl, rfl⟩
      · exfalso
        omega
    | cons c L ih =>
      intro j p hj h0 p0 p1 hz hh
      rw [List.length_cons] at hj; push_cast at hj
      have hc : zTab 22 j = c := by
        have := hz 0 (by rw [List.length_cons]; omega)
        rw [show j + ((0 : Nat) : Int) = j by omega] at this
        exact this
      have zc := zt j h0 (by omega)
      have hh2 : (if atP (m 42) E p = c then pWord (m 42) E L (p + 1) else (p, false)) = R := hh
      have hS := RdS_up hI ⟨p0, p1⟩
      have t16 := c_Re_take e (up2 m 77 1 p) E (zTab 22 j) (by omega) hS zc
      have ea : atM (up2 m 77 1 p) E (up2 m 77 1 p 77 1) = atP (m 42) E p := by show atP (up2 m 77 1 p 42) E _ = _; rw [up2_c (by decide), up2_s]
      rw [ea, up2_s, up2_up2, hc] at t16
      refine r_loadI a55_2 rfl ?_
      refine r_loadA a55_3 rfl (by decide) ?_
      refine r_callI_1 a55_4 (Nat.le_of_ble_eq_true rfl) (le_mx mx209 (Nat.le_of_ble_eq_true rfl)) (Or.inr (recv_str ow209 (by omega) (by omega))) (c_J0_length_9 e 42 _ (by omega)) (fun x_4 m_4 h_4 => ?_)
      obtain ⟨hm_4, h_4⟩ := h_4
      rw [hm_4]
      refine r_icge a55_7 (fun h_7 => ?_) (fun h_7 => ?_)
      · exfalso
        omega
      · refine r_loadA a55_10 rfl (by decide) ?_
        refine r_loadA a55_11 rfl (by decide) ?_
        refine r_loadI a55_12 rfl ?_
        refine r_callI_2 a55_13 (Nat.le_of_ble_eq_true rfl) (le_mx mx210 (Nat.le_of_ble_eq_true rfl)) (Or.inr (recv_str ow210 (by omega) (by omega))) (c_J0_charAt_9 e 42 _ j (by omega) ⟨h0, by omega⟩) (fun x_13 m_13 h_13 => ?_)
        obtain ⟨hm_13, h_13⟩ := h_13
        rw [hm_13]
        rw [show x_13 = c from h_13.trans hc]
        refine r_callI_2 a55_16 (Nat.le_of_ble_eq_true rfl) (le_mx mx54 (Nat.le_of_ble_eq_true rfl)) (Or.inr (recv_ok ty77 ow54 (by decide))) (t16) (fun x_16 m_16 h_16 => ?_)
        refine r_ifne a55_19 (fun h_19 => ?_) (fun h_19 => ?_)
        · rcases h_16 with ⟨w1, w2, w3⟩ | ⟨w1, w2, w3⟩
          · rw [if_pos w2] at hh2
            have hlt := @atP_lt (m 42) E p (by omega)
            refine r_iinc_2 a55_24 rfl (by omega) ?_
            refine r_goto a55_27 ?_
            rw [w3]
            refine ih (j + 1) (p + 1) (by omega) (by omega) (by omega) (by omega) (fun i hi => ?_) hh2
            have := hz (i + 1) (by rw [List.length_cons]; omega)
            rw [show j + ((i + 1 : Nat) : Int) = j + 1 + (i : Int) by push_cast; omega] at this
            rw [this]; rfl
          · exfalso; omega
        · refine r_pushI a55_22 ?_
          refine r_retZq a55_23 (by omega) ?_
          rcases h_16 with ⟨w1, w2, w3⟩ | ⟨w1, w2, w3⟩
          · exfalso; omega
          · rw [if_neg w2] at hh2
            rw [← hh2, w3]; exact ⟨rfl, rfl⟩
  have e0 : zH 42 m = zH 42 (up2 m 77 1 (m 77 1)) := by
    congr 1
    rw [up2_C]
    have : upi (m 77) 1 (m 77 1) = m 77 := by
      funext y; rw [upi_at]
      by_cases q : y = 1
      · rw [if_pos q, q]
      · rw [if_neg q]
    rw [this, upC_id]
  refine r_entry mx55 rfl ?_
  refine r_pushI a55_0 ?_
  refine r_storeI_2 a55_1 rfl ?_
  rw [e0]
  refine loop w9 0 (m 77 1) rfl (by omega) hI.2.2.1.1 hI.2.2.1.2 (fun i hi => ?_) hR
  have hi4 : i < 4 := hi
  have : i = 0 ∨ i = 1 ∨ i = 2 ∨ i = 3 := by omega
  rcases this with q | q | q | q <;> subst q <;> decide
theorem c_Re_takeWord_10 (d : Nat) (m : XM) (E : Int) (hd : 5 ≤ d) (hI : RdS m E) : CI d k_Re_takeWord 42 m [vR 77, vR 10] (fun x m' => x = bI (pWord (m 42) E w10 (m 77 1)).2 ∧ m' = up2 m 77 1 (pWord (m 42) E w10 (m 77 1)).1) := by
  obtain ⟨e, rfl⟩ : ∃ e, d = e + 1 := ⟨d - 1, by omega⟩
  have hb := hI.2.1
  obtain ⟨R, hR⟩ : ∃ R, pWord (m 42) E w10 (m 77 1) = R := ⟨_, rfl⟩
  rw [hR]
  have zt : ∀ j : Int, 0 ≤ j → j < 4 → 0 ≤ zTab 23 j := fun j a b => (zTab_23 ⟨a, b⟩).2.1
  have loop : ∀ (L : List Int) (j p : Int), j + L.length = 4 → 0 ≤ j → 0 ≤ p → p ≤ E → (∀ i : Nat, i < L.length → zTab 23 (j + i) = (L[i]?).getD 0) → pWord (m 42) E L p = R →
      RZ (e + 1) k_Re_takeWord 2 [vR 77, vR 10, vI j] [] (zH 42 (up2 m 77 1 p)) (qz 42 (qi fun x m' => x = bI R.2 ∧ m' = up2 m 77 1 R.1)) := by
    intro L
    induction L with
    | nil =>
      intro j p hj h0 p0 p1 hz hh
      have hj4 : j + ((0 : Nat) : Int) = 4 := hj
      refine r_loadI a55_2 rfl ?_
      refine r_loadA a55_3 rfl (by decide) ?_
      refine r_callI_1 a55_4 (Nat.le_of_ble_eq_true rfl) (le_mx mx209 (Nat.le_of_ble_eq_true rfl)) (Or.inr (recv_str ow209 (by omega) (by omega))) (c_J0_length_10 e 42 _ (by omega)) (fun x_4 m_4 h_4 => ?_)
      obtain ⟨hm_4, h_4⟩ := h_4
      rw [hm_4]
      refine r_icge a55_7 (fun h_7 => ?_) (fun h_7 => ?_)
      · refine r_pushI a55_30 ?_
        refine r_retZq a55_31 (by omega) ?_
        rw [← hh]; exact ⟨rfl, rfl⟩
      · exfalso
        omega
    | cons c L ih =>
      intro j p hj h0 p0 p1 hz hh
      rw [List.length_cons] at hj; push_cast at hj
      have hc : zTab 23 j = c := by
        have := hz 0 (by rw [List.length_cons]; omega)
        rw [show j + ((0 : Nat) : Int) = j by omega] at this
        exact this
      have zc := zt j h0 (by omega)
      have hh2 : (if atP (m 42) E p = c then pWord (m 42) E L (p + 1) else (p, false)) = R := hh
      have hS := RdS_up hI ⟨p0, p1⟩
      have t16 := c_Re_take e (up2 m 77 1 p) E (zTab 23 j) (by omega) hS zc
      have ea : atM (up2 m 77 1 p) E (up2 m 77 1 p 77 1) = atP (m 42) E p := by show atP (up2 m 77 1 p 42) E _ = _; rw [up2_c (by decide), up2_s]
      rw [ea, up2_s, up2_up2, hc] at t16
      refine r_loadI a55_2 rfl ?_
      refine r_loadA a55_3 rfl (by decide) ?_
      refine r_callI_1 a55_4 (Nat.le_of_ble_eq_true rfl) (le_mx mx209 (Nat.le_of_ble_eq_true rfl)) (Or.inr (recv_str ow209 (by omega) (by omega))) (c_J0_length_10 e 42 _ (by omega)) (fun x_4 m_4 h_4 => ?_)
      obtain ⟨hm_4, h_4⟩ := h_4
      rw [hm_4]
      refine r_icge a55_7 (fun h_7 => ?_) (fun h_7 => ?_)
      · exfalso
        omega
      · refine r_loadA a55_10 rfl (by decide) ?_
        refine r_loadA a55_11 rfl (by decide) ?_
        refine r_loadI a55_12 rfl ?_
        refine r_callI_2 a55_13 (Nat.le_of_ble_eq_true rfl) (le_mx mx210 (Nat.le_of_ble_eq_true rfl)) (Or.inr (recv_str ow210 (by omega) (by omega))) (c_J0_charAt_10 e 42 _ j (by omega) ⟨h0, by omega⟩) (fun x_13 m_13 h_13 => ?_)
        obtain ⟨hm_13, h_13⟩ := h_13
        rw [hm_13]
        rw [show x_13 = c from h_13.trans hc]
        refine r_callI_2 a55_16 (Nat.le_of_ble_eq_true rfl) (le_mx mx54 (Nat.le_of_ble_eq_true rfl)) (Or.inr (recv_ok ty77 ow54 (by decide))) (t16) (fun x_16 m_16 h_16 => ?_)
        refine r_ifne a55_19 (fun h_19 => ?_) (fun h_19 => ?_)
        · rcases h_16 with ⟨w1, w2, w3⟩ | ⟨w1, w2, w3⟩
          · rw [if_pos w2] at hh2
            have hlt := @atP_lt (m 42) E p (by omega)
            refine r_iinc_2 a55_24 rfl (by omega) ?_
            refine r_goto a55_27 ?_
            rw [w3]
            refine ih (j + 1) (p + 1) (by omega) (by omega) (by omega) (by omega) (fun i hi => ?_) hh2
            have := hz (i + 1) (by rw [List.length_cons]; omega)
            rw [show j + ((i + 1 : Nat) : Int) = j + 1 + (i : Int) by push_cast; omega] at this
            rw [this]; rfl
          · exfalso; omega
        · refine r_pushI a55_22 ?_
          refine r_retZq a55_23 (by omega) ?_
          rcases h_16 with ⟨w1, w2, w3⟩ | ⟨w1, w2, w3⟩
          · exfalso; omega
          · rw [if_neg w2] at hh2
            rw [← hh2, w3]; exact ⟨rfl, rfl⟩
  have e0 : zH 42 m = zH 42 (up2 m 77 1 (m 77 1)) := by
    congr 1
    rw [up2_C]
    have : upi (m 77) 1 (m 77 1) = m 77 := by
      funext y; rw [upi_at]
      by_cases q : y = 1
      · rw [if_pos q, q]
      · rw [if_neg q]
    rw [this, upC_id]
  refine r_entry mx55 rfl ?_
  refine r_pushI a55_0 ?_
  refine r_storeI_2 a55_1 rfl ?_
  rw [e0]
  refine loop w10 0 (m 77 1) rfl (by omega) hI.2.2.1.1 hI.2.2.1.2 (fun i hi => ?_) hR
  have hi4 : i < 4 := hi
  have : i = 0 ∨ i = 1 ∨ i = 2 ∨ i = 3 := by omega
  rcases this with q | q | q | q <;> subst q <;> decide
