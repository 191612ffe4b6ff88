-- ===== the reference: what a slope says at a gate and a pace =====
/-- the reference's clauses -/
def ClS (s : Int → Int) (cl : CLs) : Prop :=
  ((s 6 = -1 ∧ cl = []) ∨ (0 ≤ s 6 ∧ s (209 + s 6) = (mSteps cl).length ∧ Seg s (214 + 140 * s 6) (mSteps cl))) ∧ (∀ c ∈ cl, okC c) ∧ cl.length ≤ 10
def bI : Bool → Int
  | true => 1
  | false => 0
/-- truths stand on a stack -/
def StkT (g : Int → Int) : List Bool → Prop
  | [] => True
  | a :: r => g r.length = bI a ∧ StkT g r
theorem StkT_up {g : Int → Int} {k v : Int} : ∀ {st : List Bool}, StkT g st → (st.length : Int) ≤ k → StkT (upi g k v) st := by
  intro st
  induction st with
  | nil => intro _ _; trivial
  | cons a r ih =>
    intro ⟨h1, h2⟩ hk
    have hk' : ((r.length : Nat) : Int) + 1 ≤ k := by rw [List.length_cons] at hk; push_cast at hk; exact hk
    exact ⟨by rw [upi_n (by omega)]; exact h1, ih h2 (by omega)⟩
def LkPo (m : XM) (wx ic : Int) (m' : XM) : Prop :=
  (∀ x, x ≠ 121 → x ≠ 124 → x ≠ 125 → m' x = m x) ∧ (∀ y, y ≠ 11 → y ≠ 12 → m' 121 y = m 121 y) ∧ m' 121 11 = wx ∧ m' 121 12 = ic
theorem c_Mo_looks (d z : Nat) (m : XM) (s : Int → Int) (cl : CLs) (k i p r g : Int) (hd : 1 ≤ d) (hS : okS s) (hC : ClS s cl) (hm : m 122 = s)
    (hk : 0 ≤ k ∧ k < 5) (hi : 0 ≤ i ∧ i < 7) (hp : 0 ≤ p ∧ p < 10) (hr : 0 ≤ r ∧ r < 10) (hst : m 126 i = g) (hg : 0 ≤ g ∧ g < 7) :
    CV d k_Mo_looks z m [vR 121, vI k, vI i, vI p, vI r] (LkPo m (eI true s cl k r g p) (eI false s cl k r g p)) := by
  obtain ⟨dd, rfl⟩ : ∃ dd, d = dd + 1 := ⟨d - 1, by omega⟩
  have h2 := hS.1.2.2.1
  have h6 := hS.1.2.2.2.2.2.2.1
  obtain ⟨hC1, hC2, hC3⟩ := hC
  have tk : ∀ (B : Int → Int), (∀ w, 0 ≤ w → w < 6 → B w = fcP (fcts s k r g) p.toNat w) → ∀ t, okTok t → 0 ≤ t → tkH t B = vAt (fcts s k r g) p.toNat t := by
    intro B hB t ht h0
    have := (ht.2 h0).1
    show tkH t B = tkH t (fcP (fcts s k r g) p.toNat)
    unfold tkH
    rw [hB (t % 8) (by omega) (by omega)]
  show CV _ _ _ _ _ (LkPo m (sumC true (vAt (fcts s k r g) p.toNat) cl) (sumC false (vAt (fcts s k r g) p.toNat) cl))
  obtain ⟨v, hvv⟩ : ∃ v, vAt (fcts s k r g) p.toNat = v := ⟨_, rfl⟩
  rw [hvv] at tk ⊢
  have hsr : ∀ w, 0 ≤ sumC w v cl ∧ sumC w v cl ≤ 99 * cl.length := fun w => sumC_r w v cl hC2
  have main : ∀ (cs : CLs) (m1 : XM) (B F : Int → Int) (len base j : Int) (y10 y11 y12 y13 : XV), (∀ c ∈ cs, okC c) → (∀ w, 0 ≤ w → w < 6 → B w = fcP (fcts s k r g) p.toNat w) →
      0 ≤ base → base + len ≤ 914 → 0 ≤ j → Seg s j (mSteps cs) → j + (mSteps cs).length = base + len →
      (∀ x, x ≠ 121 → x ≠ 124 → x ≠ 125 → m1 x = m x) → m1 124 = B → m1 121 = F → (∀ y, y ≠ 11 → y ≠ 12 → F y = m 121 y) →
      F 11 + sumC true v cs = sumC true v cl → F 12 + sumC false v cs = sumC false v cl → (0 ≤ F 11 ∧ F 11 + 99 * cs.length ≤ 990) → (0 ≤ F 12 ∧ F 12 + 99 * cs.length ≤ 990) →
      RZ (dd + 1) k_Mo_looks 122 [vR 121, vI k, vI i, vI p, vI r, vI g, vI len, vI base, vI 0, vI j, y10, y11, y12, y13] [] (zH z m1) (qz z (qv (LkPo m (sumC true v cl) (sumC false v cl)))) := by
    intro cs
    induction cs with
    | nil =>
      intro m1 B F len base j y10 y11 y12 y13 hok hB hb1 hb2 hj hsg hlen fr e124 e121 hF hT hI hF1 hF2
      have hlen2 : j + 0 = base + len := hlen
      refine r_loadI a138_122 rfl ?_
      refine r_loadI a138_124 rfl ?_
      refine r_loadI a138_126 rfl ?_
      refine r_add a138_128 (by omega) ?_
      refine r_icge a138_129 (fun h_129 => ?_) (fun h_129 => ?_)
      · refine r_retVq a138_441 ?_
        have hT' : F 11 + 0 = sumC true v cl := hT
        have hI' : F 12 + 0 = sumC false v cl := hI
        refine ⟨fr, fun y q1 q2 => by rw [e121]; exact hF y q1 q2, by rw [e121]; omega, by rw [e121]; omega⟩
      · exfalso
        omega
    | cons c cs ih =>
      intro m1 B F len base j y10 y11 y12 y13 hok hB hb1 hb2 hj hsg hlen fr e124 e121 hF hT hI hF1 hF2
      rw [List.length_cons] at hF1 hF2; push_cast at hF1 hF2
      obtain ⟨hc1, hc2⟩ := hok c (List.mem_cons_self ..)
      have inner : ∀ (ts : List Int) (st : List Bool) (m1 : XM) (j top : Int) (y10 y11 y12 y13 : XV), wfR ts st.length 1 → StkT (m1 125) st → top = st.length → st.length ≤ 13 → 0 ≤ j →
          Seg s j (ts ++ mEnd c :: mSteps cs) → j + (ts ++ mEnd c :: mSteps cs).length = base + len → evB v c.2.2 [] = evB v ts st →
          (∀ x, x ≠ 121 → x ≠ 124 → x ≠ 125 → m1 x = m x) → m1 124 = B → m1 121 = F →
          RZ (dd + 1) k_Mo_looks 122 [vR 121, vI k, vI i, vI p, vI r, vI g, vI len, vI base, vI top, vI j, y10, y11, y12, y13] [] (zH z m1) (qz z (qv (LkPo m (sumC true v cl) (sumC false v cl)))) := by
        intro ts
        induction ts with
        | nil =>
          intro st m1 j top y10 y11 y12 y13 hwf hst htop hl hj hsg hlen hev fr e124 e121
          have e1 : st.length = 1 := hwf
          obtain ⟨a, rfl⟩ : ∃ a, st = [a] := by
            match st, e1 with
            | [a], _ => exact ⟨a, rfl⟩
          have ha : m1 125 0 = bI a := hst.1
          have hj2 : m1 122 j = mEnd c := by rw [fr 122 (by decide) (by decide) (by decide), hm]; exact hsg.1
          have hlen2 : j + ((mSteps cs).length + 1 : Nat) = base + len := hlen
          push_cast at hlen2
          have hold : holdsC v c = a := by unfold holdsC; rw [hev]; rfl
          have hme : (c.1 = true ∧ mEnd c = -10 - c.2.1) ∨ (c.1 = false ∧ mEnd c = -200 - c.2.1) := by
            unfold mEnd
            cases c.1
            · exact Or.inr ⟨rfl, rfl⟩
            · exact Or.inl ⟨rfl, rfl⟩
          have hTc : sumC true v (c :: cs) = (if c.1 = true ∧ holdsC v c = true then c.2.1 else 0) + sumC true v cs := rfl
          have hIc : sumC false v (c :: cs) = (if c.1 = false ∧ holdsC v c = true then c.2.1 else 0) + sumC false v cs := rfl
          rw [hTc, hold] at hT
          rw [hIc, hold] at hI
          have fin : ∀ (A W : Int) (m2 : XM), A = (if c.1 = true ∧ a = true then c.2.1 else 0) → W = (if c.1 = false ∧ a = true then c.2.1 else 0) → m2 = up2 (up2 m1 121 11 (F 11 + A)) 121 12 (F 12 + W) →
              ∀ y10 y11 y12 y13, RZ (dd + 1) k_Mo_looks 435 [vR 121, vI k, vI i, vI p, vI r, vI g, vI len, vI base, vI 0, vI j, y10, y11, y12, y13] [] (zH z m2) (qz z (qv (LkPo m (sumC true v cl) (sumC false v cl)))) := by
            intro A W m2 hA hW hm2 y10 y11 y12 y13
            have hA2 : 0 ≤ A ∧ A ≤ 99 := by rw [hA]; split <;> omega
            have hW2 : 0 ≤ W ∧ W ≤ 99 := by rw [hW]; split <;> omega
            refine r_iinc_9 a138_435 rfl (by omega) ?_
            refine r_goto a138_438 ?_
            refine ih m2 B (upi (upi F 11 (F 11 + A)) 12 (F 12 + W)) len base (j + 1) _ _ _ _ (fun x hx => hok x (List.mem_cons_of_mem _ hx)) hB hb1 hb2 (by omega) hsg.2 (by omega) (fun x x1 x2 x3 => ?_) ?_ ?_ (fun y y1 y2 => ?_) ?_ ?_ ?_ ?_
            · rw [hm2, up2_c x1, up2_c x1]; exact fr x x1 x2 x3
            · rw [hm2, up2_c (by decide), up2_c (by decide)]; exact e124
            · rw [hm2, up2_C, upC_s, up2_C, upC_s, e121]
            · rw [upi_n y2, upi_n y1]; exact hF y y1 y2
            · rw [upi_n (by decide), upi_s, hA]; omega
            · rw [upi_s, hW]; omega
            · rw [upi_n (by decide), upi_s]; omega
            · rw [upi_s]; omega
          refine r_loadI a138_122 rfl ?_
          refine r_loadI a138_124 rfl ?_
          refine r_loadI a138_126 rfl ?_
          refine r_add a138_128 (by omega) ?_
          refine r_icge a138_129 (fun h_129 => ?_) (fun h_129 => ?_)
          · exfalso
            omega
          · refine r_loadA a138_132 rfl (by decide) ?_
            refine r_getR a138_133 ty121 rf121_1 (by decide) ?_
            refine r_loadI a138_136 rfl ?_
            refine r_iald a138_138 ty122 (by omega) ?_
            rw [hj2]
            refine r_storeI_10 a138_139 rfl ?_
            refine r_loadI a138_141 rfl ?_
            refine r_iflt a138_143 (fun h_143 => ?_) (fun h_143 => ?_)
            · refine r_loadI a138_240 rfl ?_
              refine r_pushI a138_242 ?_
              refine r_icne a138_243 (fun h_243 => ?_) (fun h_243 => ?_)
              · refine r_loadI a138_275 rfl ?_
                refine r_pushI a138_277 ?_
                refine r_icle a138_279 (fun h_279 => ?_) (fun h_279 => ?_)
                · refine r_pushI a138_361 ?_
                  refine r_storeI_8 a138_362 rfl ?_
                  refine r_loadA a138_364 rfl (by decide) ?_
                  refine r_getR a138_365 ty121 rf121_10 (by decide) ?_
                  refine r_pushI a138_368 ?_
                  refine r_bald a138_369 ty125 (by omega) ?_
                  rw [ha]
                  refine r_storeI_11 a138_370 rfl ?_
                  refine r_loadA a138_372 rfl (by decide) ?_
                  refine r_dup a138_373 rfl ?_
                  refine r_getI (ki := 11) a138_374 ty121 rfl ?_
                  rw [e121]
                  refine r_loadI a138_377 rfl ?_
                  refine r_ifeq a138_379 (fun h_379 => ?_) (fun h_379 => ?_)
                  · refine r_pushI a138_398 ?_
                    refine r_add a138_399 (by omega) ?_
                    refine r_putI (ki := 11) a138_400 ty121 rfl ?_
                    refine r_loadA a138_403 rfl (by decide) ?_
                    refine r_dup a138_404 rfl ?_
                    refine r_getI (ki := 12) a138_405 ty121 rfl ?_
                    rw [up2_k (by decide), e121]
                    refine r_loadI a138_408 rfl ?_
                    refine r_ifeq a138_410 (fun h_410 => ?_) (fun h_410 => ?_)
                    · refine r_pushI a138_430 ?_
                      refine r_add a138_431 (by omega) ?_
                      refine r_putI (ki := 12) a138_432 ty121 rfl ?_
                      cases a
                      · refine fin 0 0 _ (by rw [if_neg (by simp)]) (by rw [if_neg (by simp)]) ?_ _ _ _ _
                        first
                          | rfl
                          | (exfalso; revert h_379; decide)
                          | (exfalso; revert h_410; decide)
                      · refine fin (if c.1 = true ∧ true = true then c.2.1 else 0) (if c.1 = false ∧ true = true then c.2.1 else 0) _ rfl rfl ?_ _ _ _ _
                        rcases hme with ⟨w1, w2⟩ | ⟨w1, w2⟩
                        · rw [if_pos ⟨w1, rfl⟩, if_neg (by rw [w1]; simp)]
                          first
                            | (exfalso; revert h_379; decide)
                            | (exfalso; revert h_410; decide)
                            | (exfalso; omega)
                            | (rw [w2]; congr 2; omega)
                        · rw [if_neg (by rw [w1]; simp), if_pos ⟨w1, rfl⟩]
                          first
                            | (exfalso; revert h_379; decide)
                            | (exfalso; revert h_410; decide)
                            | (exfalso; omega)
                            | (rw [w2]; congr 1; omega)
                    · refine r_loadI a138_413 rfl ?_
                      refine r_pushI a138_415 ?_
                      refine r_icgt a138_418 (fun h_418 => ?_) (fun h_418 => ?_)
                      · refine r_pushI a138_430 ?_
                        refine r_add a138_431 (by omega) ?_
                        refine r_putI (ki := 12) a138_432 ty121 rfl ?_
                        cases a
                        · refine fin 0 0 _ (by rw [if_neg (by simp)]) (by rw [if_neg (by simp)]) ?_ _ _ _ _
                          first
                            | rfl
                            | (exfalso; revert h_379; decide)
                            | (exfalso; revert h_410; decide)
                        · refine fin (if c.1 = true ∧ true = true then c.2.1 else 0) (if c.1 = false ∧ true = true then c.2.1 else 0) _ rfl rfl ?_ _ _ _ _
                          rcases hme with ⟨w1, w2⟩ | ⟨w1, w2⟩
                          · rw [if_pos ⟨w1, rfl⟩, if_neg (by rw [w1]; simp)]
                            first
                              | (exfalso; revert h_379; decide)
                              | (exfalso; revert h_410; decide)
                              | (exfalso; omega)
                              | (rw [w2]; congr 2; omega)
                          · rw [if_neg (by rw [w1]; simp), if_pos ⟨w1, rfl⟩]
                            first
                              | (exfalso; revert h_379; decide)
                              | (exfalso; revert h_410; decide)
                              | (exfalso; omega)
                              | (rw [w2]; congr 1; omega)
                      · refine r_pushI a138_421 ?_
                        refine r_loadI a138_424 rfl ?_
                        refine r_sub a138_426 (by omega) ?_
                        refine r_goto a138_427 ?_
                        refine r_add a138_431 (by omega) ?_
                        refine r_putI (ki := 12) a138_432 ty121 rfl ?_
                        cases a
                        · refine fin 0 0 _ (by rw [if_neg (by simp)]) (by rw [if_neg (by simp)]) ?_ _ _ _ _
                          first
                            | rfl
                            | (exfalso; revert h_379; decide)
                            | (exfalso; revert h_410; decide)
                        · refine fin (if c.1 = true ∧ true = true then c.2.1 else 0) (if c.1 = false ∧ true = true then c.2.1 else 0) _ rfl rfl ?_ _ _ _ _
                          rcases hme with ⟨w1, w2⟩ | ⟨w1, w2⟩
                          · rw [if_pos ⟨w1, rfl⟩, if_neg (by rw [w1]; simp)]
                            first
                              | (exfalso; revert h_379; decide)
                              | (exfalso; revert h_410; decide)
                              | (exfalso; omega)
                              | (rw [w2]; congr 2; omega)
                          · rw [if_neg (by rw [w1]; simp), if_pos ⟨w1, rfl⟩]
                            first
                              | (exfalso; revert h_379; decide)
                              | (exfalso; revert h_410; decide)
                              | (exfalso; omega)
                              | (rw [w2]; congr 1; omega)
                  · refine r_loadI a138_382 rfl ?_
                    refine r_pushI a138_384 ?_
                    refine r_icle a138_387 (fun h_387 => ?_) (fun h_387 => ?_)
                    · refine r_pushI a138_398 ?_
                      refine r_add a138_399 (by omega) ?_
                      refine r_putI (ki := 11) a138_400 ty121 rfl ?_
                      refine r_loadA a138_403 rfl (by decide) ?_
                      refine r_dup a138_404 rfl ?_
                      refine r_getI (ki := 12) a138_405 ty121 rfl ?_
                      rw [up2_k (by decide), e121]
                      refine r_loadI a138_408 rfl ?_
                      refine r_ifeq a138_410 (fun h_410 => ?_) (fun h_410 => ?_)
                      · refine r_pushI a138_430 ?_
                        refine r_add a138_431 (by omega) ?_
                        refine r_putI (ki := 12) a138_432 ty121 rfl ?_
                        cases a
                        · refine fin 0 0 _ (by rw [if_neg (by simp)]) (by rw [if_neg (by simp)]) ?_ _ _ _ _
                          first
                            | rfl
                            | (exfalso; revert h_379; decide)
                            | (exfalso; revert h_410; decide)
                        · refine fin (if c.1 = true ∧ true = true then c.2.1 else 0) (if c.1 = false ∧ true = true then c.2.1 else 0) _ rfl rfl ?_ _ _ _ _
                          rcases hme with ⟨w1, w2⟩ | ⟨w1, w2⟩
                          · rw [if_pos ⟨w1, rfl⟩, if_neg (by rw [w1]; simp)]
                            first
                              | (exfalso; revert h_379; decide)
                              | (exfalso; revert h_410; decide)
                              | (exfalso; omega)
                              | (rw [w2]; congr 2; omega)
                          · rw [if_neg (by rw [w1]; simp), if_pos ⟨w1, rfl⟩]
                            first
                              | (exfalso; revert h_379; decide)
                              | (exfalso; revert h_410; decide)
                              | (exfalso; omega)
                              | (rw [w2]; congr 1; omega)
                      · refine r_loadI a138_413 rfl ?_
                        refine r_pushI a138_415 ?_
                        refine r_icgt a138_418 (fun h_418 => ?_) (fun h_418 => ?_)
                        · refine r_pushI a138_430 ?_
                          refine r_add a138_431 (by omega) ?_
                          refine r_putI (ki := 12) a138_432 ty121 rfl ?_
                          cases a
                          · refine fin 0 0 _ (by rw [if_neg (by simp)]) (by rw [if_neg (by simp)]) ?_ _ _ _ _
                            first
                              | rfl
                              | (exfalso; revert h_379; decide)
                              | (exfalso; revert h_410; decide)
                          · refine fin (if c.1 = true ∧ true = true then c.2.1 else 0) (if c.1 = false ∧ true = true then c.2.1 else 0) _ rfl rfl ?_ _ _ _ _
                            rcases hme with ⟨w1, w2⟩ | ⟨w1, w2⟩
                            · rw [if_pos ⟨w1, rfl⟩, if_neg (by rw [w1]; simp)]
                              first
                                | (exfalso; revert h_379; decide)
                                | (exfalso; revert h_410; decide)
                                | (exfalso; omega)
                                | (rw [w2]; congr 2; omega)
                            · rw [if_neg (by rw [w1]; simp), if_pos ⟨w1, rfl⟩]
                              first
                                | (exfalso; revert h_379; decide)
                                | (exfalso; revert h_410; decide)
                                | (exfalso; omega)
                                | (rw [w2]; congr 1; omega)
                        · refine r_pushI a138_421 ?_
                          refine r_loadI a138_424 rfl ?_
                          refine r_sub a138_426 (by omega) ?_
                          refine r_goto a138_427 ?_
                          refine r_add a138_431 (by omega) ?_
                          refine r_putI (ki := 12) a138_432 ty121 rfl ?_
                          cases a
                          · refine fin 0 0 _ (by rw [if_neg (by simp)]) (by rw [if_neg (by simp)]) ?_ _ _ _ _
                            first
                              | rfl
                              | (exfalso; revert h_379; decide)
                              | (exfalso; revert h_410; decide)
                          · refine fin (if c.1 = true ∧ true = true then c.2.1 else 0) (if c.1 = false ∧ true = true then c.2.1 else 0) _ rfl rfl ?_ _ _ _ _
                            rcases hme with ⟨w1, w2⟩ | ⟨w1, w2⟩
                            · rw [if_pos ⟨w1, rfl⟩, if_neg (by rw [w1]; simp)]
                              first
                                | (exfalso; revert h_379; decide)
                                | (exfalso; revert h_410; decide)
                                | (exfalso; omega)
                                | (rw [w2]; congr 2; omega)
                            · rw [if_neg (by rw [w1]; simp), if_pos ⟨w1, rfl⟩]
                              first
                                | (exfalso; revert h_379; decide)
                                | (exfalso; revert h_410; decide)
                                | (exfalso; omega)
                                | (rw [w2]; congr 1; omega)
                    · refine r_pushI a138_390 ?_
                      refine r_loadI a138_392 rfl ?_
                      refine r_sub a138_394 (by omega) ?_
                      refine r_goto a138_395 ?_
                      refine r_add a138_399 (by omega) ?_
                      refine r_putI (ki := 11) a138_400 ty121 rfl ?_
                      refine r_loadA a138_403 rfl (by decide) ?_
                      refine r_dup a138_404 rfl ?_
                      refine r_getI (ki := 12) a138_405 ty121 rfl ?_
                      rw [up2_k (by decide), e121]
                      refine r_loadI a138_408 rfl ?_
                      refine r_ifeq a138_410 (fun h_410 => ?_) (fun h_410 => ?_)
                      · refine r_pushI a138_430 ?_
                        refine r_add a138_431 (by omega) ?_
                        refine r_putI (ki := 12) a138_432 ty121 rfl ?_
                        cases a
                        · refine fin 0 0 _ (by rw [if_neg (by simp)]) (by rw [if_neg (by simp)]) ?_ _ _ _ _
                          first
                            | rfl
                            | (exfalso; revert h_379; decide)
                            | (exfalso; revert h_410; decide)
                        · refine fin (if c.1 = true ∧ true = true then c.2.1 else 0) (if c.1 = false ∧ true = true then c.2.1 else 0) _ rfl rfl ?_ _ _ _ _
                          rcases hme with ⟨w1, w2⟩ | ⟨w1, w2⟩
                          · rw [if_pos ⟨w1, rfl⟩, if_neg (by rw [w1]; simp)]
                            first
                              | (exfalso; revert h_379; decide)
                              | (exfalso; revert h_410; decide)
                              | (exfalso; omega)
                              | (rw [w2]; congr 2; omega)
                          · rw [if_neg (by rw [w1]; simp), if_pos ⟨w1, rfl⟩]
                            first
                              | (exfalso; revert h_379; decide)
                              | (exfalso; revert h_410; decide)
                              | (exfalso; omega)
                              | (rw [w2]; congr 1; omega)
                      · refine r_loadI a138_413 rfl ?_
                        refine r_pushI a138_415 ?_
                        refine r_icgt a138_418 (fun h_418 => ?_) (fun h_418 => ?_)
                        · refine r_pushI a138_430 ?_
                          refine r_add a138_431 (by omega) ?_
                          refine r_putI (ki := 12) a138_432 ty121 rfl ?_
                          cases a
                          · refine fin 0 0 _ (by rw [if_neg (by simp)]) (by rw [if_neg (by simp)]) ?_ _ _ _ _
                            first
                              | rfl
                              | (exfalso; revert h_379; decide)
                              | (exfalso; revert h_410; decide)
                          · refine fin (if c.1 = true ∧ true = true then c.2.1 else 0) (if c.1 = false ∧ true = true then c.2.1 else 0) _ rfl rfl ?_ _ _ _ _
                            rcases hme with ⟨w1, w2⟩ | ⟨w1, w2⟩
                            · rw [if_pos ⟨w1, rfl⟩, if_neg (by rw [w1]; simp)]
                              first
                                | (exfalso; revert h_379; decide)
                                | (exfalso; revert h_410; decide)
                                | (exfalso; omega)
                                | (rw [w2]; congr 2; omega)
                            · rw [if_neg (by rw [w1]; simp), if_pos ⟨w1, rfl⟩]
                              first
                                | (exfalso; revert h_379; decide)
                                | (exfalso; revert h_410; decide)
                                | (exfalso; omega)
                                | (rw [w2]; congr 1; omega)
                        · refine r_pushI a138_421 ?_
                          refine r_loadI a138_424 rfl ?_
                          refine r_sub a138_426 (by omega) ?_
                          refine r_goto a138_427 ?_
                          refine r_add a138_431 (by omega) ?_
                          refine r_putI (ki := 12) a138_432 ty121 rfl ?_
                          cases a
                          · refine fin 0 0 _ (by rw [if_neg (by simp)]) (by rw [if_neg (by simp)]) ?_ _ _ _ _
                            first
                              | rfl
                              | (exfalso; revert h_379; decide)
                              | (exfalso; revert h_410; decide)
                          · refine fin (if c.1 = true ∧ true = true then c.2.1 else 0) (if c.1 = false ∧ true = true then c.2.1 else 0) _ rfl rfl ?_ _ _ _ _
                            rcases hme with ⟨w1, w2⟩ | ⟨w1, w2⟩
                            · rw [if_pos ⟨w1, rfl⟩, if_neg (by rw [w1]; simp)]
                              first
                                | (exfalso; revert h_379; decide)
                                | (exfalso; revert h_410; decide)
                                | (exfalso; omega)
                                | (rw [w2]; congr 2; omega)
                            · rw [if_neg (by rw [w1]; simp), if_pos ⟨w1, rfl⟩]
                              first
                                | (exfalso; revert h_379; decide)
                                | (exfalso; revert h_410; decide)
                                | (exfalso; omega)
                                | (rw [w2]; congr 1; omega)
                · exfalso
                  omega
              · exfalso
                omega
            · exfalso
              omega
        | cons t ts ih2 =>
          intro st m1 j top y10 y11 y12 y13 hwf hst htop hl hj hsg hlen hev fr e124 e121
          obtain ⟨hok1, hwf2⟩ := hwf
          have hj2 : m1 122 j = t := by rw [fr 122 (by decide) (by decide) (by decide), hm]; exact hsg.1
          have hlen2 : j + ((ts ++ mEnd c :: mSteps cs).length + 1 : Nat) = base + len := hlen
          push_cast at hlen2
          have fin : ∀ (st' : List Bool) (m2 : XM) (top' : Int), top' = st'.length → StkT (m2 125) st' → wfR ts st'.length 1 → st'.length ≤ 13 → (∀ x, x ≠ 125 → m2 x = m1 x) →
              evB v (t :: ts) st = evB v ts st' → ∀ y10 y11 y12 y13,
              RZ (dd + 1) k_Mo_looks 435 [vR 121, vI k, vI i, vI p, vI r, vI g, vI len, vI base, vI top', vI j, y10, y11, y12, y13] [] (zH z m2) (qz z (qv (LkPo m (sumC true v cl) (sumC false v cl)))) := by
            intro st' m2 top' q1 q2 q3 q4 q5 q6 y10 y11 y12 y13
            refine r_iinc_9 a138_435 rfl (by omega) ?_
            refine r_goto a138_438 ?_
            exact ih2 st' m2 (j + 1) top' _ _ _ _ q3 q2 q1 q4 (by omega) hsg.2 (by omega) (hev.trans q6) (fun x x1 x2 x3 => by rw [q5 x x3]; exact fr x x1 x2 x3) (by rw [q5 124 (by decide)]; exact e124) (by rw [q5 121 (by decide)]; exact e121)
          have hok2 := hok1.2
          have hok3 := hok1.1
          refine r_loadI a138_122 rfl ?_
          refine r_loadI a138_124 rfl ?_
          refine r_loadI a138_126 rfl ?_
          refine r_add a138_128 (by omega) ?_
          refine r_icge a138_129 (fun h_129 => ?_) (fun h_129 => ?_)
          · exfalso
            omega
          · refine r_loadA a138_132 rfl (by decide) ?_
            refine r_getR a138_133 ty121 rf121_1 (by decide) ?_
            refine r_loadI a138_136 rfl ?_
            refine r_iald a138_138 ty122 (by omega) ?_
            rw [hj2]
            refine r_storeI_10 a138_139 rfl ?_
            refine r_loadI a138_141 rfl ?_
            refine r_iflt a138_143 (fun h_143 => ?_) (fun h_143 => ?_)
            · refine r_loadI a138_240 rfl ?_
              refine r_pushI a138_242 ?_
              refine r_icne a138_243 (fun h_243 => ?_) (fun h_243 => ?_)
              · refine r_loadI a138_275 rfl ?_
                refine r_pushI a138_277 ?_
                refine r_icle a138_279 (fun h_279 => ?_) (fun h_279 => ?_)
                · exfalso
                  omega
                · refine r_iinc_8 a138_282 rfl (by omega) ?_
                  refine r_loadA a138_285 rfl (by decide) ?_
                  refine r_getR a138_286 ty121 rf121_10 (by decide) ?_
                  refine r_loadI a138_289 rfl ?_
                  refine r_pushI a138_291 ?_
                  refine r_sub a138_292 (by omega) ?_
                  refine r_loadI a138_293 rfl ?_
                  refine r_pushI a138_295 ?_
                  refine r_icne a138_297 (fun h_297 => ?_) (fun h_297 => ?_)
                  · refine r_loadA a138_330 rfl (by decide) ?_
                    refine r_getR a138_331 ty121 rf121_10 (by decide) ?_
                    refine r_loadI a138_334 rfl ?_
                    refine r_pushI a138_336 ?_
                    refine r_sub a138_337 (by omega) ?_
                    rw [if_neg (by omega), if_neg (by omega)] at hwf2
                    have hq : 2 ≤ top := by have := hwf2.1; omega
                    refine r_bald a138_338 ty125 (by omega) ?_
                    refine r_ifne a138_339 (fun h_339 => ?_) (fun h_339 => ?_)
                    · refine r_pushI a138_352 ?_
                      refine r_goto a138_353 ?_
                      refine r_bast a138_357 ty125 (by omega) (by omega) ?_
                      match st, htop, hst, hwf2, hl, hev, fin with
                      | [], htop, hst, hwf2, hl, hev, fin => exact absurd (show 2 ≤ 0 from hwf2.1) (by decide)
                      | [a], htop, hst, hwf2, hl, hev, fin => exact absurd (show 2 ≤ 1 from hwf2.1) (by decide)
                      | b :: a :: rs, htop, hst, hwf2, hl, hev, fin =>
                        have htr : top + -1 = (rs.length : Int) + 1 := by rw [List.length_cons, List.length_cons] at htop; push_cast at htop; omega
                        have htr2 : top + -1 - 1 = (rs.length : Int) := by omega
                        have hb : m1 125 ((rs.length : Int) + 1) = bI b := by have := hst.1; rw [List.length_cons] at this; push_cast at this; exact this
                        have ha : m1 125 (rs.length : Int) = bI a := hst.2.1
                        refine r_goto a138_358 ?_
                        have fin2 : ∀ (x : Int) (bb : Bool), x = bI bb → bb = (if t = -2 then a && b else a || b) →
                            ∀ y10 y11 y12 y13, RZ (dd + 1) k_Mo_looks 435 [vR 121, vI k, vI i, vI p, vI r, vI g, vI len, vI base, vI (top + -1), vI j, y10, y11, y12, y13] [] (zH z (up2 m1 125 (top + -1 - 1) x)) (qz z (qv (LkPo m (sumC true v cl) (sumC false v cl)))) := by
                          intro x bb hx hbb y10 y11 y12 y13
                          rw [htr2, htr, hx]
                          refine fin (bb :: rs) _ _ ?_ ⟨?_, ?_⟩ hwf2.2 ?_ (fun x hx => up2_c hx) ?_ _ _ _ _
                          · rw [List.length_cons]; push_cast; rfl
                          · rw [up2_s]
                          · rw [up2_C, upC_s]; exact StkT_up hst.2.2 (by omega)
                          · rw [List.length_cons, List.length_cons] at hl; rw [List.length_cons]; omega
                          · show evB v ts _ = _
                            rw [if_neg (by omega), if_neg (by omega)]
                            show evB v ts ((if t = -2 then _ else _) :: rs) = _
                            rw [hbb]
                        have hz : ∀ q : Bool, (bI q = 0 → q = false) ∧ (bI q ≠ 0 → q = true) := by intro q; cases q <;> decide
                        first
                          | (rw [htr2, ha] at h_309; rw [htr, hb] at h_319
                             refine fin2 _ true rfl ?_ _ _ _ _
                             rw [if_pos (by omega), (hz a).2 h_309, (hz b).2 h_319, Bool.and_true]; done)
                          | (rw [htr2, ha] at h_309; rw [htr, hb] at h_319
                             refine fin2 _ false rfl ?_ _ _ _ _
                             rw [if_pos (by omega), (hz b).1 h_319, Bool.and_false]; done)
                          | (rw [htr2, ha] at h_309
                             refine fin2 _ false rfl ?_ _ _ _ _
                             rw [if_pos (by omega), (hz a).1 h_309, Bool.false_and]; done)
                          | (rw [htr2, ha] at h_339; rw [htr, hb] at h_349
                             refine fin2 _ true rfl ?_ _ _ _ _
                             rw [if_neg (by omega), (hz b).2 h_349, Bool.or_true]; done)
                          | (rw [htr2, ha] at h_339; rw [htr, hb] at h_349
                             refine fin2 _ false rfl ?_ _ _ _ _
                             rw [if_neg (by omega), (hz a).1 h_339, (hz b).1 h_349, Bool.or_false]; done)
                          | (rw [htr2, ha] at h_339
                             refine fin2 _ true rfl ?_ _ _ _ _
                             rw [if_neg (by omega), (hz a).2 h_339, Bool.true_or]; done)
                    · refine r_loadA a138_342 rfl (by decide) ?_
                      refine r_getR a138_343 ty121 rf121_10 (by decide) ?_
                      refine r_loadI a138_346 rfl ?_
                      refine r_bald a138_348 ty125 (by omega) ?_
                      refine r_ifeq a138_349 (fun h_349 => ?_) (fun h_349 => ?_)
                      · refine r_pushI a138_356 ?_
                        refine r_bast a138_357 ty125 (by omega) (by omega) ?_
                        match st, htop, hst, hwf2, hl, hev, fin with
                        | [], htop, hst, hwf2, hl, hev, fin => exact absurd (show 2 ≤ 0 from hwf2.1) (by decide)
                        | [a], htop, hst, hwf2, hl, hev, fin => exact absurd (show 2 ≤ 1 from hwf2.1) (by decide)
                        | b :: a :: rs, htop, hst, hwf2, hl, hev, fin =>
                          have htr : top + -1 = (rs.length : Int) + 1 := by rw [List.length_cons, List.length_cons] at htop; push_cast at htop; omega
                          have htr2 : top + -1 - 1 = (rs.length : Int) := by omega
                          have hb : m1 125 ((rs.length : Int) + 1) = bI b := by have := hst.1; rw [List.length_cons] at this; push_cast at this; exact this
                          have ha : m1 125 (rs.length : Int) = bI a := hst.2.1
                          refine r_goto a138_358 ?_
                          have fin2 : ∀ (x : Int) (bb : Bool), x = bI bb → bb = (if t = -2 then a && b else a || b) →
                              ∀ y10 y11 y12 y13, RZ (dd + 1) k_Mo_looks 435 [vR 121, vI k, vI i, vI p, vI r, vI g, vI len, vI base, vI (top + -1), vI j, y10, y11, y12, y13] [] (zH z (up2 m1 125 (top + -1 - 1) x)) (qz z (qv (LkPo m (sumC true v cl) (sumC false v cl)))) := by
                            intro x bb hx hbb y10 y11 y12 y13
                            rw [htr2, htr, hx]
                            refine fin (bb :: rs) _ _ ?_ ⟨?_, ?_⟩ hwf2.2 ?_ (fun x hx => up2_c hx) ?_ _ _ _ _
                            · rw [List.length_cons]; push_cast; rfl
                            · rw [up2_s]
                            · rw [up2_C, upC_s]; exact StkT_up hst.2.2 (by omega)
                            · rw [List.length_cons, List.length_cons] at hl; rw [List.length_cons]; omega
                            · show evB v ts _ = _
                              rw [if_neg (by omega), if_neg (by omega)]
                              show evB v ts ((if t = -2 then _ else _) :: rs) = _
                              rw [hbb]
                          have hz : ∀ q : Bool, (bI q = 0 → q = false) ∧ (bI q ≠ 0 → q = true) := by intro q; cases q <;> decide
                          first
                            | (rw [htr2, ha] at h_309; rw [htr, hb] at h_319
                               refine fin2 _ true rfl ?_ _ _ _ _
                               rw [if_pos (by omega), (hz a).2 h_309, (hz b).2 h_319, Bool.and_true]; done)
                            | (rw [htr2, ha] at h_309; rw [htr, hb] at h_319
                               refine fin2 _ false rfl ?_ _ _ _ _
                               rw [if_pos (by omega), (hz b).1 h_319, Bool.and_false]; done)
                            | (rw [htr2, ha] at h_309
                               refine fin2 _ false rfl ?_ _ _ _ _
                               rw [if_pos (by omega), (hz a).1 h_309, Bool.false_and]; done)
                            | (rw [htr2, ha] at h_339; rw [htr, hb] at h_349
                               refine fin2 _ true rfl ?_ _ _ _ _
                               rw [if_neg (by omega), (hz b).2 h_349, Bool.or_true]; done)
                            | (rw [htr2, ha] at h_339; rw [htr, hb] at h_349
                               refine fin2 _ false rfl ?_ _ _ _ _
                               rw [if_neg (by omega), (hz a).1 h_339, (hz b).1 h_349, Bool.or_false]; done)
                            | (rw [htr2, ha] at h_339
                               refine fin2 _ true rfl ?_ _ _ _ _
                               rw [if_neg (by omega), (hz a).2 h_339, Bool.true_or]; done)
                      · refine r_pushI a138_352 ?_
                        refine r_goto a138_353 ?_
                        refine r_bast a138_357 ty125 (by omega) (by omega) ?_
                        match st, htop, hst, hwf2, hl, hev, fin with
                        | [], htop, hst, hwf2, hl, hev, fin => exact absurd (show 2 ≤ 0 from hwf2.1) (by decide)
                        | [a], htop, hst, hwf2, hl, hev, fin => exact absurd (show 2 ≤ 1 from hwf2.1) (by decide)
                        | b :: a :: rs, htop, hst, hwf2, hl, hev, fin =>
                          have htr : top + -1 = (rs.length : Int) + 1 := by rw [List.length_cons, List.length_cons] at htop; push_cast at htop; omega
                          have htr2 : top + -1 - 1 = (rs.length : Int) := by omega
                          have hb : m1 125 ((rs.length : Int) + 1) = bI b := by have := hst.1; rw [List.length_cons] at this; push_cast at this; exact this
                          have ha : m1 125 (rs.length : Int) = bI a := hst.2.1
                          refine r_goto a138_358 ?_
                          have fin2 : ∀ (x : Int) (bb : Bool), x = bI bb → bb = (if t = -2 then a && b else a || b) →
                              ∀ y10 y11 y12 y13, RZ (dd + 1) k_Mo_looks 435 [vR 121, vI k, vI i, vI p, vI r, vI g, vI len, vI base, vI (top + -1), vI j, y10, y11, y12, y13] [] (zH z (up2 m1 125 (top + -1 - 1) x)) (qz z (qv (LkPo m (sumC true v cl) (sumC false v cl)))) := by
                            intro x bb hx hbb y10 y11 y12 y13
                            rw [htr2, htr, hx]
                            refine fin (bb :: rs) _ _ ?_ ⟨?_, ?_⟩ hwf2.2 ?_ (fun x hx => up2_c hx) ?_ _ _ _ _
                            · rw [List.length_cons]; push_cast; rfl
                            · rw [up2_s]
                            · rw [up2_C, upC_s]; exact StkT_up hst.2.2 (by omega)
                            · rw [List.length_cons, List.length_cons] at hl; rw [List.length_cons]; omega
                            · show evB v ts _ = _
                              rw [if_neg (by omega), if_neg (by omega)]
                              show evB v ts ((if t = -2 then _ else _) :: rs) = _
                              rw [hbb]
                          have hz : ∀ q : Bool, (bI q = 0 → q = false) ∧ (bI q ≠ 0 → q = true) := by intro q; cases q <;> decide
                          first
                            | (rw [htr2, ha] at h_309; rw [htr, hb] at h_319
                               refine fin2 _ true rfl ?_ _ _ _ _
                               rw [if_pos (by omega), (hz a).2 h_309, (hz b).2 h_319, Bool.and_true]; done)
                            | (rw [htr2, ha] at h_309; rw [htr, hb] at h_319
                               refine fin2 _ false rfl ?_ _ _ _ _
                               rw [if_pos (by omega), (hz b).1 h_319, Bool.and_false]; done)
                            | (rw [htr2, ha] at h_309
                               refine fin2 _ false rfl ?_ _ _ _ _
                               rw [if_pos (by omega), (hz a).1 h_309, Bool.false_and]; done)
                            | (rw [htr2, ha] at h_339; rw [htr, hb] at h_349
                               refine fin2 _ true rfl ?_ _ _ _ _
                               rw [if_neg (by omega), (hz b).2 h_349, Bool.or_true]; done)
                            | (rw [htr2, ha] at h_339; rw [htr, hb] at h_349
                               refine fin2 _ false rfl ?_ _ _ _ _
                               rw [if_neg (by omega), (hz a).1 h_339, (hz b).1 h_349, Bool.or_false]; done)
                            | (rw [htr2, ha] at h_339
                               refine fin2 _ true rfl ?_ _ _ _ _
                               rw [if_neg (by omega), (hz a).2 h_339, Bool.true_or]; done)
                  · refine r_loadA a138_300 rfl (by decide) ?_
                    refine r_getR a138_301 ty121 rf121_10 (by decide) ?_
                    refine r_loadI a138_304 rfl ?_
                    refine r_pushI a138_306 ?_
                    refine r_sub a138_307 (by omega) ?_
                    rw [if_neg (by omega), if_neg (by omega)] at hwf2
                    have hq : 2 ≤ top := by have := hwf2.1; omega
                    refine r_bald a138_308 ty125 (by omega) ?_
                    refine r_ifeq a138_309 (fun h_309 => ?_) (fun h_309 => ?_)
                    · refine r_pushI a138_326 ?_
                      refine r_goto a138_327 ?_
                      refine r_bast a138_357 ty125 (by omega) (by omega) ?_
                      match st, htop, hst, hwf2, hl, hev, fin with
                      | [], htop, hst, hwf2, hl, hev, fin => exact absurd (show 2 ≤ 0 from hwf2.1) (by decide)
                      | [a], htop, hst, hwf2, hl, hev, fin => exact absurd (show 2 ≤ 1 from hwf2.1) (by decide)
                      | b :: a :: rs, htop, hst, hwf2, hl, hev, fin =>
                        have htr : top + -1 = (rs.length : Int) + 1 := by rw [List.length_cons, List.length_cons] at htop; push_cast at htop; omega
                        have htr2 : top + -1 - 1 = (rs.length : Int) := by omega
                        have hb : m1 125 ((rs.length : Int) + 1) = bI b := by have := hst.1; rw [List.length_cons] at this; push_cast at this; exact this
                        have ha : m1 125 (rs.length : Int) = bI a := hst.2.1
                        refine r_goto a138_358 ?_
                        have fin2 : ∀ (x : Int) (bb : Bool), x = bI bb → bb = (if t = -2 then a && b else a || b) →
                            ∀ y10 y11 y12 y13, RZ (dd + 1) k_Mo_looks 435 [vR 121, vI k, vI i, vI p, vI r, vI g, vI len, vI base, vI (top + -1), vI j, y10, y11, y12, y13] [] (zH z (up2 m1 125 (top + -1 - 1) x)) (qz z (qv (LkPo m (sumC true v cl) (sumC false v cl)))) := by
                          intro x bb hx hbb y10 y11 y12 y13
                          rw [htr2, htr, hx]
                          refine fin (bb :: rs) _ _ ?_ ⟨?_, ?_⟩ hwf2.2 ?_ (fun x hx => up2_c hx) ?_ _ _ _ _
                          · rw [List.length_cons]; push_cast; rfl
                          · rw [up2_s]
                          · rw [up2_C, upC_s]; exact StkT_up hst.2.2 (by omega)
                          · rw [List.length_cons, List.length_cons] at hl; rw [List.length_cons]; omega
                          · show evB v ts _ = _
                            rw [if_neg (by omega), if_neg (by omega)]
                            show evB v ts ((if t = -2 then _ else _) :: rs) = _
                            rw [hbb]
                        have hz : ∀ q : Bool, (bI q = 0 → q = false) ∧ (bI q ≠ 0 → q = true) := by intro q; cases q <;> decide
                        first
                          | (rw [htr2, ha] at h_309; rw [htr, hb] at h_319
                             refine fin2 _ true rfl ?_ _ _ _ _
                             rw [if_pos (by omega), (hz a).2 h_309, (hz b).2 h_319, Bool.and_true]; done)
                          | (rw [htr2, ha] at h_309; rw [htr, hb] at h_319
                             refine fin2 _ false rfl ?_ _ _ _ _
                             rw [if_pos (by omega), (hz b).1 h_319, Bool.and_false]; done)
                          | (rw [htr2, ha] at h_309
                             refine fin2 _ false rfl ?_ _ _ _ _
                             rw [if_pos (by omega), (hz a).1 h_309, Bool.false_and]; done)
                          | (rw [htr2, ha] at h_339; rw [htr, hb] at h_349
                             refine fin2 _ true rfl ?_ _ _ _ _
                             rw [if_neg (by omega), (hz b).2 h_349, Bool.or_true]; done)
                          | (rw [htr2, ha] at h_339; rw [htr, hb] at h_349
                             refine fin2 _ false rfl ?_ _ _ _ _
                             rw [if_neg (by omega), (hz a).1 h_339, (hz b).1 h_349, Bool.or_false]; done)
                          | (rw [htr2, ha] at h_339
                             refine fin2 _ true rfl ?_ _ _ _ _
                             rw [if_neg (by omega), (hz a).2 h_339, Bool.true_or]; done)
                    · refine r_loadA a138_312 rfl (by decide) ?_
                      refine r_getR a138_313 ty121 rf121_10 (by decide) ?_
                      refine r_loadI a138_316 rfl ?_
                      refine r_bald a138_318 ty125 (by omega) ?_
                      refine r_ifeq a138_319 (fun h_319 => ?_) (fun h_319 => ?_)
                      · refine r_pushI a138_326 ?_
                        refine r_goto a138_327 ?_
                        refine r_bast a138_357 ty125 (by omega) (by omega) ?_
                        match st, htop, hst, hwf2, hl, hev, fin with
                        | [], htop, hst, hwf2, hl, hev, fin => exact absurd (show 2 ≤ 0 from hwf2.1) (by decide)
                        | [a], htop, hst, hwf2, hl, hev, fin => exact absurd (show 2 ≤ 1 from hwf2.1) (by decide)
                        | b :: a :: rs, htop, hst, hwf2, hl, hev, fin =>
                          have htr : top + -1 = (rs.length : Int) + 1 := by rw [List.length_cons, List.length_cons] at htop; push_cast at htop; omega
                          have htr2 : top + -1 - 1 = (rs.length : Int) := by omega
                          have hb : m1 125 ((rs.length : Int) + 1) = bI b := by have := hst.1; rw [List.length_cons] at this; push_cast at this; exact this
                          have ha : m1 125 (rs.length : Int) = bI a := hst.2.1
                          refine r_goto a138_358 ?_
                          have fin2 : ∀ (x : Int) (bb : Bool), x = bI bb → bb = (if t = -2 then a && b else a || b) →
                              ∀ y10 y11 y12 y13, RZ (dd + 1) k_Mo_looks 435 [vR 121, vI k, vI i, vI p, vI r, vI g, vI len, vI base, vI (top + -1), vI j, y10, y11, y12, y13] [] (zH z (up2 m1 125 (top + -1 - 1) x)) (qz z (qv (LkPo m (sumC true v cl) (sumC false v cl)))) := by
                            intro x bb hx hbb y10 y11 y12 y13
                            rw [htr2, htr, hx]
                            refine fin (bb :: rs) _ _ ?_ ⟨?_, ?_⟩ hwf2.2 ?_ (fun x hx => up2_c hx) ?_ _ _ _ _
                            · rw [List.length_cons]; push_cast; rfl
                            · rw [up2_s]
                            · rw [up2_C, upC_s]; exact StkT_up hst.2.2 (by omega)
                            · rw [List.length_cons, List.length_cons] at hl; rw [List.length_cons]; omega
                            · show evB v ts _ = _
                              rw [if_neg (by omega), if_neg (by omega)]
                              show evB v ts ((if t = -2 then _ else _) :: rs) = _
                              rw [hbb]
                          have hz : ∀ q : Bool, (bI q = 0 → q = false) ∧ (bI q ≠ 0 → q = true) := by intro q; cases q <;> decide
                          first
                            | (rw [htr2, ha] at h_309; rw [htr, hb] at h_319
                               refine fin2 _ true rfl ?_ _ _ _ _
                               rw [if_pos (by omega), (hz a).2 h_309, (hz b).2 h_319, Bool.and_true]; done)
                            | (rw [htr2, ha] at h_309; rw [htr, hb] at h_319
                               refine fin2 _ false rfl ?_ _ _ _ _
                               rw [if_pos (by omega), (hz b).1 h_319, Bool.and_false]; done)
                            | (rw [htr2, ha] at h_309
                               refine fin2 _ false rfl ?_ _ _ _ _
                               rw [if_pos (by omega), (hz a).1 h_309, Bool.false_and]; done)
                            | (rw [htr2, ha] at h_339; rw [htr, hb] at h_349
                               refine fin2 _ true rfl ?_ _ _ _ _
                               rw [if_neg (by omega), (hz b).2 h_349, Bool.or_true]; done)
                            | (rw [htr2, ha] at h_339; rw [htr, hb] at h_349
                               refine fin2 _ false rfl ?_ _ _ _ _
                               rw [if_neg (by omega), (hz a).1 h_339, (hz b).1 h_349, Bool.or_false]; done)
                            | (rw [htr2, ha] at h_339
                               refine fin2 _ true rfl ?_ _ _ _ _
                               rw [if_neg (by omega), (hz a).2 h_339, Bool.true_or]; done)
                      · refine r_pushI a138_322 ?_
                        refine r_goto a138_323 ?_
                        refine r_bast a138_357 ty125 (by omega) (by omega) ?_
                        match st, htop, hst, hwf2, hl, hev, fin with
                        | [], htop, hst, hwf2, hl, hev, fin => exact absurd (show 2 ≤ 0 from hwf2.1) (by decide)
                        | [a], htop, hst, hwf2, hl, hev, fin => exact absurd (show 2 ≤ 1 from hwf2.1) (by decide)
                        | b :: a :: rs, htop, hst, hwf2, hl, hev, fin =>
                          have htr : top + -1 = (rs.length : Int) + 1 := by rw [List.length_cons, List.length_cons] at htop; push_cast at htop; omega
                          have htr2 : top + -1 - 1 = (rs.length : Int) := by omega
                          have hb : m1 125 ((rs.length : Int) + 1) = bI b := by have := hst.1; rw [List.length_cons] at this; push_cast at this; exact this
                          have ha : m1 125 (rs.length : Int) = bI a := hst.2.1
                          refine r_goto a138_358 ?_
                          have fin2 : ∀ (x : Int) (bb : Bool), x = bI bb → bb = (if t = -2 then a && b else a || b) →
                              ∀ y10 y11 y12 y13, RZ (dd + 1) k_Mo_looks 435 [vR 121, vI k, vI i, vI p, vI r, vI g, vI len, vI base, vI (top + -1), vI j, y10, y11, y12, y13] [] (zH z (up2 m1 125 (top + -1 - 1) x)) (qz z (qv (LkPo m (sumC true v cl) (sumC false v cl)))) := by
                            intro x bb hx hbb y10 y11 y12 y13
                            rw [htr2, htr, hx]
                            refine fin (bb :: rs) _ _ ?_ ⟨?_, ?_⟩ hwf2.2 ?_ (fun x hx => up2_c hx) ?_ _ _ _ _
                            · rw [List.length_cons]; push_cast; rfl
                            · rw [up2_s]
                            · rw [up2_C, upC_s]; exact StkT_up hst.2.2 (by omega)
                            · rw [List.length_cons, List.length_cons] at hl; rw [List.length_cons]; omega
                            · show evB v ts _ = _
                              rw [if_neg (by omega), if_neg (by omega)]
                              show evB v ts ((if t = -2 then _ else _) :: rs) = _
                              rw [hbb]
                          have hz : ∀ q : Bool, (bI q = 0 → q = false) ∧ (bI q ≠ 0 → q = true) := by intro q; cases q <;> decide
                          first
                            | (rw [htr2, ha] at h_309; rw [htr, hb] at h_319
                               refine fin2 _ true rfl ?_ _ _ _ _
                               rw [if_pos (by omega), (hz a).2 h_309, (hz b).2 h_319, Bool.and_true]; done)
                            | (rw [htr2, ha] at h_309; rw [htr, hb] at h_319
                               refine fin2 _ false rfl ?_ _ _ _ _
                               rw [if_pos (by omega), (hz b).1 h_319, Bool.and_false]; done)
                            | (rw [htr2, ha] at h_309
                               refine fin2 _ false rfl ?_ _ _ _ _
                               rw [if_pos (by omega), (hz a).1 h_309, Bool.false_and]; done)
                            | (rw [htr2, ha] at h_339; rw [htr, hb] at h_349
                               refine fin2 _ true rfl ?_ _ _ _ _
                               rw [if_neg (by omega), (hz b).2 h_349, Bool.or_true]; done)
                            | (rw [htr2, ha] at h_339; rw [htr, hb] at h_349
                               refine fin2 _ false rfl ?_ _ _ _ _
                               rw [if_neg (by omega), (hz a).1 h_339, (hz b).1 h_349, Bool.or_false]; done)
                            | (rw [htr2, ha] at h_339
                               refine fin2 _ true rfl ?_ _ _ _ _
                               rw [if_neg (by omega), (hz a).2 h_339, Bool.true_or]; done)
              · refine r_loadA a138_246 rfl (by decide) ?_
                refine r_getR a138_247 ty121 rf121_10 (by decide) ?_
                refine r_loadI a138_250 rfl ?_
                refine r_pushI a138_252 ?_
                refine r_sub a138_253 (by omega) ?_
                refine r_loadA a138_254 rfl (by decide) ?_
                refine r_getR a138_255 ty121 rf121_10 (by decide) ?_
                refine r_loadI a138_258 rfl ?_
                refine r_pushI a138_260 ?_
                refine r_sub a138_261 (by omega) ?_
                have h0 : t = -1 := by omega
                rw [if_neg (by omega), if_pos h0] at hwf2
                have hq : 1 ≤ top := by have := hwf2.1; omega
                refine r_bald a138_262 ty125 (by omega) ?_
                refine r_ifne a138_263 (fun h_263 => ?_) (fun h_263 => ?_)
                · refine r_pushI a138_270 ?_
                  refine r_bast a138_271 ty125 (by omega) (by omega) ?_
                  match st, htop, hst, hwf2, hl, hev, fin with
                  | [], htop, hst, hwf2, hl, hev, fin => exact absurd (show 1 ≤ 0 from hwf2.1) (by decide)
                  | a :: rs, htop, hst, hwf2, hl, hev, fin =>
                    have htr : top - 1 = (rs.length : Int) := by rw [List.length_cons] at htop; push_cast at htop; omega
                    have ha := hst.1
                    rw [htr] at h_263 ⊢
                    refine r_goto a138_272 ?_
                    refine fin ((!a) :: rs) _ top htop ⟨?_, ?_⟩ hwf2.2 hl (fun x hx => up2_c hx) ?_ _ _ _ _
                    · rw [up2_s]
                      rw [ha] at h_263
                      cases a <;> first | rfl | (exfalso; revert h_263; decide)
                    · rw [up2_C, upC_s]; exact StkT_up hst.2 (by omega)
                    · show evB v ts _ = _
                      rw [if_neg (by omega), if_pos h0]
                · refine r_pushI a138_266 ?_
                  refine r_goto a138_267 ?_
                  refine r_bast a138_271 ty125 (by omega) (by omega) ?_
                  match st, htop, hst, hwf2, hl, hev, fin with
                  | [], htop, hst, hwf2, hl, hev, fin => exact absurd (show 1 ≤ 0 from hwf2.1) (by decide)
                  | a :: rs, htop, hst, hwf2, hl, hev, fin =>
                    have htr : top - 1 = (rs.length : Int) := by rw [List.length_cons] at htop; push_cast at htop; omega
                    have ha := hst.1
                    rw [htr] at h_263 ⊢
                    refine r_goto a138_272 ?_
                    refine fin ((!a) :: rs) _ top htop ⟨?_, ?_⟩ hwf2.2 hl (fun x hx => up2_c hx) ?_ _ _ _ _
                    · rw [up2_s]
                      rw [ha] at h_263
                      cases a <;> first | rfl | (exfalso; revert h_263; decide)
                    · rw [up2_C, upC_s]; exact StkT_up hst.2 (by omega)
                    · show evB v ts _ = _
                      rw [if_neg (by omega), if_pos h0]
            · refine r_loadA a138_146 rfl (by decide) ?_
              refine r_getR a138_147 ty121 rf121_9 (by decide) ?_
              refine r_loadI a138_150 rfl ?_
              refine r_pushI a138_152 ?_
              refine r_rem a138_154 (by omega) ?_
              refine r_iald a138_155 ty124 (by omega) ?_
              rw [e124]
              refine r_storeI_11 a138_156 rfl ?_
              refine r_loadI a138_158 rfl ?_
              refine r_pushI a138_160 ?_
              refine r_div a138_162 (by omega) ?_
              refine r_pushI a138_163 ?_
              refine r_rem a138_164 (by omega) ?_
              refine r_storeI_12 a138_165 rfl ?_
              refine r_loadI a138_167 rfl ?_
              refine r_pushI a138_169 ?_
              refine r_div a138_171 (by omega) ?_
              refine r_storeI_13 a138_172 rfl ?_
              refine r_loadA a138_174 rfl (by decide) ?_
              refine r_getR a138_175 ty121 rf121_10 (by decide) ?_
              refine r_loadI a138_178 rfl ?_
              refine r_loadI a138_180 rfl ?_
              refine r_ifne a138_182 (fun h_182 => ?_) (fun h_182 => ?_)
              · refine r_loadI a138_200 rfl ?_
                refine r_pushI a138_202 ?_
                refine r_icne a138_203 (fun h_203 => ?_) (fun h_203 => ?_)
                · refine r_loadI a138_221 rfl ?_
                  refine r_loadI a138_223 rfl ?_
                  refine r_icle a138_225 (fun h_225 => ?_) (fun h_225 => ?_)
                  · refine r_pushI a138_232 ?_
                    refine r_bast a138_233 ty125 (by omega) (by omega) ?_
                    have h0 : 0 ≤ t := by omega
                    have hq : top < 13 := by
                      rw [if_pos h0] at hwf2
                      have := hwf2.1
                      omega
                    refine r_iinc_8 a138_234 rfl (by omega) ?_
                    refine r_goto a138_237 ?_
                    rw [if_pos h0] at hwf2
                    refine fin (v t :: st) _ (top + 1) ?_ ⟨?_, ?_⟩ hwf2.2 ?_ (fun x hx => up2_c hx) ?_ _ _ _ _
                    · rw [List.length_cons]; push_cast; omega
                    · rw [← htop, up2_s, ← tk B hB t hok1 h0]
                      unfold tkH
                      first
                        | (rw [if_pos (by omega), decide_eq_true (by omega)]; rfl)
                        | (rw [if_pos (by omega), decide_eq_false (by omega)]; rfl)
                        | (rw [if_neg (by omega), if_pos (by omega), decide_eq_true (by omega)]; rfl)
                        | (rw [if_neg (by omega), if_pos (by omega), decide_eq_false (by omega)]; rfl)
                        | (rw [if_neg (by omega), if_neg (by omega), decide_eq_true (by omega)]; rfl)
                        | (rw [if_neg (by omega), if_neg (by omega), decide_eq_false (by omega)]; rfl)
                    · rw [up2_C, upC_s]; exact StkT_up hst (by omega)
                    · rw [List.length_cons]; omega
                    · show evB v ts _ = _
                      rw [if_pos h0]
                  · refine r_pushI a138_228 ?_
                    refine r_goto a138_229 ?_
                    refine r_bast a138_233 ty125 (by omega) (by omega) ?_
                    have h0 : 0 ≤ t := by omega
                    have hq : top < 13 := by
                      rw [if_pos h0] at hwf2
                      have := hwf2.1
                      omega
                    refine r_iinc_8 a138_234 rfl (by omega) ?_
                    refine r_goto a138_237 ?_
                    rw [if_pos h0] at hwf2
                    refine fin (v t :: st) _ (top + 1) ?_ ⟨?_, ?_⟩ hwf2.2 ?_ (fun x hx => up2_c hx) ?_ _ _ _ _
                    · rw [List.length_cons]; push_cast; omega
                    · rw [← htop, up2_s, ← tk B hB t hok1 h0]
                      unfold tkH
                      first
                        | (rw [if_pos (by omega), decide_eq_true (by omega)]; rfl)
                        | (rw [if_pos (by omega), decide_eq_false (by omega)]; rfl)
                        | (rw [if_neg (by omega), if_pos (by omega), decide_eq_true (by omega)]; rfl)
                        | (rw [if_neg (by omega), if_pos (by omega), decide_eq_false (by omega)]; rfl)
                        | (rw [if_neg (by omega), if_neg (by omega), decide_eq_true (by omega)]; rfl)
                        | (rw [if_neg (by omega), if_neg (by omega), decide_eq_false (by omega)]; rfl)
                    · rw [up2_C, upC_s]; exact StkT_up hst (by omega)
                    · rw [List.length_cons]; omega
                    · show evB v ts _ = _
                      rw [if_pos h0]
                · refine r_loadI a138_206 rfl ?_
                  refine r_loadI a138_208 rfl ?_
                  refine r_icne a138_210 (fun h_210 => ?_) (fun h_210 => ?_)
                  · refine r_pushI a138_217 ?_
                    refine r_goto a138_218 ?_
                    refine r_bast a138_233 ty125 (by omega) (by omega) ?_
                    have h0 : 0 ≤ t := by omega
                    have hq : top < 13 := by
                      rw [if_pos h0] at hwf2
                      have := hwf2.1
                      omega
                    refine r_iinc_8 a138_234 rfl (by omega) ?_
                    refine r_goto a138_237 ?_
                    rw [if_pos h0] at hwf2
                    refine fin (v t :: st) _ (top + 1) ?_ ⟨?_, ?_⟩ hwf2.2 ?_ (fun x hx => up2_c hx) ?_ _ _ _ _
                    · rw [List.length_cons]; push_cast; omega
                    · rw [← htop, up2_s, ← tk B hB t hok1 h0]
                      unfold tkH
                      first
                        | (rw [if_pos (by omega), decide_eq_true (by omega)]; rfl)
                        | (rw [if_pos (by omega), decide_eq_false (by omega)]; rfl)
                        | (rw [if_neg (by omega), if_pos (by omega), decide_eq_true (by omega)]; rfl)
                        | (rw [if_neg (by omega), if_pos (by omega), decide_eq_false (by omega)]; rfl)
                        | (rw [if_neg (by omega), if_neg (by omega), decide_eq_true (by omega)]; rfl)
                        | (rw [if_neg (by omega), if_neg (by omega), decide_eq_false (by omega)]; rfl)
                    · rw [up2_C, upC_s]; exact StkT_up hst (by omega)
                    · rw [List.length_cons]; omega
                    · show evB v ts _ = _
                      rw [if_pos h0]
                  · refine r_pushI a138_213 ?_
                    refine r_goto a138_214 ?_
                    refine r_bast a138_233 ty125 (by omega) (by omega) ?_
                    have h0 : 0 ≤ t := by omega
                    have hq : top < 13 := by
                      rw [if_pos h0] at hwf2
                      have := hwf2.1
                      omega
                    refine r_iinc_8 a138_234 rfl (by omega) ?_
                    refine r_goto a138_237 ?_
                    rw [if_pos h0] at hwf2
                    refine fin (v t :: st) _ (top + 1) ?_ ⟨?_, ?_⟩ hwf2.2 ?_ (fun x hx => up2_c hx) ?_ _ _ _ _
                    · rw [List.length_cons]; push_cast; omega
                    · rw [← htop, up2_s, ← tk B hB t hok1 h0]
                      unfold tkH
                      first
                        | (rw [if_pos (by omega), decide_eq_true (by omega)]; rfl)
                        | (rw [if_pos (by omega), decide_eq_false (by omega)]; rfl)
                        | (rw [if_neg (by omega), if_pos (by omega), decide_eq_true (by omega)]; rfl)
                        | (rw [if_neg (by omega), if_pos (by omega), decide_eq_false (by omega)]; rfl)
                        | (rw [if_neg (by omega), if_neg (by omega), decide_eq_true (by omega)]; rfl)
                        | (rw [if_neg (by omega), if_neg (by omega), decide_eq_false (by omega)]; rfl)
                    · rw [up2_C, upC_s]; exact StkT_up hst (by omega)
                    · rw [List.length_cons]; omega
                    · show evB v ts _ = _
                      rw [if_pos h0]
              · refine r_loadI a138_185 rfl ?_
                refine r_loadI a138_187 rfl ?_
                refine r_icge a138_189 (fun h_189 => ?_) (fun h_189 => ?_)
                · refine r_pushI a138_196 ?_
                  refine r_goto a138_197 ?_
                  refine r_bast a138_233 ty125 (by omega) (by omega) ?_
                  have h0 : 0 ≤ t := by omega
                  have hq : top < 13 := by
                    rw [if_pos h0] at hwf2
                    have := hwf2.1
                    omega
                  refine r_iinc_8 a138_234 rfl (by omega) ?_
                  refine r_goto a138_237 ?_
                  rw [if_pos h0] at hwf2
                  refine fin (v t :: st) _ (top + 1) ?_ ⟨?_, ?_⟩ hwf2.2 ?_ (fun x hx => up2_c hx) ?_ _ _ _ _
                  · rw [List.length_cons]; push_cast; omega
                  · rw [← htop, up2_s, ← tk B hB t hok1 h0]
                    unfold tkH
                    first
                      | (rw [if_pos (by omega), decide_eq_true (by omega)]; rfl)
                      | (rw [if_pos (by omega), decide_eq_false (by omega)]; rfl)
                      | (rw [if_neg (by omega), if_pos (by omega), decide_eq_true (by omega)]; rfl)
                      | (rw [if_neg (by omega), if_pos (by omega), decide_eq_false (by omega)]; rfl)
                      | (rw [if_neg (by omega), if_neg (by omega), decide_eq_true (by omega)]; rfl)
                      | (rw [if_neg (by omega), if_neg (by omega), decide_eq_false (by omega)]; rfl)
                  · rw [up2_C, upC_s]; exact StkT_up hst (by omega)
                  · rw [List.length_cons]; omega
                  · show evB v ts _ = _
                    rw [if_pos h0]
                · refine r_pushI a138_192 ?_
                  refine r_goto a138_193 ?_
                  refine r_bast a138_233 ty125 (by omega) (by omega) ?_
                  have h0 : 0 ≤ t := by omega
                  have hq : top < 13 := by
                    rw [if_pos h0] at hwf2
                    have := hwf2.1
                    omega
                  refine r_iinc_8 a138_234 rfl (by omega) ?_
                  refine r_goto a138_237 ?_
                  rw [if_pos h0] at hwf2
                  refine fin (v t :: st) _ (top + 1) ?_ ⟨?_, ?_⟩ hwf2.2 ?_ (fun x hx => up2_c hx) ?_ _ _ _ _
                  · rw [List.length_cons]; push_cast; omega
                  · rw [← htop, up2_s, ← tk B hB t hok1 h0]
                    unfold tkH
                    first
                      | (rw [if_pos (by omega), decide_eq_true (by omega)]; rfl)
                      | (rw [if_pos (by omega), decide_eq_false (by omega)]; rfl)
                      | (rw [if_neg (by omega), if_pos (by omega), decide_eq_true (by omega)]; rfl)
                      | (rw [if_neg (by omega), if_pos (by omega), decide_eq_false (by omega)]; rfl)
                      | (rw [if_neg (by omega), if_neg (by omega), decide_eq_true (by omega)]; rfl)
                      | (rw [if_neg (by omega), if_neg (by omega), decide_eq_false (by omega)]; rfl)
                  · rw [up2_C, upC_s]; exact StkT_up hst (by omega)
                  · rw [List.length_cons]; omega
                  · show evB v ts _ = _
                    rw [if_pos h0]
      exact inner c.2.2 [] m1 j 0 _ _ _ _ hc2 trivial rfl (by decide) hj hsg hlen rfl fr e124 e121
  have tail : ∀ (m1 : XM) (y7 y8 y9 y10 y11 y12 y13 : XV), (∀ x, x ≠ 121 → x ≠ 124 → x ≠ 125 → m1 x = m x) → (∀ y, y ≠ 11 → y ≠ 12 → m1 121 y = m 121 y) → m1 121 11 = 0 → m1 121 12 = 0 →
      (∀ w, 0 ≤ w → w < 6 → m1 124 w = fcP (fcts s k r g) p.toNat w) →
      RZ (dd + 1) k_Mo_looks 88 [vR 121, vI k, vI i, vI p, vI r, vI g, vR 0, y7, y8, y9, y10, y11, y12, y13] [] (zH z m1) (qz z (qv (LkPo m (sumC true v cl) (sumC false v cl)))) := by
    intro m1 y7 y8 y9 y10 y11 y12 y13 fr f121 e11 e12 hB
    have e122 : m1 122 = s := by rw [fr 122 (by decide) (by decide) (by decide)]; exact hm
    have sr1 := hsr true
    have sr2 := hsr false
    refine r_loadA a138_88 rfl (by decide) ?_
    refine r_pushI a138_89 ?_
    refine r_pushI a138_92 ?_
    refine r_callI_3 a138_93 (Nat.le_of_ble_eq_true rfl) (le_mx mx137 (Nat.le_of_ble_eq_true rfl)) (Or.inr (recv_ok ty121 ow137 (by decide))) (c_Mo_tellsOf dd z m1 209 0 (by rw [e122]; exact hS) (by omega)) (fun x_93 m_93 h_93 => ?_)
    obtain ⟨hm_93, h_93⟩ := h_93
    rw [hm_93]
    rw [e122] at h_93
    refine r_storeI_6 a138_96 rfl ?_
    refine r_pushI a138_98 ?_
    refine r_pushI a138_101 ?_
    refine r_loadA a138_104 rfl (by decide) ?_
    refine r_getR a138_105 ty121 rf121_1 (by decide) ?_
    refine r_pushI a138_108 ?_
    refine r_iald a138_110 ty122 (by omega) ?_
    rw [e122]
    refine r_mul a138_111 (by omega) ?_
    refine r_add a138_112 (by omega) ?_
    refine r_storeI_7 a138_113 rfl ?_
    refine r_pushI a138_115 ?_
    refine r_storeI_8 a138_116 rfl ?_
    refine r_loadI a138_118 rfl ?_
    refine r_storeI_9 a138_120 rfl ?_
    have hh : 0 ≤ s 6 → 0 ≤ s (209 + s 6) ∧ s (209 + s 6) ≤ 140 := fun q => (hS.2.2.2.2.2.2.2 (s 6) q (by omega)).2.2
    refine main cl m1 (m1 124) (m1 121) x_93 (214 + 140 * s 6) _ _ _ _ _ hC2 hB (by omega) ?_ (by omega) ?_ ?_ fr rfl rfl f121 (by rw [e11]; omega) (by rw [e12]; omega) (by rw [e11]; omega) (by rw [e12]; omega)
    · omega
    · rcases hC1 with ⟨c1, c2⟩ | ⟨c1, c2, c3⟩
      · rw [c2]; trivial
      · exact c3
    · rcases hC1 with ⟨c1, c2⟩ | ⟨c1, c2, c3⟩
      · rw [c2]; show _ + (0 : Int) = _; omega
      · omega
  refine r_entry mx138 rfl ?_
  refine r_loadA a138_0 rfl (by decide) ?_
  refine r_getR a138_1 ty121 rf121_13 (by decide) ?_
  refine r_loadI a138_4 rfl ?_
  refine r_iald a138_5 ty126 (by omega) ?_
  rw [hst]
  refine r_storeI_5 a138_6 rfl ?_
  refine r_loadA a138_8 rfl (by decide) ?_
  refine r_getR a138_9 ty121 rf121_9 (by decide) ?_
  refine r_pushI a138_12 ?_
  refine r_loadI a138_13 rfl ?_
  refine r_iast a138_15 ty124 (by omega) ?_
  refine r_loadA a138_16 rfl (by decide) ?_
  refine r_getR a138_17 ty121 rf121_9 (by decide) ?_
  refine r_pushI a138_20 ?_
  refine r_loadA a138_21 rfl (by decide) ?_
  refine r_getR a138_22 ty121 rf121_1 (by decide) ?_
  refine r_pushI a138_25 ?_
  refine r_loadI a138_27 rfl ?_
  refine r_add a138_29 (by omega) ?_
  refine r_iald a138_30 ty122 (by omega) ?_
  rw [up2_c (by decide), hm]
  refine r_iast a138_31 ty124 (by omega) ?_
  refine r_loadA a138_32 rfl (by decide) ?_
  refine r_getR a138_33 ty121 rf121_9 (by decide) ?_
  refine r_pushI a138_36 ?_
  refine r_loadA a138_37 rfl (by decide) ?_
  refine r_getR a138_38 ty121 rf121_1 (by decide) ?_
  refine r_pushI a138_41 ?_
  refine r_loadI a138_43 rfl ?_
  refine r_add a138_45 (by omega) ?_
  refine r_iald a138_46 ty122 (by omega) ?_
  rw [up2_c (by decide), up2_c (by decide), hm]
  refine r_iast a138_47 ty124 (by omega) ?_
  refine r_loadA a138_48 rfl (by decide) ?_
  refine r_getR a138_49 ty121 rf121_9 (by decide) ?_
  refine r_pushI a138_52 ?_
  refine r_loadI a138_53 rfl ?_
  refine r_iast a138_54 ty124 (by omega) ?_
  refine r_loadA a138_55 rfl (by decide) ?_
  refine r_getR a138_56 ty121 rf121_9 (by decide) ?_
  refine r_pushI a138_59 ?_
  refine r_loadI a138_60 rfl ?_
  refine r_iast a138_62 ty124 (by omega) ?_
  refine r_loadA a138_63 rfl (by decide) ?_
  refine r_getR a138_64 ty121 rf121_9 (by decide) ?_
  refine r_pushI a138_67 ?_
  refine r_loadA a138_68 rfl (by decide) ?_
  refine r_getR a138_69 ty121 rf121_1 (by decide) ?_
  refine r_pushI a138_72 ?_
  refine r_loadI a138_74 rfl ?_
  refine r_add a138_75 (by omega) ?_
  refine r_iald a138_76 ty122 (by omega) ?_
  rw [up2_c (by decide), up2_c (by decide), up2_c (by decide), up2_c (by decide), up2_c (by decide), hm]
  refine r_iast a138_77 ty124 (by omega) ?_
  refine r_loadA a138_78 rfl (by decide) ?_
  refine r_pushI a138_79 ?_
  refine r_putI (ki := 11) a138_80 ty121 rfl ?_
  refine r_loadA a138_83 rfl (by decide) ?_
  refine r_pushI a138_84 ?_
  refine r_putI (ki := 12) a138_85 ty121 rfl ?_
  refine tail _ _ _ _ _ _ _ _ (fun x x1 x2 x3 => ?_) (fun y y1 y2 => ?_) ?_ ?_ (fun w w1 w2 => ?_)
  · rw [up2_c x1, up2_c x1, up2_c x2, up2_c x2, up2_c x2, up2_c x2, up2_c x2, up2_c x2]
  · rw [up2_k y2, up2_k y1, up2_c (by decide), up2_c (by decide), up2_c (by decide), up2_c (by decide), up2_c (by decide), up2_c (by decide)]
  · rw [up2_k (by decide), up2_s]
  · rw [up2_s]
  · rw [up2_c (by decide), up2_c (by decide)]
    have hp2 : ((p.toNat : Nat) : Int) = p := by omega
    have hr2 : r % 10 = r := by omega
    have : w = 0 ∨ w = 1 ∨ w = 2 ∨ w = 3 ∨ w = 4 ∨ w = 5 := by omega
    rcases this with q | q | q | q | q | q <;> subst q
    · rw [up2_k (by decide), up2_k (by decide), up2_k (by decide), up2_k (by decide), up2_k (by decide), up2_s]; rfl
    · rw [up2_k (by decide), up2_k (by decide), up2_k (by decide), up2_k (by decide), up2_s]; rfl
    · rw [up2_k (by decide), up2_k (by decide), up2_k (by decide), up2_s]; rfl
    · rw [up2_k (by decide), up2_k (by decide), up2_s]; exact hp2.symm
    · rw [up2_k (by decide), up2_s]; exact hr2.symm
    · rw [up2_s]; rfl
