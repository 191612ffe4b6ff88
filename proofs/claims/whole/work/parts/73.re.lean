-- ===== the class reads a slope =====
theorem zRF_42 (z : Nat) : upr (zRF z) 77 3 42 = zRF 42 := by
  funext o k
  unfold upr zRF
  by_cases h : o = 77
  · subst h
    rw [if_pos rfl, if_pos rfl]
    by_cases h2 : k = 3
    · rw [if_pos h2, if_pos rfl, if_pos h2]
    · rw [if_neg h2, if_pos rfl, if_neg h2, if_neg h2]
  · rw [if_neg h, if_neg h, if_neg h]
theorem r_putRs {d M pc nx c z : Nat} {w : Int} {ls st : List XV} {m : XM} {Q : Option XV → XH → Prop} (h : zA M pc = (53, nx, c, 3, w, [])) (ht : zTY 77 = (1, c)) (kk : RZ d M nx ls st (zH 42 m) Q) : RZ d M pc ls (vR 42 :: vR 77 :: st) (zH z m) Q :=
  RZ.step h (fun C k => by
    have e : setR (zH z m) (upr (zRF z) 77 3 42) = zH 42 m := by
      show (109, 6738, zTY, upr (zRF z) 77 3 42, m) = (109, 6738, zTY, zRF 42, m)
      rw [zRF_42]
    have e2 : k nx ls st (setR (zH z m) (upr (zRF z) 77 3 42)) = k nx ls st (zH 42 m) := by rw [e]
    exact (if_pos (show (zH z m).2.2.1 77 = (1, c) ∧ 32 ≤ 42 from ⟨ht, by decide⟩)).trans e2) kk
theorem r_callI_2z {d M pc nx z z2 : Nat} {v : Int} {ls st : List XV} {m : XM} {Q : Option XV → XH → Prop} {y : Nat} {b1 b2 : XV} {P : Int → XM → Prop} (h : zA M pc = (65, nx, y, 2, v, [])) (hcat : catSum st ≤ 8) (hfl : (flat [b1, b2]).length ≤ zMaxAt y) (hrv : v = 0 ∨ recvOK (zH z m) (zOwAt y) [b1, b2] = true) (hc : RZ d y 0 (entryL y [b1, b2]) [] (zH z m) (qz z2 (qi P))) (k : ∀ x m', P x m' → RZ (d + 1) M nx ls (vI x :: st) (zH z2 m') Q) : RZ (d + 1) M pc ls (b2 :: b1 :: st) (zH z m) Q :=
  r_callH h (as := [b1, b2]) (rest := st) rfl rfl hcat hfl hrv hc (fun r H' hq => by
    obtain ⟨m', rfl, x, rfl, hp⟩ := hq
    exact k x m' hp)
def RdK (m m' : XM) : Prop := (∀ x, ¬ (77 ≤ x ∧ x ≤ 82) → m' x = m x) ∧ (∀ y, y ≠ 1 → m' 77 y = m 77 y)
theorem RdK.refl (m : XM) : RdK m m := ⟨fun _ _ => rfl, fun _ _ => rfl⟩
theorem RdK.trans {a b c : XM} (h1 : RdK a b) (h2 : RdK b c) : RdK a c := ⟨fun x hx => (h2.1 x hx).trans (h1.1 x hx), fun y hy => (h2.2 y hy).trans (h1.2 y hy)⟩
theorem RdF_K {m m' : XM} (h : RdF m m') : RdK m m' := ⟨fun x hx => h.1 x (by omega) (by omega) (by omega), h.2.1⟩
theorem RdK_S {m m' : XM} {E : Int} (h : RdK m m') (hI : RdS m E) (hp : 0 ≤ m' 77 1 ∧ m' 77 1 ≤ E) : RdS m' E :=
  ⟨by rw [h.2 2 (by decide)]; exact hI.1, hI.2.1, hp, by rw [h.1 42 (by decide)]; exact hI.2.2.2⟩
/-- what is made so far -/
def MdR (m : XM) (r fo : Int) (cl : CLs) : Prop := m 78 0 = r ∧ m 78 1 = fo ∧ ClR m 78 0 0 cl (m 78 2) (m 78 3)
theorem ClR_keep {m m' : XM} {b : Nat} : ∀ {cs : CLs} {i e i' e' : Int}, ClR m b i e cs i' e' → (∀ j, j < i' → m' (b + 1) j = m (b + 1) j ∧ m' (b + 2) j = m (b + 2) j ∧ m' (b + 3) j = m (b + 3) j) → (∀ j, j < e' → m' (b + 4) j = m (b + 4) j) → ClR m' b i e cs i' e' := by
  intro cs
  induction cs with
  | nil => intro i e i' e' h _ _; exact h
  | cons c cs ih =>
    intro i e i' e' ⟨a1, a2, a3, a4, h⟩ hi hc
    have hl := ClR_len h
    obtain ⟨k1, k2, k3⟩ := hi i (by omega)
    exact ⟨by rw [k1]; exact a1, by rw [k2]; exact a2, by rw [k3]; exact a3, Seg_le a4 (fun j _ y => hc j (by rw [List.length_map] at y; omega)), ih h hi hc⟩
theorem ClR_snoc {m : XM} {b : Nat} {w : Bool} {v : Int} {t : List Int} : ∀ {cs : CLs} {i e i' e' : Int}, ClR m b i e cs i' e' → m (b + 1) i' = (if w then 1 else 0) → m (b + 2) i' = v → m (b + 3) i' = e' + t.length → Seg (m (b + 4)) e' (t.map cTok) → ClR m b i e (cs ++ [(w, v, t)]) (i' + 1) (e' + t.length) := by
  intro cs
  induction cs with
  | nil =>
    intro i e i' e' ⟨h1, h2⟩ k1 k2 k3 k4
    subst h1; subst h2
    exact ⟨k1, k2, k3, k4, rfl, rfl⟩
  | cons c cs ih =>
    intro i e i' e' ⟨a1, a2, a3, a4, h⟩ k1 k2 k3 k4
    exact ⟨a1, a2, a3, a4, ih h k1 k2 k3 k4⟩
/-- a clause is read -/
def RdC (m m' : XM) (x : Int) (R : CRes) : Prop := RdK m m' ∧ m' 77 1 = R.1 ∧ ((∃ r' fo' cl', R.2 = some (r', fo', cl') ∧ x = 1 ∧ MdR m' r' fo' cl' ∧ 0 ≤ m' 78 3 ∧ m' 78 3 ≤ R.1) ∨ (R.2 = none ∧ x = 0))
theorem c_Re_readSetting (d : Nat) (m : XM) (E r fo : Int) (cl : CLs) (hd : 7 ≤ d) (hI : RdIn m E) (hM : MdR m r fo cl) : CI d k_Re_readSetting 42 m [vR 77] (fun x m' => RdC m m' x (if atM m E (m 77 1) = 114 then pSet (m 42) E true wRut (m 77 1) r fo cl else pSet (m 42) E false wFog (m 77 1) r fo cl)) := by
  obtain ⟨e, rfl⟩ : ∃ e, d = e + 1 := ⟨d - 1, by omega⟩
  have hS := hI.1
  obtain ⟨f, hf⟩ : ∃ f, m 42 = f := ⟨_, rfl⟩
  obtain ⟨p, hp⟩ : ∃ p, m 77 1 = p := ⟨_, rfl⟩
  have hpb := hS.2.2.1
  rw [hp] at hpb
  have wr1 := pWord_r (f := f) (E := E) wRut (by decide) p hpb.1 hpb.2
  have wf1 := pWord_r (f := f) (E := E) wFog (by decide) p hpb.1 hpb.2
  have hat : atM m E (m 77 1) = atP f E p := by show atP (m 42) E (m 77 1) = _; rw [hf, hp]
  have hz : ∀ q : Bool, (bI q = 0 → q = false) ∧ (bI q ≠ 0 → q = true) := by intro q; cases q <;> decide
  obtain ⟨R, hR⟩ : ∃ R, (if atM m E (m 77 1) = 114 then pSet (m 42) E true wRut (m 77 1) r fo cl else pSet (m 42) E false wFog (m 77 1) r fo cl) = R := ⟨_, rfl⟩
  rw [hR]
  rw [hat, hf, hp] at hR
  -- behind the word
  have go : ∀ (w : Bool) (q : Int) (m1 : XM), m1 = up2 m 77 1 q → p ≤ q → q ≤ E → (match pNum f E q with | none => (q, none) | some (v, q2) => (q2, some (if w then (v, fo, cl) else (r, v, cl)))) = R →
      ∀ y2, RZ (e + 1) k_Re_readSetting 27 [vR 77, vI (bI w), y2] [] (zH 42 m1) (qz 42 (qi fun x m' => RdC m m' x R)) := by
    intro w q m1 hm1 hq1 hq2 hh y2
    have hS1 : RdS m1 E := by rw [hm1]; exact RdS_up hS ⟨by omega, hq2⟩
    have t28 := c_Re_readNumber e m1 E (by omega) hS1
    have e421 : m1 42 = f := by rw [hm1, up2_c (by decide)]; exact hf
    have ep1 : m1 77 1 = q := by rw [hm1, up2_s]
    rw [e421, ep1] at t28
    have kk : ∀ (k : Int) (v : Int) (m2 : XM), RdK m m2 → RdK m (up2 m2 78 k v) := fun k v m2 h => ⟨fun x hx => by rw [up2_c (by omega)]; exact h.1 x hx, fun y hy => by rw [up2_c (by decide)]; exact h.2 y hy⟩
    have kp : ∀ q, RdK m (up2 m 77 1 q) := fun q => RdF_K (RdF_p m q)
    refine r_loadA a46_27 rfl (by decide) ?_
    refine r_callI_1 a46_28 (Nat.le_of_ble_eq_true rfl) (le_mx mx52 (Nat.le_of_ble_eq_true rfl)) (Or.inr (recv_ok ty77 ow52 (by decide))) (t28) (fun x_28 m_28 h_28 => ?_)
    have ok : (∃ v q2, pNum f E q = some (v, q2) ∧ x_28 = v ∧ m_28 = up2 m 77 1 q2) ∨ (pNum f E q = none ∧ x_28 = -1 ∧ m_28 = up2 m 77 1 q) := by
      rcases h_28 with ⟨v, q2, a, b, c⟩ | ⟨a, b, c⟩
      · exact Or.inl ⟨v, q2, a, b, by rw [c, hm1, up2_up2]⟩
      · exact Or.inr ⟨a, b, by rw [c, hm1]⟩
    refine r_storeI_2 a46_31 rfl ?_
    refine r_loadI a46_32 rfl ?_
    refine r_ifeq a46_33 (fun h_33 => ?_) (fun h_33 => ?_)
    · refine r_loadA a46_47 rfl (by decide) ?_
      refine r_getR a46_48 ty77 rf77_0 (by decide) ?_
      refine r_loadI a46_51 rfl ?_
      refine r_putI (ki := 1) a46_52 ty78 rfl ?_
      refine r_loadI a46_55 rfl ?_
      refine r_iflt a46_56 (fun h_56 => ?_) (fun h_56 => ?_)
      · refine r_pushI a46_63 ?_
        refine r_retZq a46_64 (by omega) ?_
        rcases ok with ⟨v, q2, a, b, c⟩ | ⟨a, b, c⟩
        · have hv := pNum_r a
          first
            | (exfalso; omega)
            | (rw [a] at hh
               rw [← hh, b, c]
               have hc0 := hI.2.1
               have hc1 := hI.2.2
               rw [hp] at hc1
               obtain ⟨g1, g2, g3⟩ := hM
               first
                 | (have hw : w = true := (hz w).2 (by assumption)
                    rw [hw]
                    refine ⟨kk 0 v _ (kp q2), by rw [up2_c (by decide), up2_s], Or.inl ⟨v, fo, cl, rfl, rfl, ⟨up2_s _ _ _ _, by rw [up2_k (by decide), up2_c (by decide)]; exact g2, ?_⟩, ?_, ?_⟩⟩
                    · rw [up2_k (by decide), up2_k (by decide), up2_c (by decide)]
                      exact ClR_keep g3 (fun j _ => ⟨by rw [up2_c (by decide), up2_c (by decide)], by rw [up2_c (by decide), up2_c (by decide)], by rw [up2_c (by decide), up2_c (by decide)]⟩) (fun j _ => by rw [up2_c (by decide), up2_c (by decide)])
                    · rw [up2_k (by decide), up2_c (by decide)]; exact hc0
                    · rw [up2_k (by decide), up2_c (by decide)]; show _ ≤ q2; omega)
                 | (have hw : w = false := (hz w).1 (by assumption)
                    rw [hw]
                    refine ⟨kk 1 v _ (kp q2), by rw [up2_c (by decide), up2_s], Or.inl ⟨r, v, cl, rfl, rfl, ⟨by rw [up2_k (by decide), up2_c (by decide)]; exact g1, up2_s _ _ _ _, ?_⟩, ?_, ?_⟩⟩
                    · rw [up2_k (by decide), up2_k (by decide), up2_c (by decide)]
                      exact ClR_keep g3 (fun j _ => ⟨by rw [up2_c (by decide), up2_c (by decide)], by rw [up2_c (by decide), up2_c (by decide)], by rw [up2_c (by decide), up2_c (by decide)]⟩) (fun j _ => by rw [up2_c (by decide), up2_c (by decide)])
                    · rw [up2_k (by decide), up2_c (by decide)]; exact hc0
                    · rw [up2_k (by decide), up2_c (by decide)]; show _ ≤ q2; omega))
        · first
            | (exfalso; omega)
            | (rw [a] at hh
               rw [← hh, c]
               exact ⟨kk _ _ _ (kp q), by rw [up2_c (by decide), up2_s], Or.inr ⟨rfl, rfl⟩⟩)
      · refine r_pushI a46_59 ?_
        refine r_goto a46_60 ?_
        refine r_retZq a46_64 (by omega) ?_
        rcases ok with ⟨v, q2, a, b, c⟩ | ⟨a, b, c⟩
        · have hv := pNum_r a
          first
            | (exfalso; omega)
            | (rw [a] at hh
               rw [← hh, b, c]
               have hc0 := hI.2.1
               have hc1 := hI.2.2
               rw [hp] at hc1
               obtain ⟨g1, g2, g3⟩ := hM
               first
                 | (have hw : w = true := (hz w).2 (by assumption)
                    rw [hw]
                    refine ⟨kk 0 v _ (kp q2), by rw [up2_c (by decide), up2_s], Or.inl ⟨v, fo, cl, rfl, rfl, ⟨up2_s _ _ _ _, by rw [up2_k (by decide), up2_c (by decide)]; exact g2, ?_⟩, ?_, ?_⟩⟩
                    · rw [up2_k (by decide), up2_k (by decide), up2_c (by decide)]
                      exact ClR_keep g3 (fun j _ => ⟨by rw [up2_c (by decide), up2_c (by decide)], by rw [up2_c (by decide), up2_c (by decide)], by rw [up2_c (by decide), up2_c (by decide)]⟩) (fun j _ => by rw [up2_c (by decide), up2_c (by decide)])
                    · rw [up2_k (by decide), up2_c (by decide)]; exact hc0
                    · rw [up2_k (by decide), up2_c (by decide)]; show _ ≤ q2; omega)
                 | (have hw : w = false := (hz w).1 (by assumption)
                    rw [hw]
                    refine ⟨kk 1 v _ (kp q2), by rw [up2_c (by decide), up2_s], Or.inl ⟨r, v, cl, rfl, rfl, ⟨by rw [up2_k (by decide), up2_c (by decide)]; exact g1, up2_s _ _ _ _, ?_⟩, ?_, ?_⟩⟩
                    · rw [up2_k (by decide), up2_k (by decide), up2_c (by decide)]
                      exact ClR_keep g3 (fun j _ => ⟨by rw [up2_c (by decide), up2_c (by decide)], by rw [up2_c (by decide), up2_c (by decide)], by rw [up2_c (by decide), up2_c (by decide)]⟩) (fun j _ => by rw [up2_c (by decide), up2_c (by decide)])
                    · rw [up2_k (by decide), up2_c (by decide)]; exact hc0
                    · rw [up2_k (by decide), up2_c (by decide)]; show _ ≤ q2; omega))
        · first
            | (exfalso; omega)
            | (rw [a] at hh
               rw [← hh, c]
               exact ⟨kk _ _ _ (kp q), by rw [up2_c (by decide), up2_s], Or.inr ⟨rfl, rfl⟩⟩)
    · refine r_loadA a46_36 rfl (by decide) ?_
      refine r_getR a46_37 ty77 rf77_0 (by decide) ?_
      refine r_loadI a46_40 rfl ?_
      refine r_putI (ki := 0) a46_41 ty78 rfl ?_
      refine r_goto a46_44 ?_
      refine r_loadI a46_55 rfl ?_
      refine r_iflt a46_56 (fun h_56 => ?_) (fun h_56 => ?_)
      · refine r_pushI a46_63 ?_
        refine r_retZq a46_64 (by omega) ?_
        rcases ok with ⟨v, q2, a, b, c⟩ | ⟨a, b, c⟩
        · have hv := pNum_r a
          first
            | (exfalso; omega)
            | (rw [a] at hh
               rw [← hh, b, c]
               have hc0 := hI.2.1
               have hc1 := hI.2.2
               rw [hp] at hc1
               obtain ⟨g1, g2, g3⟩ := hM
               first
                 | (have hw : w = true := (hz w).2 (by assumption)
                    rw [hw]
                    refine ⟨kk 0 v _ (kp q2), by rw [up2_c (by decide), up2_s], Or.inl ⟨v, fo, cl, rfl, rfl, ⟨up2_s _ _ _ _, by rw [up2_k (by decide), up2_c (by decide)]; exact g2, ?_⟩, ?_, ?_⟩⟩
                    · rw [up2_k (by decide), up2_k (by decide), up2_c (by decide)]
                      exact ClR_keep g3 (fun j _ => ⟨by rw [up2_c (by decide), up2_c (by decide)], by rw [up2_c (by decide), up2_c (by decide)], by rw [up2_c (by decide), up2_c (by decide)]⟩) (fun j _ => by rw [up2_c (by decide), up2_c (by decide)])
                    · rw [up2_k (by decide), up2_c (by decide)]; exact hc0
                    · rw [up2_k (by decide), up2_c (by decide)]; show _ ≤ q2; omega)
                 | (have hw : w = false := (hz w).1 (by assumption)
                    rw [hw]
                    refine ⟨kk 1 v _ (kp q2), by rw [up2_c (by decide), up2_s], Or.inl ⟨r, v, cl, rfl, rfl, ⟨by rw [up2_k (by decide), up2_c (by decide)]; exact g1, up2_s _ _ _ _, ?_⟩, ?_, ?_⟩⟩
                    · rw [up2_k (by decide), up2_k (by decide), up2_c (by decide)]
                      exact ClR_keep g3 (fun j _ => ⟨by rw [up2_c (by decide), up2_c (by decide)], by rw [up2_c (by decide), up2_c (by decide)], by rw [up2_c (by decide), up2_c (by decide)]⟩) (fun j _ => by rw [up2_c (by decide), up2_c (by decide)])
                    · rw [up2_k (by decide), up2_c (by decide)]; exact hc0
                    · rw [up2_k (by decide), up2_c (by decide)]; show _ ≤ q2; omega))
        · first
            | (exfalso; omega)
            | (rw [a] at hh
               rw [← hh, c]
               exact ⟨kk _ _ _ (kp q), by rw [up2_c (by decide), up2_s], Or.inr ⟨rfl, rfl⟩⟩)
      · refine r_pushI a46_59 ?_
        refine r_goto a46_60 ?_
        refine r_retZq a46_64 (by omega) ?_
        rcases ok with ⟨v, q2, a, b, c⟩ | ⟨a, b, c⟩
        · have hv := pNum_r a
          first
            | (exfalso; omega)
            | (rw [a] at hh
               rw [← hh, b, c]
               have hc0 := hI.2.1
               have hc1 := hI.2.2
               rw [hp] at hc1
               obtain ⟨g1, g2, g3⟩ := hM
               first
                 | (have hw : w = true := (hz w).2 (by assumption)
                    rw [hw]
                    refine ⟨kk 0 v _ (kp q2), by rw [up2_c (by decide), up2_s], Or.inl ⟨v, fo, cl, rfl, rfl, ⟨up2_s _ _ _ _, by rw [up2_k (by decide), up2_c (by decide)]; exact g2, ?_⟩, ?_, ?_⟩⟩
                    · rw [up2_k (by decide), up2_k (by decide), up2_c (by decide)]
                      exact ClR_keep g3 (fun j _ => ⟨by rw [up2_c (by decide), up2_c (by decide)], by rw [up2_c (by decide), up2_c (by decide)], by rw [up2_c (by decide), up2_c (by decide)]⟩) (fun j _ => by rw [up2_c (by decide), up2_c (by decide)])
                    · rw [up2_k (by decide), up2_c (by decide)]; exact hc0
                    · rw [up2_k (by decide), up2_c (by decide)]; show _ ≤ q2; omega)
                 | (have hw : w = false := (hz w).1 (by assumption)
                    rw [hw]
                    refine ⟨kk 1 v _ (kp q2), by rw [up2_c (by decide), up2_s], Or.inl ⟨r, v, cl, rfl, rfl, ⟨by rw [up2_k (by decide), up2_c (by decide)]; exact g1, up2_s _ _ _ _, ?_⟩, ?_, ?_⟩⟩
                    · rw [up2_k (by decide), up2_k (by decide), up2_c (by decide)]
                      exact ClR_keep g3 (fun j _ => ⟨by rw [up2_c (by decide), up2_c (by decide)], by rw [up2_c (by decide), up2_c (by decide)], by rw [up2_c (by decide), up2_c (by decide)]⟩) (fun j _ => by rw [up2_c (by decide), up2_c (by decide)])
                    · rw [up2_k (by decide), up2_c (by decide)]; exact hc0
                    · rw [up2_k (by decide), up2_c (by decide)]; show _ ≤ q2; omega))
        · first
            | (exfalso; omega)
            | (rw [a] at hh
               rw [← hh, c]
               exact ⟨kk _ _ _ (kp q), by rw [up2_c (by decide), up2_s], Or.inr ⟨rfl, rfl⟩⟩)
  have word : ∀ (w : Bool) (o : Nat) (L : List Int), (w = true ∧ o = 6 ∧ L = wRut) ∨ (w = false ∧ o = 7 ∧ L = wFog) → pSet f E w L p r fo cl = R → ∀ y2, RZ (e + 1) k_Re_readSetting 19 [vR 77, vI (bI w), y2] [vR o, vR 77] (zH 42 m) (qz 42 (qi fun x m' => RdC m m' x R)) := by
    intro w o L hw hh y2
    have hL : ∀ c ∈ L, c ≠ -1 := by rcases hw with ⟨_, _, q⟩ | ⟨_, _, q⟩ <;> rw [q] <;> decide
    have wl := pWord_r (f := f) (E := E) L hL p hpb.1 hpb.2
    have t19 : CI e k_Re_takeWord 42 m [vR 77, vR o] (fun x m' => x = bI (pWord f E L p).2 ∧ m' = up2 m 77 1 (pWord f E L p).1) := by
      rcases hw with ⟨_, q1, q2⟩ | ⟨_, q1, q2⟩ <;> subst q1 <;> subst q2
      · have := c_Re_takeWord_6 e m E (by omega) hS
        rw [hf, hp] at this; exact this
      · have := c_Re_takeWord_7 e m E (by omega) hS
        rw [hf, hp] at this; exact this
    unfold pSet at hh
    refine r_callI_2 a46_19 (Nat.le_of_ble_eq_true rfl) (le_mx mx55 (Nat.le_of_ble_eq_true rfl)) (Or.inr (recv_ok ty77 ow55 (by decide))) (t19) (fun x_19 m_19 h_19 => ?_)
    refine r_ifne a46_22 (fun h_22 => ?_) (fun h_22 => ?_)
    · have hb := (hz (pWord f E L p).2).2 (by rw [← h_19.1]; exact h_22)
      rw [if_pos hb] at hh
      exact go w _ m_19 h_19.2 wl.1 wl.2.1 hh _
    · refine r_pushI a46_25 ?_
      refine r_retZq a46_26 (by omega) ?_
      have hb := (hz _).1 (h_19.1.symm.trans (by omega))
      rw [if_neg (by rw [hb]; decide)] at hh
      rw [← hh, h_19.2]
      exact ⟨RdF_K (RdF_p m _), up2_s _ _ _ _, Or.inr ⟨rfl, rfl⟩⟩
  refine r_entry mx46 rfl ?_
  refine r_loadA a46_0 rfl (by decide) ?_
  refine r_pushI a46_1 ?_
  refine r_callI_2 a46_3 (Nat.le_of_ble_eq_true rfl) (le_mx mx53 (Nat.le_of_ble_eq_true rfl)) (Or.inr (recv_ok ty77 ow53 (by decide))) (c_Re_sees e m E 114 hS (by omega)) (fun x_3 m_3 h_3 => ?_)
  obtain ⟨hm_3, h_3⟩ := h_3
  rw [hm_3]
  rw [hat] at h_3
  refine r_storeI_1 a46_6 rfl ?_
  refine r_loadA a46_7 rfl (by decide) ?_
  refine r_loadI a46_8 rfl ?_
  refine r_ifeq a46_9 (fun h_9 => ?_) (fun h_9 => ?_)
  · refine r_statR a46_17 ?_
    first
      | (have hx : x_3 = bI true := by show x_3 = 1; omega
         rw [hx]
         exact word true 6 wRut (Or.inl ⟨rfl, rfl, rfl⟩) (by rw [← hR, if_pos (by omega)]) _)
      | (have hx : x_3 = bI false := by show x_3 = 0; omega
         rw [hx]
         exact word false 7 wFog (Or.inr ⟨rfl, rfl, rfl⟩) (by rw [← hR, if_neg (by omega)]) _)
  · refine r_statR a46_12 ?_
    refine r_goto a46_14 ?_
    first
      | (have hx : x_3 = bI true := by show x_3 = 1; omega
         rw [hx]
         exact word true 6 wRut (Or.inl ⟨rfl, rfl, rfl⟩) (by rw [← hR, if_pos (by omega)]) _)
      | (have hx : x_3 = bI false := by show x_3 = 0; omega
         rw [hx]
         exact word false 7 wFog (Or.inr ⟨rfl, rfl, rfl⟩) (by rw [← hR, if_neg (by omega)]) _)
