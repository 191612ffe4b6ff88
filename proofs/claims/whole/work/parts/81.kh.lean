-- ===== the script is kept by every run =====
def Kh (H H' : XH) : Prop := (H.2.2.1 1).1 = 0 → (H'.2.2.1 1).1 = 0 ∧ H'.2.2.2.2 1 = H.2.2.2.2 1
theorem Kh.refl (H : XH) : Kh H H := fun q => ⟨q, rfl⟩
theorem Kh.trans {A B C : XH} (h1 : Kh A B) (h2 : Kh B C) : Kh A C := fun q => ⟨(h2 (h1 q).1).1, (h2 (h1 q).1).2.trans (h1 q).2⟩
theorem Kh_m (H : XH) (c : Nat) (k v : Int) (hc : (H.2.2.1 1).1 = 0 → (1 : Nat) ≠ c) : Kh H (setM H (up2 H.2.2.2.2 c k v)) := fun q => ⟨q, if_neg (hc q)⟩
theorem Kh_c (H : XH) (ss dd : Nat) (sp dp n : Int) (hc : (H.2.2.1 1).1 = 0 → (1 : Nat) ≠ dd) : Kh H (setM H (upc H.2.2.2.2 ss sp dd dp n)) := fun q => ⟨q, if_neg (hc q)⟩
theorem Kh_r (H : XH) (r : Nat → Nat → Nat) : Kh H (setR H r) := fun q => ⟨q, rfl⟩
theorem Kh_n (H : XH) (t : Nat × Nat) (sl : Nat) : Kh H (newC H t sl) := fun q => ⟨by show (up1 H.2.2.1 (32 + H.1) t 1).1 = 0; rw [show up1 H.2.2.1 (32 + H.1) t 1 = H.2.2.1 1 from if_neg (by omega)]; exact q, rfl⟩
theorem ne1_t {H : XH} {o k : Nat} {t : Nat × Nat} (h : H.2.2.1 o = t) (hk : t.1 = k + 1) : (H.2.2.1 1).1 = 0 → (1 : Nat) ≠ o := fun q e => by subst e; rw [h, hk] at q; exact absurd q (by omega)
theorem ne1_1 {H : XH} {o k : Nat} (h : (H.2.2.1 o).1 = k + 1) : (H.2.2.1 1).1 = 0 → (1 : Nat) ≠ o := ne1_t rfl h
def Kc (C : XC) : Prop := ∀ (d y : Nat) (as : List XV) (H : XH) (z : Option XV × XH), C d y as H = some z → Kh H z.2
def Kk (k : XK) : Prop := ∀ (pc : Nat) (ls st : List XV) (H : XH) (z : Option XV × XH), k pc ls st H = some z → Kh H z.2
def Kp (op : XO) : Prop := ∀ (nx a b : Nat) (v : Int) (l : List (Int × Nat)) (C : XC) (k : XK) (d : Nat) (ls st : List XV) (H : XH) (z : Option XV × XH), Kc C → Kk k → op nx a b v l C k d ls st H = some z → Kh H z.2
theorem kp_pushI : Kp oPushI := fun _ _ _ _ _ _ _ _ _ _ _ _ _ hk h => hk _ _ _ _ _ h
theorem kp_pushL : Kp oPushL := fun _ _ _ _ _ _ _ _ _ _ _ _ _ hk h => hk _ _ _ _ _ h
theorem kp_statR : Kp oStatR := fun _ _ _ _ _ _ _ _ _ _ _ _ _ hk h => hk _ _ _ _ _ h
theorem kp_goto : Kp oGoto := fun _ _ _ _ _ _ _ _ _ _ _ _ _ hk h => hk _ _ _ _ _ h
theorem kp_new : Kp oNew := fun _ _ _ _ _ _ _ _ _ _ _ _ _ hk h => (Kh_n _ _ _).trans (hk _ _ _ _ _ h)
theorem kp_bad : Kp oBad := fun _ _ _ _ _ _ _ _ _ _ _ _ _ _ h => by cases h
theorem kp_loadI : Kp (oLoadI) := by
  intro nx a b v l C k d ls st H z hC hk h
  obtain ⟨x, hx, h1⟩ := oLoadI_inv h
  exact hk _ _ _ _ _ h1
theorem kp_loadL : Kp (oLoadL) := by
  intro nx a b v l C k d ls st H z hC hk h
  obtain ⟨x, hx, h1⟩ := oLoadL_inv h
  exact hk _ _ _ _ _ h1
theorem kp_loadA : Kp (oLoadA) := by
  intro nx a b v l C k d ls st H z hC hk h
  obtain ⟨n, hx, hn, h1⟩ := oLoadA_inv h
  exact hk _ _ _ _ _ h1
theorem kp_storeI : Kp (oStoreI) := by
  intro nx a b v l C k d ls st H z hC hk h
  obtain ⟨x, st', rfl, ha, hp, h1⟩ := oStoreI_inv h
  exact hk _ _ _ _ _ h1
theorem kp_storeA : Kp (oStoreA) := by
  intro nx a b v l C k d ls st H z hC hk h
  obtain ⟨x, st', rfl, ha, hp, hn, h1⟩ := oStoreA_inv h
  exact hk _ _ _ _ _ h1
theorem kp_storeL : Kp (oStoreL) := by
  intro nx a b v l C k d ls st H z hC hk h
  obtain ⟨x, st', rfl, ha, hp, h1⟩ := oStoreL_inv h
  exact hk _ _ _ _ _ h1
theorem kp_iinc : Kp (oIinc) := by
  intro nx a b v l C k d ls st H z hC hk h
  obtain ⟨x, hx, hp, h1⟩ := oIinc_inv h
  exact hk _ _ _ _ _ h1
theorem kp_bin (f : Int → Int → Int) : Kp (oBin f) := by
  intro nx a b v l C k d ls st H z hC hk h
  obtain ⟨y, x, st', rfl, h1⟩ := oBin_inv h
  exact hk _ _ _ _ _ h1
theorem kp_divI (f : Int → Int → Int) : Kp (oDivI f) := by
  intro nx a b v l C k d ls st H z hC hk h
  obtain ⟨y, x, st', rfl, hy, h1⟩ := oDivI_inv h
  exact hk _ _ _ _ _ h1
theorem kp_un (f : Int → Int) : Kp (oUn f) := by
  intro nx a b v l C k d ls st H z hC hk h
  obtain ⟨x, st', rfl, h1⟩ := oUn_inv h
  exact hk _ _ _ _ _ h1
theorem kp_binL (f : Int → Int → Int) : Kp (oBinL f) := by
  intro nx a b v l C k d ls st H z hC hk h
  obtain ⟨y, x, st', rfl, h1⟩ := oBinL_inv h
  exact hk _ _ _ _ _ h1
theorem kp_divL (f : Int → Int → Int) : Kp (oDivL f) := by
  intro nx a b v l C k d ls st H z hC hk h
  obtain ⟨y, x, st', rfl, hy, h1⟩ := oDivL_inv h
  exact hk _ _ _ _ _ h1
theorem kp_math (f : Int → Int → Int) : Kp (oMath f) := by
  intro nx a b v l C k d ls st H z hC hk h
  obtain ⟨y, x, st', rfl, hd, hc, h1⟩ := oMath_inv h
  exact hk _ _ _ _ _ h1
theorem kp_mathL (f : Int → Int → Int) : Kp (oMathL f) := by
  intro nx a b v l C k d ls st H z hC hk h
  obtain ⟨y, x, st', rfl, hd, hc, h1⟩ := oMathL_inv h
  exact hk _ _ _ _ _ h1
theorem kp_lcmp : Kp (oLcmp) := by
  intro nx a b v l C k d ls st H z hC hk h
  obtain ⟨y, x, st', rfl, h1⟩ := oLcmp_inv h
  exact hk _ _ _ _ _ h1
theorem kp_i2l : Kp (oI2l) := by
  intro nx a b v l C k d ls st H z hC hk h
  obtain ⟨x, st', rfl, h1⟩ := oI2l_inv h
  exact hk _ _ _ _ _ h1
theorem kp_if (f : Int → Bool) : Kp (oIf f) := by
  intro nx a b v l C k d ls st H z hC hk h
  obtain ⟨x, st', rfl, h1, h2⟩ := oIf_inv h
  cases q : f x
  · exact hk _ _ _ _ _ (h2 q)
  · exact hk _ _ _ _ _ (h1 q)
theorem kp_ifc (f : Int → Int → Bool) : Kp (oIfc f) := by
  intro nx a b v l C k d ls st H z hC hk h
  obtain ⟨y, x, st', rfl, h1, h2⟩ := oIfc_inv h
  cases q : f x y
  · exact hk _ _ _ _ _ (h2 q)
  · exact hk _ _ _ _ _ (h1 q)
theorem kp_dup : Kp (oDup) := by
  intro nx a b v l C k d ls st H z hC hk h
  obtain ⟨x, st', rfl, hl, h1⟩ := oDup_inv h
  exact hk _ _ _ _ _ h1
theorem kp_pop : Kp (oPop) := by
  intro nx a b v l C k d ls st H z hC hk h
  obtain ⟨x, st', rfl, hl, h1⟩ := oPop_inv h
  exact hk _ _ _ _ _ h1
theorem kp_dupx1 : Kp (oDupX1) := by
  intro nx a b v l C k d ls st H z hC hk h
  obtain ⟨x, y, st', rfl, hl, hl2, h1⟩ := oDupX1_inv h
  exact hk _ _ _ _ _ h1
theorem kp_dup2 : Kp (oDup2) := by
  intro nx a b v l C k d ls st H z hC hk h
  obtain ⟨x, y, st', rfl, hl, hl2, h1⟩ := oDup2_inv h
  exact hk _ _ _ _ _ h1
theorem kp_getI : Kp (oGetI) := by
  intro nx a b v l C k d ls st H z hC hk h
  obtain ⟨o, st', rfl, ht, h1⟩ := oGetI_inv h
  exact hk _ _ _ _ _ h1
theorem kp_getL : Kp (oGetL) := by
  intro nx a b v l C k d ls st H z hC hk h
  obtain ⟨o, st', rfl, ht, h1⟩ := oGetL_inv h
  exact hk _ _ _ _ _ h1
theorem kp_getR : Kp (oGetR) := by
  intro nx a b v l C k d ls st H z hC hk h
  obtain ⟨o, st', rfl, ht, hn, h1⟩ := oGetR_inv h
  exact hk _ _ _ _ _ h1
theorem kp_putI : Kp (oPutI) := by
  intro nx a b v l C k d ls st H z hC hk h
  obtain ⟨x, o, st', rfl, ht, h1⟩ := oPutI_inv h
  exact (Kh_m H _ _ _ (ne1_t ht rfl)).trans (hk _ _ _ _ _ h1)
theorem kp_putL : Kp (oPutL) := by
  intro nx a b v l C k d ls st H z hC hk h
  obtain ⟨x, o, st', rfl, ht, h1⟩ := oPutL_inv h
  exact (Kh_m H _ _ _ (ne1_t ht rfl)).trans (hk _ _ _ _ _ h1)
theorem kp_putZ : Kp (oPutZ) := by
  intro nx a b v l C k d ls st H z hC hk h
  obtain ⟨x, o, st', rfl, ht, hx, h1⟩ := oPutZ_inv h
  exact (Kh_m H _ _ _ (ne1_t ht rfl)).trans (hk _ _ _ _ _ h1)
theorem kp_putR : Kp (oPutR) := by
  intro nx a b v l C k d ls st H z hC hk h
  obtain ⟨x, o, st', rfl, ht, hx, h1⟩ := oPutR_inv h
  exact (Kh_r H _).trans (hk _ _ _ _ _ h1)
theorem kp_strV : Kp (oStrV) := by
  intro nx a b v l C k d ls st H z hC hk h
  obtain ⟨o, st', rfl, o1, o2, h1⟩ := oStrV_inv h
  exact hk _ _ _ _ _ h1
theorem kp_strC : Kp (oStrC) := by
  intro nx a b v l C k d ls st H z hC hk h
  obtain ⟨o, st', rfl, o1, o2, h1⟩ := oStrC_inv h
  exact hk _ _ _ _ _ h1
theorem kp_newA : Kp (oNewA) := by
  intro nx a b v l C k d ls st H z hC hk h
  obtain ⟨x, st', rfl, o1, o2, h1⟩ := oNewA_inv h
  exact (Kh_n H _ _).trans (hk _ _ _ _ _ h1)
theorem kp_iast : Kp (oIast) := by
  intro nx a b v l C k d ls st H z hC hk h
  obtain ⟨x, i, o, st', rfl, t, h0, hl, h1⟩ := oIast_inv h
  exact (Kh_m H _ _ _ (ne1_1 t)).trans (hk _ _ _ _ _ h1)
theorem kp_bast : Kp (oBast) := by
  intro nx a b v l C k d ls st H z hC hk h
  obtain ⟨x, i, o, st', rfl, t, h0, hl, hx, h1⟩ := oBast_inv h
  exact (Kh_m H _ _ _ (ne1_1 t)).trans (hk _ _ _ _ _ h1)
theorem kp_iald : Kp oIald := by
  intro nx a b v l C k d ls st H z hC hk h
  unfold oIald at h
  split at h
  · split at h
    · exact hk _ _ _ _ _ h
    · split at h
      · exact hk _ _ _ _ _ h
      · split at h
        · exact hk _ _ _ _ _ h
        · cases h
  · cases h
theorem kp_lald : Kp oLald := by
  intro nx a b v l C k d ls st H z hC hk h
  unfold oLald at h
  split at h
  · split at h
    · exact hk _ _ _ _ _ h
    · cases h
  · cases h
theorem kp_bald : Kp oBald := by
  intro nx a b v l C k d ls st H z hC hk h
  unfold oBald at h
  split at h
  · split at h
    · exact hk _ _ _ _ _ h
    · split at h
      · exact hk _ _ _ _ _ h
      · cases h
  · cases h
theorem kp_alen : Kp oAlen := by
  intro nx a b v l C k d ls st H z hC hk h
  unfold oAlen at h
  split at h
  · split at h
    · exact hk _ _ _ _ _ h
    · split at h
      · exact hk _ _ _ _ _ h
      · split at h
        · exact hk _ _ _ _ _ h
        · cases h
  · cases h
theorem kp_call : Kp oCall := by
  intro nx a b v l C k d ls st H z hC hk h
  unfold oCall at h
  split at h
  · cases h
  · split at h
    · cases h
    · split at h
      · rename_i e
        exact (hC _ _ _ _ _ e).trans (hk _ _ _ _ _ h)
      · cases h
theorem kp_obj : Kp oObj := by
  intro nx a b v l C k d ls st H z hC hk h
  unfold oObj at h
  split at h
  · split at h
    · cases h
    · exact hk _ _ _ _ _ h
  · cases h
theorem kp_copy : Kp oCopy := by
  intro nx a b v l C k d ls st H z hC hk h
  obtain ⟨n, dp, dd, sp, ss, rfl, hq, h1⟩ := oCopy_inv h
  have ht : (H.2.2.1 dd).1 = (H.2.2.1 ss).1 := hq.2.2.2.1
  have hk2 := hq.2.2.1
  refine (Kh_c H _ _ _ _ _ (fun q => ?_)).trans (hk _ _ _ _ _ h1)
  intro e
  subst e
  rw [← ht, q] at hk2
  omega
theorem kp_retI : Kp oRetI := fun _ _ _ _ _ _ _ _ _ _ H _ _ _ h => by
  obtain ⟨x, _, _, e⟩ := oRetI_inv h
  rw [e]; exact Kh.refl H
theorem kp_retL : Kp oRetL := fun _ _ _ _ _ _ _ _ _ _ H _ _ _ h => by
  obtain ⟨x, _, e⟩ := oRetL_inv h
  rw [e]; exact Kh.refl H
theorem kp_retV : Kp oRetV := fun _ _ _ _ _ _ _ _ _ _ H _ _ _ h => by
  obtain ⟨_, e⟩ := oRetV_inv h
  rw [e]; exact Kh.refl H
theorem kp_switch : Kp (oSwitch) := by
  intro nx a b v l C k d ls st H z hC hk h
  obtain ⟨x, st', rfl, h1⟩ := oSwitch_inv h
  exact hk _ _ _ _ _ h1
theorem zOps_kp : ∀ op ∈ zOps, Kp op := List.forall_mem_cons.mpr ⟨kp_bad, List.forall_mem_cons.mpr ⟨kp_pushI, List.forall_mem_cons.mpr ⟨kp_pushL, List.forall_mem_cons.mpr ⟨kp_loadI, List.forall_mem_cons.mpr ⟨kp_loadA, List.forall_mem_cons.mpr ⟨kp_loadL, List.forall_mem_cons.mpr ⟨kp_storeI, List.forall_mem_cons.mpr ⟨kp_storeA, List.forall_mem_cons.mpr ⟨kp_storeL, List.forall_mem_cons.mpr ⟨kp_iinc, List.forall_mem_cons.mpr ⟨kp_bin _, List.forall_mem_cons.mpr ⟨kp_bin _, List.forall_mem_cons.mpr ⟨kp_bin _, List.forall_mem_cons.mpr ⟨kp_divI _, List.forall_mem_cons.mpr ⟨kp_divI _, List.forall_mem_cons.mpr ⟨kp_un _, List.forall_mem_cons.mpr ⟨kp_bin _, List.forall_mem_cons.mpr ⟨kp_bin _, List.forall_mem_cons.mpr ⟨kp_bin _, List.forall_mem_cons.mpr ⟨kp_bin _, List.forall_mem_cons.mpr ⟨kp_bin _, List.forall_mem_cons.mpr ⟨kp_binL _, List.forall_mem_cons.mpr ⟨kp_binL _, List.forall_mem_cons.mpr ⟨kp_binL _, List.forall_mem_cons.mpr ⟨kp_divL _, List.forall_mem_cons.mpr ⟨kp_divL _, List.forall_mem_cons.mpr ⟨kp_lcmp, List.forall_mem_cons.mpr ⟨kp_i2l, List.forall_mem_cons.mpr ⟨kp_un _, List.forall_mem_cons.mpr ⟨kp_un _, List.forall_mem_cons.mpr ⟨kp_goto, List.forall_mem_cons.mpr ⟨kp_if _, List.forall_mem_cons.mpr ⟨kp_if _, List.forall_mem_cons.mpr ⟨kp_if _, List.forall_mem_cons.mpr ⟨kp_if _, List.forall_mem_cons.mpr ⟨kp_if _, List.forall_mem_cons.mpr ⟨kp_if _, List.forall_mem_cons.mpr ⟨kp_ifc _, List.forall_mem_cons.mpr ⟨kp_ifc _, List.forall_mem_cons.mpr ⟨kp_ifc _, List.forall_mem_cons.mpr ⟨kp_ifc _, List.forall_mem_cons.mpr ⟨kp_ifc _, List.forall_mem_cons.mpr ⟨kp_ifc _, List.forall_mem_cons.mpr ⟨kp_dup, List.forall_mem_cons.mpr ⟨kp_dupx1, List.forall_mem_cons.mpr ⟨kp_dup2, List.forall_mem_cons.mpr ⟨kp_pop, List.forall_mem_cons.mpr ⟨kp_getI, List.forall_mem_cons.mpr ⟨kp_getL, List.forall_mem_cons.mpr ⟨kp_getR, List.forall_mem_cons.mpr ⟨kp_putI, List.forall_mem_cons.mpr ⟨kp_putZ, List.forall_mem_cons.mpr ⟨kp_putL, List.forall_mem_cons.mpr ⟨kp_putR, List.forall_mem_cons.mpr ⟨kp_strV, List.forall_mem_cons.mpr ⟨kp_strC, List.forall_mem_cons.mpr ⟨kp_iald, List.forall_mem_cons.mpr ⟨kp_lald, List.forall_mem_cons.mpr ⟨kp_bald, List.forall_mem_cons.mpr ⟨kp_iast, List.forall_mem_cons.mpr ⟨kp_bast, List.forall_mem_cons.mpr ⟨kp_alen, List.forall_mem_cons.mpr ⟨kp_newA, List.forall_mem_cons.mpr ⟨kp_new, List.forall_mem_cons.mpr ⟨kp_statR, List.forall_mem_cons.mpr ⟨kp_call, List.forall_mem_cons.mpr ⟨kp_obj, List.forall_mem_cons.mpr ⟨kp_copy, List.forall_mem_cons.mpr ⟨kp_retI, List.forall_mem_cons.mpr ⟨kp_retL, List.forall_mem_cons.mpr ⟨kp_retV, List.forall_mem_cons.mpr ⟨kp_switch, List.forall_mem_cons.mpr ⟨kp_math _, List.forall_mem_cons.mpr ⟨kp_math _, List.forall_mem_cons.mpr ⟨kp_mathL _, fun _ h => absurd h List.not_mem_nil⟩⟩⟩⟩⟩⟩⟩⟩⟩⟩⟩⟩⟩⟩⟩⟩⟩⟩⟩⟩⟩⟩⟩⟩⟩⟩⟩⟩⟩⟩⟩⟩⟩⟩⟩⟩⟩⟩⟩⟩⟩⟩⟩⟩⟩⟩⟩⟩⟩⟩⟩⟩⟩⟩⟩⟩⟩⟩⟩⟩⟩⟩⟩⟩⟩⟩⟩⟩⟩⟩⟩⟩⟩⟩⟩
theorem ev_kh : ∀ (n d mid pc : Nat) (ls st : List XV) (H : XH) (z : Option XV × XH), ev n d mid pc ls st H = some z → Kh H z.2
  | 0, _, _, _, _, _, _, _, h => by cases h
  | n + 1, d, mid, pc, ls, st, H, z, h =>
    getD_all (P := Kp) zOps_kp kp_bad (zA mid pc).1 _ _ _ _ _ _ _ _ _ _ _ _ (fun d' y as H z q => ev_kh n d' y 0 (entryL y as) [] H z q) (fun pc' ls' st' H z q => ev_kh n d mid pc' ls' st' H z q) h
theorem RZ.kh {d M pc : Nat} {ls st : List XV} {H : XH} {Q : Option XV → XH → Prop} (h : RZ d M pc ls st H Q) : RZ d M pc ls st H (fun r H' => Q r H' ∧ Kh H H') := by
  obtain ⟨n, r, H', h1, h2⟩ := h
  exact ⟨n, r, H', h1, h2, ev_kh _ _ _ _ _ _ _ _ h1⟩
theorem CI.kh {d M z : Nat} {m : XM} {as : List XV} {P : Int → XM → Prop} (h : CI d M z m as P) : CI d M z m as (fun x m' => P x m' ∧ m' 1 = m 1) :=
  RZ.mono (RZ.kh h) fun _ _ ⟨⟨m', e, x, e2, hp⟩, k⟩ => ⟨m', e, x, e2, hp, by subst e; exact (k rfl).2⟩
theorem CL.kh {d M z : Nat} {m : XM} {as : List XV} {P : Int → XM → Prop} (h : CL d M z m as P) : CL d M z m as (fun x m' => P x m' ∧ m' 1 = m 1) :=
  RZ.mono (RZ.kh h) fun _ _ ⟨⟨m', e, x, e2, hp⟩, k⟩ => ⟨m', e, x, e2, hp, by subst e; exact (k rfl).2⟩
