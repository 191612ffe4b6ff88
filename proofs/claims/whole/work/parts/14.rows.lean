-- ===== more steps do no harm =====
def ExtC (C C' : XC) : Prop := ∀ (d y : Nat) (as : List XV) (H : XH) (z : Option XV × XH), C d y as H = some z → C' d y as H = some z
def ExtK (k k' : XK) : Prop := ∀ (pc : Nat) (ls st : List XV) (H : XH) (z : Option XV × XH), k pc ls st H = some z → k' pc ls st H = some z
def Ext (op : XO) : Prop := ∀ (nx a b : Nat) (v : Int) (l : List (Int × Nat)) (C C' : XC) (k k' : XK) (d : Nat) (ls st : List XV) (H : XH) (z : Option XV × XH), ExtC C C' → ExtK k k' → op nx a b v l C k d ls st H = some z → op nx a b v l C' k' d ls st H = some z
theorem ext_pushI : Ext oPushI := fun _ _ _ _ _ _ _ _ _ _ _ _ _ _ _ hk h => hk _ _ _ _ _ h
theorem ext_pushL : Ext oPushL := fun _ _ _ _ _ _ _ _ _ _ _ _ _ _ _ hk h => hk _ _ _ _ _ h
theorem ext_statR : Ext oStatR := fun _ _ _ _ _ _ _ _ _ _ _ _ _ _ _ hk h => hk _ _ _ _ _ h
theorem ext_goto : Ext oGoto := fun _ _ _ _ _ _ _ _ _ _ _ _ _ _ _ hk h => hk _ _ _ _ _ h
theorem ext_new : Ext oNew := fun _ _ _ _ _ _ _ _ _ _ _ _ _ _ _ hk h => hk _ _ _ _ _ h
theorem ext_bad : Ext oBad := fun _ _ _ _ _ _ _ _ _ _ _ _ _ _ _ _ h => by cases h
theorem ext_loadI : Ext (oLoadI) := by
  intro nx a b v l C C' k k' d ls st H z hC hk h
  obtain ⟨x, hx, h1⟩ := oLoadI_inv h
  unfold oLoadI; rw [hx]; exact hk _ _ _ _ _ h1
theorem ext_loadL : Ext (oLoadL) := by
  intro nx a b v l C C' k k' d ls st H z hC hk h
  obtain ⟨x, hx, h1⟩ := oLoadL_inv h
  unfold oLoadL; rw [hx]; exact hk _ _ _ _ _ h1
theorem ext_loadA : Ext (oLoadA) := by
  intro nx a b v l C C' k k' d ls st H z hC hk h
  obtain ⟨n, hx, hn, h1⟩ := oLoadA_inv h
  unfold oLoadA; rw [hx]; show (if n = 0 then none else _) = _; rw [if_neg hn]; exact hk _ _ _ _ _ h1
theorem ext_storeI : Ext (oStoreI) := by
  intro nx a b v l C C' k k' d ls st H z hC hk h
  obtain ⟨x, st', rfl, ha, hp, h1⟩ := oStoreI_inv h
  show (if _ then _ else none) = _; rw [if_pos ⟨ha, hp⟩]; exact hk _ _ _ _ _ h1
theorem ext_storeA : Ext (oStoreA) := by
  intro nx a b v l C C' k k' d ls st H z hC hk h
  obtain ⟨x, st', rfl, ha, hp, hn, h1⟩ := oStoreA_inv h
  show (if _ then _ else none) = _; rw [if_pos ⟨ha, hp, hn⟩]; exact hk _ _ _ _ _ h1
theorem ext_storeL : Ext (oStoreL) := by
  intro nx a b v l C C' k k' d ls st H z hC hk h
  obtain ⟨x, st', rfl, ha, hp, h1⟩ := oStoreL_inv h
  show (if _ then _ else none) = _; rw [if_pos ⟨ha, hp⟩]; exact hk _ _ _ _ _ h1
theorem ext_iinc : Ext (oIinc) := by
  intro nx a b v l C C' k k' d ls st H z hC hk h
  obtain ⟨x, hx, hp, h1⟩ := oIinc_inv h
  unfold oIinc; rw [hx]; show (if _ then _ else none) = _; rw [if_pos hp]; exact hk _ _ _ _ _ h1
theorem ext_bin (f : Int → Int → Int) : Ext (oBin f) := by
  intro nx a b v l C C' k k' d ls st H z hC hk h
  obtain ⟨y, x, st', rfl, h1⟩ := oBin_inv h
  exact hk _ _ _ _ _ h1
theorem ext_divI (f : Int → Int → Int) : Ext (oDivI f) := by
  intro nx a b v l C C' k k' d ls st H z hC hk h
  obtain ⟨y, x, st', rfl, hy, h1⟩ := oDivI_inv h
  show (if _ then none else _) = _; rw [if_neg hy]; exact hk _ _ _ _ _ h1
theorem ext_un (f : Int → Int) : Ext (oUn f) := by
  intro nx a b v l C C' k k' d ls st H z hC hk h
  obtain ⟨x, st', rfl, h1⟩ := oUn_inv h
  exact hk _ _ _ _ _ h1
theorem ext_binL (f : Int → Int → Int) : Ext (oBinL f) := by
  intro nx a b v l C C' k k' d ls st H z hC hk h
  obtain ⟨y, x, st', rfl, h1⟩ := oBinL_inv h
  exact hk _ _ _ _ _ h1
theorem ext_divL (f : Int → Int → Int) : Ext (oDivL f) := by
  intro nx a b v l C C' k k' d ls st H z hC hk h
  obtain ⟨y, x, st', rfl, hy, h1⟩ := oDivL_inv h
  show (if _ then none else _) = _; rw [if_neg hy]; exact hk _ _ _ _ _ h1
theorem ext_math (f : Int → Int → Int) : Ext (oMath f) := by
  intro nx a b v l C C' k k' d ls st H z hC hk h
  obtain ⟨y, x, st', rfl, hd, hc, h1⟩ := oMath_inv h
  show (if _ then none else _) = _; rw [if_neg (by omega)]; exact hk _ _ _ _ _ h1
theorem ext_mathL (f : Int → Int → Int) : Ext (oMathL f) := by
  intro nx a b v l C C' k k' d ls st H z hC hk h
  obtain ⟨y, x, st', rfl, hd, hc, h1⟩ := oMathL_inv h
  show (if _ then none else _) = _; rw [if_neg (by omega)]; exact hk _ _ _ _ _ h1
theorem ext_lcmp : Ext (oLcmp) := by
  intro nx a b v l C C' k k' d ls st H z hC hk h
  obtain ⟨y, x, st', rfl, h1⟩ := oLcmp_inv h
  exact hk _ _ _ _ _ h1
theorem ext_i2l : Ext (oI2l) := by
  intro nx a b v l C C' k k' d ls st H z hC hk h
  obtain ⟨x, st', rfl, h1⟩ := oI2l_inv h
  exact hk _ _ _ _ _ h1
theorem ext_if (f : Int → Bool) : Ext (oIf f) := by
  intro nx a b v l C C' k k' d ls st H z hC hk h
  obtain ⟨x, st', rfl, h1, h2⟩ := oIf_inv h
  show (if f x = true then _ else _) = _
  cases q : f x
  · rw [if_neg (by decide)]; exact hk _ _ _ _ _ (h2 q)
  · rw [if_pos rfl]; exact hk _ _ _ _ _ (h1 q)
theorem ext_ifc (f : Int → Int → Bool) : Ext (oIfc f) := by
  intro nx a b v l C C' k k' d ls st H z hC hk h
  obtain ⟨y, x, st', rfl, h1, h2⟩ := oIfc_inv h
  show (if f x y = true then _ else _) = _
  cases q : f x y
  · rw [if_neg (by decide)]; exact hk _ _ _ _ _ (h2 q)
  · rw [if_pos rfl]; exact hk _ _ _ _ _ (h1 q)
theorem ext_dup : Ext (oDup) := by
  intro nx a b v l C C' k k' d ls st H z hC hk h
  obtain ⟨x, st', rfl, hl, h1⟩ := oDup_inv h
  show (if _ then none else _) = _; rw [if_neg (by rw [hl]; decide)]; exact hk _ _ _ _ _ h1
theorem ext_pop : Ext (oPop) := by
  intro nx a b v l C C' k k' d ls st H z hC hk h
  obtain ⟨x, st', rfl, hl, h1⟩ := oPop_inv h
  show (if _ then none else _) = _; rw [if_neg (by rw [hl]; decide)]; exact hk _ _ _ _ _ h1
theorem ext_dupx1 : Ext (oDupX1) := by
  intro nx a b v l C C' k k' d ls st H z hC hk h
  obtain ⟨x, y, st', rfl, hl, hl2, h1⟩ := oDupX1_inv h
  show (if _ then none else _) = _; rw [if_neg (by rw [hl, hl2]; decide)]; exact hk _ _ _ _ _ h1
theorem ext_dup2 : Ext (oDup2) := by
  intro nx a b v l C C' k k' d ls st H z hC hk h
  obtain ⟨x, y, st', rfl, hl, hl2, h1⟩ := oDup2_inv h
  show (if _ then none else _) = _; rw [if_neg (by rw [hl, hl2]; decide)]; exact hk _ _ _ _ _ h1
theorem ext_getI : Ext (oGetI) := by
  intro nx a b v l C C' k k' d ls st H z hC hk h
  obtain ⟨o, st', rfl, ht, h1⟩ := oGetI_inv h
  show (if _ then _ else none) = _; rw [if_pos ht]; exact hk _ _ _ _ _ h1
theorem ext_getL : Ext (oGetL) := by
  intro nx a b v l C C' k k' d ls st H z hC hk h
  obtain ⟨o, st', rfl, ht, h1⟩ := oGetL_inv h
  show (if _ then _ else none) = _; rw [if_pos ht]; exact hk _ _ _ _ _ h1
theorem ext_getR : Ext (oGetR) := by
  intro nx a b v l C C' k k' d ls st H z hC hk h
  obtain ⟨o, st', rfl, ht, hn, h1⟩ := oGetR_inv h
  show (if _ then _ else none) = _; rw [if_pos ⟨ht, hn⟩]; exact hk _ _ _ _ _ h1
theorem ext_putI : Ext (oPutI) := by
  intro nx a b v l C C' k k' d ls st H z hC hk h
  obtain ⟨x, o, st', rfl, ht, h1⟩ := oPutI_inv h
  show (if _ then _ else none) = _; rw [if_pos ht]; exact hk _ _ _ _ _ h1
theorem ext_putL : Ext (oPutL) := by
  intro nx a b v l C C' k k' d ls st H z hC hk h
  obtain ⟨x, o, st', rfl, ht, h1⟩ := oPutL_inv h
  show (if _ then _ else none) = _; rw [if_pos ht]; exact hk _ _ _ _ _ h1
theorem ext_putZ : Ext (oPutZ) := by
  intro nx a b v l C C' k k' d ls st H z hC hk h
  obtain ⟨x, o, st', rfl, ht, hx, h1⟩ := oPutZ_inv h
  show (if _ then _ else none) = _; rw [if_pos ⟨ht, hx⟩]; exact hk _ _ _ _ _ h1
theorem ext_putR : Ext (oPutR) := by
  intro nx a b v l C C' k k' d ls st H z hC hk h
  obtain ⟨x, o, st', rfl, ht, hx, h1⟩ := oPutR_inv h
  show (if _ then _ else none) = _; rw [if_pos ⟨ht, hx⟩]; exact hk _ _ _ _ _ h1
theorem ext_strV : Ext (oStrV) := by
  intro nx a b v l C C' k k' d ls st H z hC hk h
  obtain ⟨o, st', rfl, o1, o2, h1⟩ := oStrV_inv h
  show (if _ then _ else none) = _; rw [if_pos ⟨o1, o2⟩]; exact hk _ _ _ _ _ h1
theorem ext_strC : Ext (oStrC) := by
  intro nx a b v l C C' k k' d ls st H z hC hk h
  obtain ⟨o, st', rfl, o1, o2, h1⟩ := oStrC_inv h
  show (if _ then _ else none) = _; rw [if_pos ⟨o1, o2⟩]; exact hk _ _ _ _ _ h1
theorem ext_newA : Ext (oNewA) := by
  intro nx a b v l C C' k k' d ls st H z hC hk h
  obtain ⟨x, st', rfl, o1, o2, h1⟩ := oNewA_inv h
  show (if _ then _ else none) = _; rw [if_pos ⟨o1, o2⟩]; exact hk _ _ _ _ _ h1
theorem ext_iast : Ext (oIast) := by
  intro nx a b v l C C' k k' d ls st H z hC hk h
  obtain ⟨x, i, o, st', rfl, t, h0, hl, h1⟩ := oIast_inv h
  show (if _ then _ else none) = _; rw [if_pos ⟨t, h0, hl⟩]; exact hk _ _ _ _ _ h1
theorem ext_bast : Ext (oBast) := by
  intro nx a b v l C C' k k' d ls st H z hC hk h
  obtain ⟨x, i, o, st', rfl, t, h0, hl, hx, h1⟩ := oBast_inv h
  show (if _ then _ else none) = _; rw [if_pos ⟨t, h0, hl, hx⟩]; exact hk _ _ _ _ _ h1
theorem ext_iald : Ext oIald := by
  intro nx a b v l C C' k k' d ls st H z hC hk h
  unfold oIald at h ⊢
  split at h
  · split at h
    · rename_i hc; rw [if_pos hc]; exact hk _ _ _ _ _ h
    · rename_i hc; rw [if_neg hc]
      split at h
      · rename_i hc; rw [if_pos hc]; exact hk _ _ _ _ _ h
      · rename_i hc; rw [if_neg hc]
        split at h
        · rename_i hc; rw [if_pos hc]; exact hk _ _ _ _ _ h
        · cases h
  · cases h
theorem ext_lald : Ext oLald := by
  intro nx a b v l C C' k k' d ls st H z hC hk h
  unfold oLald at h ⊢
  split at h
  · split at h
    · rename_i hc; rw [if_pos hc]; exact hk _ _ _ _ _ h
    · cases h
  · cases h
theorem ext_bald : Ext oBald := by
  intro nx a b v l C C' k k' d ls st H z hC hk h
  unfold oBald at h ⊢
  split at h
  · split at h
    · rename_i hc; rw [if_pos hc]; exact hk _ _ _ _ _ h
    · rename_i hc; rw [if_neg hc]
      split at h
      · rename_i hc; rw [if_pos hc]; exact hk _ _ _ _ _ h
      · cases h
  · cases h
theorem ext_alen : Ext oAlen := by
  intro nx a b v l C C' k k' d ls st H z hC hk h
  unfold oAlen at h ⊢
  split at h
  · split at h
    · rename_i hc; rw [if_pos hc]; exact hk _ _ _ _ _ h
    · rename_i hc; rw [if_neg hc]
      split at h
      · rename_i hc; rw [if_pos hc]; exact hk _ _ _ _ _ h
      · rename_i hc; rw [if_neg hc]
        split at h
        · rename_i hc; rw [if_pos hc]; exact hk _ _ _ _ _ h
        · cases h
  · cases h
theorem ext_call : Ext oCall := by
  intro nx a b v l C C' k k' d ls st H z hC hk h
  unfold oCall at h ⊢
  split at h
  · cases h
  · rename_i hc; rw [if_neg hc]
    split at h
    · cases h
    · rename_i d'
      split at h
      · rename_i r H' e
        rw [hC _ _ _ _ _ e]
        exact hk _ _ _ _ _ h
      · cases h
theorem ext_obj : Ext oObj := by
  intro nx a b v l C C' k k' d ls st H z hC hk h
  unfold oObj at h ⊢
  split at h
  · split at h
    · cases h
    · rename_i hc; rw [if_neg hc]; exact hk _ _ _ _ _ h
  · cases h
theorem ext_copy : Ext oCopy := by
  intro nx a b v l C C' k k' d ls st H z hC hk h
  unfold oCopy at h ⊢
  split at h
  · split at h
    · rename_i hc; rw [if_pos hc]; exact hk _ _ _ _ _ h
    · cases h
  · cases h
theorem ext_retI : Ext oRetI := fun _ _ _ _ _ _ _ _ _ _ _ _ _ _ _ _ h => h
theorem ext_retL : Ext oRetL := fun _ _ _ _ _ _ _ _ _ _ _ _ _ _ _ _ h => h
theorem ext_retV : Ext oRetV := fun _ _ _ _ _ _ _ _ _ _ _ _ _ _ _ _ h => h
theorem ext_switch : Ext (oSwitch) := by
  intro nx a b v l C C' k k' d ls st H z hC hk h
  obtain ⟨x, st', rfl, h1⟩ := oSwitch_inv h
  exact hk _ _ _ _ _ h1
theorem zOps_ext : ∀ op ∈ zOps, Ext op := List.forall_mem_cons.mpr ⟨ext_bad, List.forall_mem_cons.mpr ⟨ext_pushI, List.forall_mem_cons.mpr ⟨ext_pushL, List.forall_mem_cons.mpr ⟨ext_loadI, List.forall_mem_cons.mpr ⟨ext_loadA, List.forall_mem_cons.mpr ⟨ext_loadL, List.forall_mem_cons.mpr ⟨ext_storeI, List.forall_mem_cons.mpr ⟨ext_storeA, List.forall_mem_cons.mpr ⟨ext_storeL, List.forall_mem_cons.mpr ⟨ext_iinc, List.forall_mem_cons.mpr ⟨ext_bin _, List.forall_mem_cons.mpr ⟨ext_bin _, List.forall_mem_cons.mpr ⟨ext_bin _, List.forall_mem_cons.mpr ⟨ext_divI _, List.forall_mem_cons.mpr ⟨ext_divI _, List.forall_mem_cons.mpr ⟨ext_un _, List.forall_mem_cons.mpr ⟨ext_bin _, List.forall_mem_cons.mpr ⟨ext_bin _, List.forall_mem_cons.mpr ⟨ext_bin _, List.forall_mem_cons.mpr ⟨ext_bin _, List.forall_mem_cons.mpr ⟨ext_bin _, List.forall_mem_cons.mpr ⟨ext_binL _, List.forall_mem_cons.mpr ⟨ext_binL _, List.forall_mem_cons.mpr ⟨ext_binL _, List.forall_mem_cons.mpr ⟨ext_divL _, List.forall_mem_cons.mpr ⟨ext_divL _, List.forall_mem_cons.mpr ⟨ext_lcmp, List.forall_mem_cons.mpr ⟨ext_i2l, List.forall_mem_cons.mpr ⟨ext_un _, List.forall_mem_cons.mpr ⟨ext_un _, List.forall_mem_cons.mpr ⟨ext_goto, List.forall_mem_cons.mpr ⟨ext_if _, List.forall_mem_cons.mpr ⟨ext_if _, List.forall_mem_cons.mpr ⟨ext_if _, List.forall_mem_cons.mpr ⟨ext_if _, List.forall_mem_cons.mpr ⟨ext_if _, List.forall_mem_cons.mpr ⟨ext_if _, List.forall_mem_cons.mpr ⟨ext_ifc _, List.forall_mem_cons.mpr ⟨ext_ifc _, List.forall_mem_cons.mpr ⟨ext_ifc _, List.forall_mem_cons.mpr ⟨ext_ifc _, List.forall_mem_cons.mpr ⟨ext_ifc _, List.forall_mem_cons.mpr ⟨ext_ifc _, List.forall_mem_cons.mpr ⟨ext_dup, List.forall_mem_cons.mpr ⟨ext_dupx1, List.forall_mem_cons.mpr ⟨ext_dup2, List.forall_mem_cons.mpr ⟨ext_pop, List.forall_mem_cons.mpr ⟨ext_getI, List.forall_mem_cons.mpr ⟨ext_getL, List.forall_mem_cons.mpr ⟨ext_getR, List.forall_mem_cons.mpr ⟨ext_putI, List.forall_mem_cons.mpr ⟨ext_putZ, List.forall_mem_cons.mpr ⟨ext_putL, List.forall_mem_cons.mpr ⟨ext_putR, List.forall_mem_cons.mpr ⟨ext_strV, List.forall_mem_cons.mpr ⟨ext_strC, List.forall_mem_cons.mpr ⟨ext_iald, List.forall_mem_cons.mpr ⟨ext_lald, List.forall_mem_cons.mpr ⟨ext_bald, List.forall_mem_cons.mpr ⟨ext_iast, List.forall_mem_cons.mpr ⟨ext_bast, List.forall_mem_cons.mpr ⟨ext_alen, List.forall_mem_cons.mpr ⟨ext_newA, List.forall_mem_cons.mpr ⟨ext_new, List.forall_mem_cons.mpr ⟨ext_statR, List.forall_mem_cons.mpr ⟨ext_call, List.forall_mem_cons.mpr ⟨ext_obj, List.forall_mem_cons.mpr ⟨ext_copy, List.forall_mem_cons.mpr ⟨ext_retI, List.forall_mem_cons.mpr ⟨ext_retL, List.forall_mem_cons.mpr ⟨ext_retV, List.forall_mem_cons.mpr ⟨ext_switch, List.forall_mem_cons.mpr ⟨ext_math _, List.forall_mem_cons.mpr ⟨ext_math _, List.forall_mem_cons.mpr ⟨ext_mathL _, fun _ h => absurd h List.not_mem_nil⟩⟩⟩⟩⟩⟩⟩⟩⟩⟩⟩⟩⟩⟩⟩⟩⟩⟩⟩⟩⟩⟩⟩⟩⟩⟩⟩⟩⟩⟩⟩⟩⟩⟩⟩⟩⟩⟩⟩⟩⟩⟩⟩⟩⟩⟩⟩⟩⟩⟩⟩⟩⟩⟩⟩⟩⟩⟩⟩⟩⟩⟩⟩⟩⟩⟩⟩⟩⟩⟩⟩⟩⟩⟩⟩
theorem ev_succ : ∀ (n d mid pc : Nat) (ls st : List XV) (H : XH) (z : Option XV × XH), ev n d mid pc ls st H = some z → ev (n + 1) d mid pc ls st H = some z
  | 0, _, _, _, _, _, _, _, h => by cases h
  | n + 1, d, mid, pc, ls, st, H, z, h =>
    getD_all (P := Ext) zOps_ext ext_bad (zA mid pc).1 _ _ _ _ _ _ _ _ _ _ _ _ _ _ (fun d' y as H z q => ev_succ n d' y 0 (entryL y as) [] H z q) (fun pc' ls' st' H z q => ev_succ n d mid pc' ls' st' H z q) h
theorem ev_le {n n' d mid pc : Nat} {ls st : List XV} {H : XH} {z : Option XV × XH} (hn : n ≤ n') (h : ev n d mid pc ls st H = some z) : ev n' d mid pc ls st H = some z := by
  induction hn with
  | refl => exact h
  | step _ ih => exact ev_succ _ _ _ _ _ _ _ _ ih
-- ===== a run that ends, and how =====
def RZ (d M pc : Nat) (ls st : List XV) (H : XH) (Q : Option XV → XH → Prop) : Prop := ∃ (n : Nat) (r : Option XV) (H' : XH), ev n d M pc ls st H = some (r, H') ∧ Q r H'
theorem RZ.mono {d M pc : Nat} {ls st : List XV} {H : XH} {Q Q' : Option XV → XH → Prop} (h : RZ d M pc ls st H Q) (hq : ∀ r H', Q r H' → Q' r H') : RZ d M pc ls st H Q' := by
  obtain ⟨n, r, H', h1, h2⟩ := h
  exact ⟨n, r, H', h1, hq _ _ h2⟩
section RW
variable {d M pc nx a : Nat} {v x y : Int} {ls st : List XV} {H : XH} {Q : Option XV → XH → Prop}
theorem RZ.step {i : XI} {pc' : Nat} {ls' st' : List XV} {H' : XH} (h : zA M pc = i) (hs : ∀ (C : XC) (k : XK), zStep i C k d ls st H = k pc' ls' st' H') (k : RZ d M pc' ls' st' H' Q) : RZ d M pc ls st H Q := by
  obtain ⟨n, r, H1, h1, h2⟩ := k
  refine ⟨n + 1, r, H1, ?_, h2⟩
  show zStep (zA M pc) _ _ d ls st H = _
  rw [h, hs]
  exact h1
theorem r_pushI  (h : zA M pc = (1, nx, 0, 0, v, [])) (k : RZ d M nx ls (vI v :: st) H Q) : RZ d M pc ls st H Q := RZ.step h (fun _ _ => rfl) k
theorem r_pushL  (h : zA M pc = (2, nx, 0, 0, v, [])) (k : RZ d M nx ls (vL v :: st) H Q) : RZ d M pc ls st H Q := RZ.step h (fun _ _ => rfl) k
theorem r_loadI  (h : zA M pc = (3, nx, a, 0, 0, [])) (hl : ls[a]? = some (vI x)) (k : RZ d M nx ls (vI x :: st) H Q) : RZ d M pc ls st H Q := RZ.step h (fun C k => by show oLoadI nx a 0 0 [] C k d ls st H = _; unfold oLoadI; rw [hl]) k
theorem r_loadL  (h : zA M pc = (5, nx, a, 0, 0, [])) (hl : ls[a]? = some (vL x)) (k : RZ d M nx ls (vL x :: st) H Q) : RZ d M pc ls st H Q := RZ.step h (fun C k => by show oLoadL nx a 0 0 [] C k d ls st H = _; unfold oLoadL; rw [hl]) k
theorem r_loadA {n : Nat} (h : zA M pc = (4, nx, a, 0, 0, [])) (hl : ls[a]? = some (vR n)) (hn : n ≠ 0) (k : RZ d M nx ls (vR n :: st) H Q) : RZ d M pc ls st H Q := RZ.step h (fun C k => by show oLoadA nx a 0 0 [] C k d ls st H = _; unfold oLoadA; rw [hl]; show (if n = 0 then none else _) = _; rw [if_neg hn]) k
theorem r_storeI_0 {q : XV} {t : List XV} (h : zA M pc = (6, nx, 0, 0, 0, [])) (k : RZ d M nx (vI x :: t) st H Q) : RZ d M pc (q :: t) (vI x :: st) H Q := RZ.step h (fun C k => by show (if 0 < (q :: t).length ∧ prevLong (q :: t) 0 = false then k nx ((q :: t).set 0 (vI x)) st H else none) = _; rw [if_pos (show 0 < (q :: t).length ∧ prevLong (q :: t) 0 = false from ⟨by simp, rfl⟩)]; rfl) k
theorem r_storeA_0 {q : XV} {t : List XV} {n : Nat} (h : zA M pc = (7, nx, 0, 0, 0, [])) (hn : n ≠ 0) (k : RZ d M nx (vR n :: t) st H Q) : RZ d M pc (q :: t) (vR n :: st) H Q := RZ.step h (fun C k => by show (if _ then _ else none) = _; rw [if_pos (show 0 < (q :: t).length ∧ prevLong (q :: t) 0 = false ∧ n ≠ 0 from ⟨by simp, rfl, hn⟩)]; rfl) k
theorem r_storeL_0 {q w : XV} {t : List XV} (h : zA M pc = (8, nx, 0, 0, 0, [])) (k : RZ d M nx (vL x :: vR 0 :: t) st H Q) : RZ d M pc (q :: w :: t) (vL x :: st) H Q := RZ.step h (fun C k => by show (if 0 + 1 < (q :: w :: t).length ∧ prevLong (q :: w :: t) 0 = false then k nx (((q :: w :: t).set 0 (vL x)).set (0 + 1) (vR 0)) st H else none) = _; rw [if_pos (show 0 + 1 < (q :: w :: t).length ∧ prevLong (q :: w :: t) 0 = false from ⟨by simp, rfl⟩)]; rfl) k
theorem r_iinc_0 {t : List XV} (h : zA M pc = (9, nx, 0, 0, v, [])) (hr : -2147483648 ≤ x + v ∧ x + v < 2147483648) (k : RZ d M nx (vI (x + v) :: t) st H Q) : RZ d M pc (vI x :: t) st H Q := RZ.step h (fun C k => by show (if prevLong (vI x :: t) 0 = false then k nx ((vI x :: t).set 0 (vI (w32 (x + v)))) st H else none) = _; rw [if_pos (show prevLong (vI x :: t) 0 = false from rfl), w32_eq hr]; rfl) k
theorem r_storeI_1 {a0 q : XV} {t : List XV} (h : zA M pc = (6, nx, 1, 0, 0, [])) (hp : isLong (some a0) = false) (k : RZ d M nx (a0 :: vI x :: t) st H Q) : RZ d M pc (a0 :: q :: t) (vI x :: st) H Q := RZ.step h (fun C k => by show (if 1 < (a0 :: q :: t).length ∧ prevLong (a0 :: q :: t) 1 = false then k nx ((a0 :: q :: t).set 1 (vI x)) st H else none) = _; rw [if_pos (show 1 < (a0 :: q :: t).length ∧ prevLong (a0 :: q :: t) 1 = false from ⟨by simp, hp⟩)]; rfl) k
theorem r_storeA_1 {a0 q : XV} {t : List XV} {n : Nat} (h : zA M pc = (7, nx, 1, 0, 0, [])) (hp : isLong (some a0) = false) (hn : n ≠ 0) (k : RZ d M nx (a0 :: vR n :: t) st H Q) : RZ d M pc (a0 :: q :: t) (vR n :: st) H Q := RZ.step h (fun C k => by show (if _ then _ else none) = _; rw [if_pos (show 1 < (a0 :: q :: t).length ∧ prevLong (a0 :: q :: t) 1 = false ∧ n ≠ 0 from ⟨by simp, hp, hn⟩)]; rfl) k
theorem r_storeL_1 {a0 q w : XV} {t : List XV} (h : zA M pc = (8, nx, 1, 0, 0, [])) (hp : isLong (some a0) = false) (k : RZ d M nx (a0 :: vL x :: vR 0 :: t) st H Q) : RZ d M pc (a0 :: q :: w :: t) (vL x :: st) H Q := RZ.step h (fun C k => by show (if 1 + 1 < (a0 :: q :: w :: t).length ∧ prevLong (a0 :: q :: w :: t) 1 = false then k nx (((a0 :: q :: w :: t).set 1 (vL x)).set (1 + 1) (vR 0)) st H else none) = _; rw [if_pos (show 1 + 1 < (a0 :: q :: w :: t).length ∧ prevLong (a0 :: q :: w :: t) 1 = false from ⟨by simp, hp⟩)]; rfl) k
theorem r_iinc_1 {a0 : XV} {t : List XV} (h : zA M pc = (9, nx, 1, 0, v, [])) (hp : isLong (some a0) = false) (hr : -2147483648 ≤ x + v ∧ x + v < 2147483648) (k : RZ d M nx (a0 :: vI (x + v) :: t) st H Q) : RZ d M pc (a0 :: vI x :: t) st H Q := RZ.step h (fun C k => by show (if prevLong (a0 :: vI x :: t) 1 = false then k nx ((a0 :: vI x :: t).set 1 (vI (w32 (x + v)))) st H else none) = _; rw [if_pos (show prevLong (a0 :: vI x :: t) 1 = false from hp), w32_eq hr]; rfl) k
theorem r_storeI_2 {a0 a1 q : XV} {t : List XV} (h : zA M pc = (6, nx, 2, 0, 0, [])) (hp : isLong (some a1) = false) (k : RZ d M nx (a0 :: a1 :: vI x :: t) st H Q) : RZ d M pc (a0 :: a1 :: q :: t) (vI x :: st) H Q := RZ.step h (fun C k => by show (if 2 < (a0 :: a1 :: q :: t).length ∧ prevLong (a0 :: a1 :: q :: t) 2 = false then k nx ((a0 :: a1 :: q :: t).set 2 (vI x)) st H else none) = _; rw [if_pos (show 2 < (a0 :: a1 :: q :: t).length ∧ prevLong (a0 :: a1 :: q :: t) 2 = false from ⟨by simp, hp⟩)]; rfl) k
theorem r_storeA_2 {a0 a1 q : XV} {t : List XV} {n : Nat} (h : zA M pc = (7, nx, 2, 0, 0, [])) (hp : isLong (some a1) = false) (hn : n ≠ 0) (k : RZ d M nx (a0 :: a1 :: vR n :: t) st H Q) : RZ d M pc (a0 :: a1 :: q :: t) (vR n :: st) H Q := RZ.step h (fun C k => by show (if _ then _ else none) = _; rw [if_pos (show 2 < (a0 :: a1 :: q :: t).length ∧ prevLong (a0 :: a1 :: q :: t) 2 = false ∧ n ≠ 0 from ⟨by simp, hp, hn⟩)]; rfl) k
theorem r_storeL_2 {a0 a1 q w : XV} {t : List XV} (h : zA M pc = (8, nx, 2, 0, 0, [])) (hp : isLong (some a1) = false) (k : RZ d M nx (a0 :: a1 :: vL x :: vR 0 :: t) st H Q) : RZ d M pc (a0 :: a1 :: q :: w :: t) (vL x :: st) H Q := RZ.step h (fun C k => by show (if 2 + 1 < (a0 :: a1 :: q :: w :: t).length ∧ prevLong (a0 :: a1 :: q :: w :: t) 2 = false then k nx (((a0 :: a1 :: q :: w :: t).set 2 (vL x)).set (2 + 1) (vR 0)) st H else none) = _; rw [if_pos (show 2 + 1 < (a0 :: a1 :: q :: w :: t).length ∧ prevLong (a0 :: a1 :: q :: w :: t) 2 = false from ⟨by simp, hp⟩)]; rfl) k
theorem r_iinc_2 {a0 a1 : XV} {t : List XV} (h : zA M pc = (9, nx, 2, 0, v, [])) (hp : isLong (some a1) = false) (hr : -2147483648 ≤ x + v ∧ x + v < 2147483648) (k : RZ d M nx (a0 :: a1 :: vI (x + v) :: t) st H Q) : RZ d M pc (a0 :: a1 :: vI x :: t) st H Q := RZ.step h (fun C k => by show (if prevLong (a0 :: a1 :: vI x :: t) 2 = false then k nx ((a0 :: a1 :: vI x :: t).set 2 (vI (w32 (x + v)))) st H else none) = _; rw [if_pos (show prevLong (a0 :: a1 :: vI x :: t) 2 = false from hp), w32_eq hr]; rfl) k
theorem r_storeI_3 {a0 a1 a2 q : XV} {t : List XV} (h : zA M pc = (6, nx, 3, 0, 0, [])) (hp : isLong (some a2) = false) (k : RZ d M nx (a0 :: a1 :: a2 :: vI x :: t) st H Q) : RZ d M pc (a0 :: a1 :: a2 :: q :: t) (vI x :: st) H Q := RZ.step h (fun C k => by show (if 3 < (a0 :: a1 :: a2 :: q :: t).length ∧ prevLong (a0 :: a1 :: a2 :: q :: t) 3 = false then k nx ((a0 :: a1 :: a2 :: q :: t).set 3 (vI x)) st H else none) = _; rw [if_pos (show 3 < (a0 :: a1 :: a2 :: q :: t).length ∧ prevLong (a0 :: a1 :: a2 :: q :: t) 3 = false from ⟨by simp, hp⟩)]; rfl) k
theorem r_storeA_3 {a0 a1 a2 q : XV} {t : List XV} {n : Nat} (h : zA M pc = (7, nx, 3, 0, 0, [])) (hp : isLong (some a2) = false) (hn : n ≠ 0) (k : RZ d M nx (a0 :: a1 :: a2 :: vR n :: t) st H Q) : RZ d M pc (a0 :: a1 :: a2 :: q :: t) (vR n :: st) H Q := RZ.step h (fun C k => by show (if _ then _ else none) = _; rw [if_pos (show 3 < (a0 :: a1 :: a2 :: q :: t).length ∧ prevLong (a0 :: a1 :: a2 :: q :: t) 3 = false ∧ n ≠ 0 from ⟨by simp, hp, hn⟩)]; rfl) k
theorem r_storeL_3 {a0 a1 a2 q w : XV} {t : List XV} (h : zA M pc = (8, nx, 3, 0, 0, [])) (hp : isLong (some a2) = false) (k : RZ d M nx (a0 :: a1 :: a2 :: vL x :: vR 0 :: t) st H Q) : RZ d M pc (a0 :: a1 :: a2 :: q :: w :: t) (vL x :: st) H Q := RZ.step h (fun C k => by show (if 3 + 1 < (a0 :: a1 :: a2 :: q :: w :: t).length ∧ prevLong (a0 :: a1 :: a2 :: q :: w :: t) 3 = false then k nx (((a0 :: a1 :: a2 :: q :: w :: t).set 3 (vL x)).set (3 + 1) (vR 0)) st H else none) = _; rw [if_pos (show 3 + 1 < (a0 :: a1 :: a2 :: q :: w :: t).length ∧ prevLong (a0 :: a1 :: a2 :: q :: w :: t) 3 = false from ⟨by simp, hp⟩)]; rfl) k
theorem r_iinc_3 {a0 a1 a2 : XV} {t : List XV} (h : zA M pc = (9, nx, 3, 0, v, [])) (hp : isLong (some a2) = false) (hr : -2147483648 ≤ x + v ∧ x + v < 2147483648) (k : RZ d M nx (a0 :: a1 :: a2 :: vI (x + v) :: t) st H Q) : RZ d M pc (a0 :: a1 :: a2 :: vI x :: t) st H Q := RZ.step h (fun C k => by show (if prevLong (a0 :: a1 :: a2 :: vI x :: t) 3 = false then k nx ((a0 :: a1 :: a2 :: vI x :: t).set 3 (vI (w32 (x + v)))) st H else none) = _; rw [if_pos (show prevLong (a0 :: a1 :: a2 :: vI x :: t) 3 = false from hp), w32_eq hr]; rfl) k
theorem r_storeI_4 {a0 a1 a2 a3 q : XV} {t : List XV} (h : zA M pc = (6, nx, 4, 0, 0, [])) (hp : isLong (some a3) = false) (k : RZ d M nx (a0 :: a1 :: a2 :: a3 :: vI x :: t) st H Q) : RZ d M pc (a0 :: a1 :: a2 :: a3 :: q :: t) (vI x :: st) H Q := RZ.step h (fun C k => by show (if 4 < (a0 :: a1 :: a2 :: a3 :: q :: t).length ∧ prevLong (a0 :: a1 :: a2 :: a3 :: q :: t) 4 = false then k nx ((a0 :: a1 :: a2 :: a3 :: q :: t).set 4 (vI x)) st H else none) = _; rw [if_pos (show 4 < (a0 :: a1 :: a2 :: a3 :: q :: t).length ∧ prevLong (a0 :: a1 :: a2 :: a3 :: q :: t) 4 = false from ⟨by simp, hp⟩)]; rfl) k
theorem r_storeA_4 {a0 a1 a2 a3 q : XV} {t : List XV} {n : Nat} (h : zA M pc = (7, nx, 4, 0, 0, [])) (hp : isLong (some a3) = false) (hn : n ≠ 0) (k : RZ d M nx (a0 :: a1 :: a2 :: a3 :: vR n :: t) st H Q) : RZ d M pc (a0 :: a1 :: a2 :: a3 :: q :: t) (vR n :: st) H Q := RZ.step h (fun C k => by show (if _ then _ else none) = _; rw [if_pos (show 4 < (a0 :: a1 :: a2 :: a3 :: q :: t).length ∧ prevLong (a0 :: a1 :: a2 :: a3 :: q :: t) 4 = false ∧ n ≠ 0 from ⟨by simp, hp, hn⟩)]; rfl) k
theorem r_storeL_4 {a0 a1 a2 a3 q w : XV} {t : List XV} (h : zA M pc = (8, nx, 4, 0, 0, [])) (hp : isLong (some a3) = false) (k : RZ d M nx (a0 :: a1 :: a2 :: a3 :: vL x :: vR 0 :: t) st H Q) : RZ d M pc (a0 :: a1 :: a2 :: a3 :: q :: w :: t) (vL x :: st) H Q := RZ.step h (fun C k => by show (if 4 + 1 < (a0 :: a1 :: a2 :: a3 :: q :: w :: t).length ∧ prevLong (a0 :: a1 :: a2 :: a3 :: q :: w :: t) 4 = false then k nx (((a0 :: a1 :: a2 :: a3 :: q :: w :: t).set 4 (vL x)).set (4 + 1) (vR 0)) st H else none) = _; rw [if_pos (show 4 + 1 < (a0 :: a1 :: a2 :: a3 :: q :: w :: t).length ∧ prevLong (a0 :: a1 :: a2 :: a3 :: q :: w :: t) 4 = false from ⟨by simp, hp⟩)]; rfl) k
theorem r_iinc_4 {a0 a1 a2 a3 : XV} {t : List XV} (h : zA M pc = (9, nx, 4, 0, v, [])) (hp : isLong (some a3) = false) (hr : -2147483648 ≤ x + v ∧ x + v < 2147483648) (k : RZ d M nx (a0 :: a1 :: a2 :: a3 :: vI (x + v) :: t) st H Q) : RZ d M pc (a0 :: a1 :: a2 :: a3 :: vI x :: t) st H Q := RZ.step h (fun C k => by show (if prevLong (a0 :: a1 :: a2 :: a3 :: vI x :: t) 4 = false then k nx ((a0 :: a1 :: a2 :: a3 :: vI x :: t).set 4 (vI (w32 (x + v)))) st H else none) = _; rw [if_pos (show prevLong (a0 :: a1 :: a2 :: a3 :: vI x :: t) 4 = false from hp), w32_eq hr]; rfl) k
theorem r_storeI_5 {a0 a1 a2 a3 a4 q : XV} {t : List XV} (h : zA M pc = (6, nx, 5, 0, 0, [])) (hp : isLong (some a4) = false) (k : RZ d M nx (a0 :: a1 :: a2 :: a3 :: a4 :: vI x :: t) st H Q) : RZ d M pc (a0 :: a1 :: a2 :: a3 :: a4 :: q :: t) (vI x :: st) H Q := RZ.step h (fun C k => by show (if 5 < (a0 :: a1 :: a2 :: a3 :: a4 :: q :: t).length ∧ prevLong (a0 :: a1 :: a2 :: a3 :: a4 :: q :: t) 5 = false then k nx ((a0 :: a1 :: a2 :: a3 :: a4 :: q :: t).set 5 (vI x)) st H else none) = _; rw [if_pos (show 5 < (a0 :: a1 :: a2 :: a3 :: a4 :: q :: t).length ∧ prevLong (a0 :: a1 :: a2 :: a3 :: a4 :: q :: t) 5 = false from ⟨by simp, hp⟩)]; rfl) k
theorem r_storeA_5 {a0 a1 a2 a3 a4 q : XV} {t : List XV} {n : Nat} (h : zA M pc = (7, nx, 5, 0, 0, [])) (hp : isLong (some a4) = false) (hn : n ≠ 0) (k : RZ d M nx (a0 :: a1 :: a2 :: a3 :: a4 :: vR n :: t) st H Q) : RZ d M pc (a0 :: a1 :: a2 :: a3 :: a4 :: q :: t) (vR n :: st) H Q := RZ.step h (fun C k => by show (if _ then _ else none) = _; rw [if_pos (show 5 < (a0 :: a1 :: a2 :: a3 :: a4 :: q :: t).length ∧ prevLong (a0 :: a1 :: a2 :: a3 :: a4 :: q :: t) 5 = false ∧ n ≠ 0 from ⟨by simp, hp, hn⟩)]; rfl) k
theorem r_storeL_5 {a0 a1 a2 a3 a4 q w : XV} {t : List XV} (h : zA M pc = (8, nx, 5, 0, 0, [])) (hp : isLong (some a4) = false) (k : RZ d M nx (a0 :: a1 :: a2 :: a3 :: a4 :: vL x :: vR 0 :: t) st H Q) : RZ d M pc (a0 :: a1 :: a2 :: a3 :: a4 :: q :: w :: t) (vL x :: st) H Q := RZ.step h (fun C k => by show (if 5 + 1 < (a0 :: a1 :: a2 :: a3 :: a4 :: q :: w :: t).length ∧ prevLong (a0 :: a1 :: a2 :: a3 :: a4 :: q :: w :: t) 5 = false then k nx (((a0 :: a1 :: a2 :: a3 :: a4 :: q :: w :: t).set 5 (vL x)).set (5 + 1) (vR 0)) st H else none) = _; rw [if_pos (show 5 + 1 < (a0 :: a1 :: a2 :: a3 :: a4 :: q :: w :: t).length ∧ prevLong (a0 :: a1 :: a2 :: a3 :: a4 :: q :: w :: t) 5 = false from ⟨by simp, hp⟩)]; rfl) k
theorem r_iinc_5 {a0 a1 a2 a3 a4 : XV} {t : List XV} (h : zA M pc = (9, nx, 5, 0, v, [])) (hp : isLong (some a4) = false) (hr : -2147483648 ≤ x + v ∧ x + v < 2147483648) (k : RZ d M nx (a0 :: a1 :: a2 :: a3 :: a4 :: vI (x + v) :: t) st H Q) : RZ d M pc (a0 :: a1 :: a2 :: a3 :: a4 :: vI x :: t) st H Q := RZ.step h (fun C k => by show (if prevLong (a0 :: a1 :: a2 :: a3 :: a4 :: vI x :: t) 5 = false then k nx ((a0 :: a1 :: a2 :: a3 :: a4 :: vI x :: t).set 5 (vI (w32 (x + v)))) st H else none) = _; rw [if_pos (show prevLong (a0 :: a1 :: a2 :: a3 :: a4 :: vI x :: t) 5 = false from hp), w32_eq hr]; rfl) k
theorem r_storeI_6 {a0 a1 a2 a3 a4 a5 q : XV} {t : List XV} (h : zA M pc = (6, nx, 6, 0, 0, [])) (hp : isLong (some a5) = false) (k : RZ d M nx (a0 :: a1 :: a2 :: a3 :: a4 :: a5 :: vI x :: t) st H Q) : RZ d M pc (a0 :: a1 :: a2 :: a3 :: a4 :: a5 :: q :: t) (vI x :: st) H Q := RZ.step h (fun C k => by show (if 6 < (a0 :: a1 :: a2 :: a3 :: a4 :: a5 :: q :: t).length ∧ prevLong (a0 :: a1 :: a2 :: a3 :: a4 :: a5 :: q :: t) 6 = false then k nx ((a0 :: a1 :: a2 :: a3 :: a4 :: a5 :: q :: t).set 6 (vI x)) st H else none) = _; rw [if_pos (show 6 < (a0 :: a1 :: a2 :: a3 :: a4 :: a5 :: q :: t).length ∧ prevLong (a0 :: a1 :: a2 :: a3 :: a4 :: a5 :: q :: t) 6 = false from ⟨by simp, hp⟩)]; rfl) k
theorem r_storeA_6 {a0 a1 a2 a3 a4 a5 q : XV} {t : List XV} {n : Nat} (h : zA M pc = (7, nx, 6, 0, 0, [])) (hp : isLong (some a5) = false) (hn : n ≠ 0) (k : RZ d M nx (a0 :: a1 :: a2 :: a3 :: a4 :: a5 :: vR n :: t) st H Q) : RZ d M pc (a0 :: a1 :: a2 :: a3 :: a4 :: a5 :: q :: t) (vR n :: st) H Q := RZ.step h (fun C k => by show (if _ then _ else none) = _; rw [if_pos (show 6 < (a0 :: a1 :: a2 :: a3 :: a4 :: a5 :: q :: t).length ∧ prevLong (a0 :: a1 :: a2 :: a3 :: a4 :: a5 :: q :: t) 6 = false ∧ n ≠ 0 from ⟨by simp, hp, hn⟩)]; rfl) k
theorem r_storeL_6 {a0 a1 a2 a3 a4 a5 q w : XV} {t : List XV} (h : zA M pc = (8, nx, 6, 0, 0, [])) (hp : isLong (some a5) = false) (k : RZ d M nx (a0 :: a1 :: a2 :: a3 :: a4 :: a5 :: vL x :: vR 0 :: t) st H Q) : RZ d M pc (a0 :: a1 :: a2 :: a3 :: a4 :: a5 :: q :: w :: t) (vL x :: st) H Q := RZ.step h (fun C k => by show (if 6 + 1 < (a0 :: a1 :: a2 :: a3 :: a4 :: a5 :: q :: w :: t).length ∧ prevLong (a0 :: a1 :: a2 :: a3 :: a4 :: a5 :: q :: w :: t) 6 = false then k nx (((a0 :: a1 :: a2 :: a3 :: a4 :: a5 :: q :: w :: t).set 6 (vL x)).set (6 + 1) (vR 0)) st H else none) = _; rw [if_pos (show 6 + 1 < (a0 :: a1 :: a2 :: a3 :: a4 :: a5 :: q :: w :: t).length ∧ prevLong (a0 :: a1 :: a2 :: a3 :: a4 :: a5 :: q :: w :: t) 6 = false from ⟨by simp, hp⟩)]; rfl) k
theorem r_iinc_6 {a0 a1 a2 a3 a4 a5 : XV} {t : List XV} (h : zA M pc = (9, nx, 6, 0, v, [])) (hp : isLong (some a5) = false) (hr : -2147483648 ≤ x + v ∧ x + v < 2147483648) (k : RZ d M nx (a0 :: a1 :: a2 :: a3 :: a4 :: a5 :: vI (x + v) :: t) st H Q) : RZ d M pc (a0 :: a1 :: a2 :: a3 :: a4 :: a5 :: vI x :: t) st H Q := RZ.step h (fun C k => by show (if prevLong (a0 :: a1 :: a2 :: a3 :: a4 :: a5 :: vI x :: t) 6 = false then k nx ((a0 :: a1 :: a2 :: a3 :: a4 :: a5 :: vI x :: t).set 6 (vI (w32 (x + v)))) st H else none) = _; rw [if_pos (show prevLong (a0 :: a1 :: a2 :: a3 :: a4 :: a5 :: vI x :: t) 6 = false from hp), w32_eq hr]; rfl) k
theorem r_storeI_7 {a0 a1 a2 a3 a4 a5 a6 q : XV} {t : List XV} (h : zA M pc = (6, nx, 7, 0, 0, [])) (hp : isLong (some a6) = false) (k : RZ d M nx (a0 :: a1 :: a2 :: a3 :: a4 :: a5 :: a6 :: vI x :: t) st H Q) : RZ d M pc (a0 :: a1 :: a2 :: a3 :: a4 :: a5 :: a6 :: q :: t) (vI x :: st) H Q := RZ.step h (fun C k => by show (if 7 < (a0 :: a1 :: a2 :: a3 :: a4 :: a5 :: a6 :: q :: t).length ∧ prevLong (a0 :: a1 :: a2 :: a3 :: a4 :: a5 :: a6 :: q :: t) 7 = false then k nx ((a0 :: a1 :: a2 :: a3 :: a4 :: a5 :: a6 :: q :: t).set 7 (vI x)) st H else none) = _; rw [if_pos (show 7 < (a0 :: a1 :: a2 :: a3 :: a4 :: a5 :: a6 :: q :: t).length ∧ prevLong (a0 :: a1 :: a2 :: a3 :: a4 :: a5 :: a6 :: q :: t) 7 = false from ⟨by simp, hp⟩)]; rfl) k
theorem r_storeA_7 {a0 a1 a2 a3 a4 a5 a6 q : XV} {t : List XV} {n : Nat} (h : zA M pc = (7, nx, 7, 0, 0, [])) (hp : isLong (some a6) = false) (hn : n ≠ 0) (k : RZ d M nx (a0 :: a1 :: a2 :: a3 :: a4 :: a5 :: a6 :: vR n :: t) st H Q) : RZ d M pc (a0 :: a1 :: a2 :: a3 :: a4 :: a5 :: a6 :: q :: t) (vR n :: st) H Q := RZ.step h (fun C k => by show (if _ then _ else none) = _; rw [if_pos (show 7 < (a0 :: a1 :: a2 :: a3 :: a4 :: a5 :: a6 :: q :: t).length ∧ prevLong (a0 :: a1 :: a2 :: a3 :: a4 :: a5 :: a6 :: q :: t) 7 = false ∧ n ≠ 0 from ⟨by simp, hp, hn⟩)]; rfl) k
theorem r_storeL_7 {a0 a1 a2 a3 a4 a5 a6 q w : XV} {t : List XV} (h : zA M pc = (8, nx, 7, 0, 0, [])) (hp : isLong (some a6) = false) (k : RZ d M nx (a0 :: a1 :: a2 :: a3 :: a4 :: a5 :: a6 :: vL x :: vR 0 :: t) st H Q) : RZ d M pc (a0 :: a1 :: a2 :: a3 :: a4 :: a5 :: a6 :: q :: w :: t) (vL x :: st) H Q := RZ.step h (fun C k => by show (if 7 + 1 < (a0 :: a1 :: a2 :: a3 :: a4 :: a5 :: a6 :: q :: w :: t).length ∧ prevLong (a0 :: a1 :: a2 :: a3 :: a4 :: a5 :: a6 :: q :: w :: t) 7 = false then k nx (((a0 :: a1 :: a2 :: a3 :: a4 :: a5 :: a6 :: q :: w :: t).set 7 (vL x)).set (7 + 1) (vR 0)) st H else none) = _; rw [if_pos (show 7 + 1 < (a0 :: a1 :: a2 :: a3 :: a4 :: a5 :: a6 :: q :: w :: t).length ∧ prevLong (a0 :: a1 :: a2 :: a3 :: a4 :: a5 :: a6 :: q :: w :: t) 7 = false from ⟨by simp, hp⟩)]; rfl) k
theorem r_iinc_7 {a0 a1 a2 a3 a4 a5 a6 : XV} {t : List XV} (h : zA M pc = (9, nx, 7, 0, v, [])) (hp : isLong (some a6) = false) (hr : -2147483648 ≤ x + v ∧ x + v < 2147483648) (k : RZ d M nx (a0 :: a1 :: a2 :: a3 :: a4 :: a5 :: a6 :: vI (x + v) :: t) st H Q) : RZ d M pc (a0 :: a1 :: a2 :: a3 :: a4 :: a5 :: a6 :: vI x :: t) st H Q := RZ.step h (fun C k => by show (if prevLong (a0 :: a1 :: a2 :: a3 :: a4 :: a5 :: a6 :: vI x :: t) 7 = false then k nx ((a0 :: a1 :: a2 :: a3 :: a4 :: a5 :: a6 :: vI x :: t).set 7 (vI (w32 (x + v)))) st H else none) = _; rw [if_pos (show prevLong (a0 :: a1 :: a2 :: a3 :: a4 :: a5 :: a6 :: vI x :: t) 7 = false from hp), w32_eq hr]; rfl) k
theorem r_storeI_8 {a0 a1 a2 a3 a4 a5 a6 a7 q : XV} {t : List XV} (h : zA M pc = (6, nx, 8, 0, 0, [])) (hp : isLong (some a7) = false) (k : RZ d M nx (a0 :: a1 :: a2 :: a3 :: a4 :: a5 :: a6 :: a7 :: vI x :: t) st H Q) : RZ d M pc (a0 :: a1 :: a2 :: a3 :: a4 :: a5 :: a6 :: a7 :: q :: t) (vI x :: st) H Q := RZ.step h (fun C k => by show (if 8 < (a0 :: a1 :: a2 :: a3 :: a4 :: a5 :: a6 :: a7 :: q :: t).length ∧ prevLong (a0 :: a1 :: a2 :: a3 :: a4 :: a5 :: a6 :: a7 :: q :: t) 8 = false then k nx ((a0 :: a1 :: a2 :: a3 :: a4 :: a5 :: a6 :: a7 :: q :: t).set 8 (vI x)) st H else none) = _; rw [if_pos (show 8 < (a0 :: a1 :: a2 :: a3 :: a4 :: a5 :: a6 :: a7 :: q :: t).length ∧ prevLong (a0 :: a1 :: a2 :: a3 :: a4 :: a5 :: a6 :: a7 :: q :: t) 8 = false from ⟨by simp, hp⟩)]; rfl) k
theorem r_storeA_8 {a0 a1 a2 a3 a4 a5 a6 a7 q : XV} {t : List XV} {n : Nat} (h : zA M pc = (7, nx, 8, 0, 0, [])) (hp : isLong (some a7) = false) (hn : n ≠ 0) (k : RZ d M nx (a0 :: a1 :: a2 :: a3 :: a4 :: a5 :: a6 :: a7 :: vR n :: t) st H Q) : RZ d M pc (a0 :: a1 :: a2 :: a3 :: a4 :: a5 :: a6 :: a7 :: q :: t) (vR n :: st) H Q := RZ.step h (fun C k => by show (if _ then _ else none) = _; rw [if_pos (show 8 < (a0 :: a1 :: a2 :: a3 :: a4 :: a5 :: a6 :: a7 :: q :: t).length ∧ prevLong (a0 :: a1 :: a2 :: a3 :: a4 :: a5 :: a6 :: a7 :: q :: t) 8 = false ∧ n ≠ 0 from ⟨by simp, hp, hn⟩)]; rfl) k
theorem r_storeL_8 {a0 a1 a2 a3 a4 a5 a6 a7 q w : XV} {t : List XV} (h : zA M pc = (8, nx, 8, 0, 0, [])) (hp : isLong (some a7) = false) (k : RZ d M nx (a0 :: a1 :: a2 :: a3 :: a4 :: a5 :: a6 :: a7 :: vL x :: vR 0 :: t) st H Q) : RZ d M pc (a0 :: a1 :: a2 :: a3 :: a4 :: a5 :: a6 :: a7 :: q :: w :: t) (vL x :: st) H Q := RZ.step h (fun C k => by show (if 8 + 1 < (a0 :: a1 :: a2 :: a3 :: a4 :: a5 :: a6 :: a7 :: q :: w :: t).length ∧ prevLong (a0 :: a1 :: a2 :: a3 :: a4 :: a5 :: a6 :: a7 :: q :: w :: t) 8 = false then k nx (((a0 :: a1 :: a2 :: a3 :: a4 :: a5 :: a6 :: a7 :: q :: w :: t).set 8 (vL x)).set (8 + 1) (vR 0)) st H else none) = _; rw [if_pos (show 8 + 1 < (a0 :: a1 :: a2 :: a3 :: a4 :: a5 :: a6 :: a7 :: q :: w :: t).length ∧ prevLong (a0 :: a1 :: a2 :: a3 :: a4 :: a5 :: a6 :: a7 :: q :: w :: t) 8 = false from ⟨by simp, hp⟩)]; rfl) k
theorem r_iinc_8 {a0 a1 a2 a3 a4 a5 a6 a7 : XV} {t : List XV} (h : zA M pc = (9, nx, 8, 0, v, [])) (hp : isLong (some a7) = false) (hr : -2147483648 ≤ x + v ∧ x + v < 2147483648) (k : RZ d M nx (a0 :: a1 :: a2 :: a3 :: a4 :: a5 :: a6 :: a7 :: vI (x + v) :: t) st H Q) : RZ d M pc (a0 :: a1 :: a2 :: a3 :: a4 :: a5 :: a6 :: a7 :: vI x :: t) st H Q := RZ.step h (fun C k => by show (if prevLong (a0 :: a1 :: a2 :: a3 :: a4 :: a5 :: a6 :: a7 :: vI x :: t) 8 = false then k nx ((a0 :: a1 :: a2 :: a3 :: a4 :: a5 :: a6 :: a7 :: vI x :: t).set 8 (vI (w32 (x + v)))) st H else none) = _; rw [if_pos (show prevLong (a0 :: a1 :: a2 :: a3 :: a4 :: a5 :: a6 :: a7 :: vI x :: t) 8 = false from hp), w32_eq hr]; rfl) k
theorem r_storeI_9 {a0 a1 a2 a3 a4 a5 a6 a7 a8 q : XV} {t : List XV} (h : zA M pc = (6, nx, 9, 0, 0, [])) (hp : isLong (some a8) = false) (k : RZ d M nx (a0 :: a1 :: a2 :: a3 :: a4 :: a5 :: a6 :: a7 :: a8 :: vI x :: t) st H Q) : RZ d M pc (a0 :: a1 :: a2 :: a3 :: a4 :: a5 :: a6 :: a7 :: a8 :: q :: t) (vI x :: st) H Q := RZ.step h (fun C k => by show (if 9 < (a0 :: a1 :: a2 :: a3 :: a4 :: a5 :: a6 :: a7 :: a8 :: q :: t).length ∧ prevLong (a0 :: a1 :: a2 :: a3 :: a4 :: a5 :: a6 :: a7 :: a8 :: q :: t) 9 = false then k nx ((a0 :: a1 :: a2 :: a3 :: a4 :: a5 :: a6 :: a7 :: a8 :: q :: t).set 9 (vI x)) st H else none) = _; rw [if_pos (show 9 < (a0 :: a1 :: a2 :: a3 :: a4 :: a5 :: a6 :: a7 :: a8 :: q :: t).length ∧ prevLong (a0 :: a1 :: a2 :: a3 :: a4 :: a5 :: a6 :: a7 :: a8 :: q :: t) 9 = false from ⟨by simp, hp⟩)]; rfl) k
theorem r_storeA_9 {a0 a1 a2 a3 a4 a5 a6 a7 a8 q : XV} {t : List XV} {n : Nat} (h : zA M pc = (7, nx, 9, 0, 0, [])) (hp : isLong (some a8) = false) (hn : n ≠ 0) (k : RZ d M nx (a0 :: a1 :: a2 :: a3 :: a4 :: a5 :: a6 :: a7 :: a8 :: vR n :: t) st H Q) : RZ d M pc (a0 :: a1 :: a2 :: a3 :: a4 :: a5 :: a6 :: a7 :: a8 :: q :: t) (vR n :: st) H Q := RZ.step h (fun C k => by show (if _ then _ else none) = _; rw [if_pos (show 9 < (a0 :: a1 :: a2 :: a3 :: a4 :: a5 :: a6 :: a7 :: a8 :: q :: t).length ∧ prevLong (a0 :: a1 :: a2 :: a3 :: a4 :: a5 :: a6 :: a7 :: a8 :: q :: t) 9 = false ∧ n ≠ 0 from ⟨by simp, hp, hn⟩)]; rfl) k
theorem r_storeL_9 {a0 a1 a2 a3 a4 a5 a6 a7 a8 q w : XV} {t : List XV} (h : zA M pc = (8, nx, 9, 0, 0, [])) (hp : isLong (some a8) = false) (k : RZ d M nx (a0 :: a1 :: a2 :: a3 :: a4 :: a5 :: a6 :: a7 :: a8 :: vL x :: vR 0 :: t) st H Q) : RZ d M pc (a0 :: a1 :: a2 :: a3 :: a4 :: a5 :: a6 :: a7 :: a8 :: q :: w :: t) (vL x :: st) H Q := RZ.step h (fun C k => by show (if 9 + 1 < (a0 :: a1 :: a2 :: a3 :: a4 :: a5 :: a6 :: a7 :: a8 :: q :: w :: t).length ∧ prevLong (a0 :: a1 :: a2 :: a3 :: a4 :: a5 :: a6 :: a7 :: a8 :: q :: w :: t) 9 = false then k nx (((a0 :: a1 :: a2 :: a3 :: a4 :: a5 :: a6 :: a7 :: a8 :: q :: w :: t).set 9 (vL x)).set (9 + 1) (vR 0)) st H else none) = _; rw [if_pos (show 9 + 1 < (a0 :: a1 :: a2 :: a3 :: a4 :: a5 :: a6 :: a7 :: a8 :: q :: w :: t).length ∧ prevLong (a0 :: a1 :: a2 :: a3 :: a4 :: a5 :: a6 :: a7 :: a8 :: q :: w :: t) 9 = false from ⟨by simp, hp⟩)]; rfl) k
theorem r_iinc_9 {a0 a1 a2 a3 a4 a5 a6 a7 a8 : XV} {t : List XV} (h : zA M pc = (9, nx, 9, 0, v, [])) (hp : isLong (some a8) = false) (hr : -2147483648 ≤ x + v ∧ x + v < 2147483648) (k : RZ d M nx (a0 :: a1 :: a2 :: a3 :: a4 :: a5 :: a6 :: a7 :: a8 :: vI (x + v) :: t) st H Q) : RZ d M pc (a0 :: a1 :: a2 :: a3 :: a4 :: a5 :: a6 :: a7 :: a8 :: vI x :: t) st H Q := RZ.step h (fun C k => by show (if prevLong (a0 :: a1 :: a2 :: a3 :: a4 :: a5 :: a6 :: a7 :: a8 :: vI x :: t) 9 = false then k nx ((a0 :: a1 :: a2 :: a3 :: a4 :: a5 :: a6 :: a7 :: a8 :: vI x :: t).set 9 (vI (w32 (x + v)))) st H else none) = _; rw [if_pos (show prevLong (a0 :: a1 :: a2 :: a3 :: a4 :: a5 :: a6 :: a7 :: a8 :: vI x :: t) 9 = false from hp), w32_eq hr]; rfl) k
theorem r_storeI_10 {a0 a1 a2 a3 a4 a5 a6 a7 a8 a9 q : XV} {t : List XV} (h : zA M pc = (6, nx, 10, 0, 0, [])) (hp : isLong (some a9) = false) (k : RZ d M nx (a0 :: a1 :: a2 :: a3 :: a4 :: a5 :: a6 :: a7 :: a8 :: a9 :: vI x :: t) st H Q) : RZ d M pc (a0 :: a1 :: a2 :: a3 :: a4 :: a5 :: a6 :: a7 :: a8 :: a9 :: q :: t) (vI x :: st) H Q := RZ.step h (fun C k => by show (if 10 < (a0 :: a1 :: a2 :: a3 :: a4 :: a5 :: a6 :: a7 :: a8 :: a9 :: q :: t).length ∧ prevLong (a0 :: a1 :: a2 :: a3 :: a4 :: a5 :: a6 :: a7 :: a8 :: a9 :: q :: t) 10 = false then k nx ((a0 :: a1 :: a2 :: a3 :: a4 :: a5 :: a6 :: a7 :: a8 :: a9 :: q :: t).set 10 (vI x)) st H else none) = _; rw [if_pos (show 10 < (a0 :: a1 :: a2 :: a3 :: a4 :: a5 :: a6 :: a7 :: a8 :: a9 :: q :: t).length ∧ prevLong (a0 :: a1 :: a2 :: a3 :: a4 :: a5 :: a6 :: a7 :: a8 :: a9 :: q :: t) 10 = false from ⟨by simp, hp⟩)]; rfl) k
theorem r_storeA_10 {a0 a1 a2 a3 a4 a5 a6 a7 a8 a9 q : XV} {t : List XV} {n : Nat} (h : zA M pc = (7, nx, 10, 0, 0, [])) (hp : isLong (some a9) = false) (hn : n ≠ 0) (k : RZ d M nx (a0 :: a1 :: a2 :: a3 :: a4 :: a5 :: a6 :: a7 :: a8 :: a9 :: vR n :: t) st H Q) : RZ d M pc (a0 :: a1 :: a2 :: a3 :: a4 :: a5 :: a6 :: a7 :: a8 :: a9 :: q :: t) (vR n :: st) H Q := RZ.step h (fun C k => by show (if _ then _ else none) = _; rw [if_pos (show 10 < (a0 :: a1 :: a2 :: a3 :: a4 :: a5 :: a6 :: a7 :: a8 :: a9 :: q :: t).length ∧ prevLong (a0 :: a1 :: a2 :: a3 :: a4 :: a5 :: a6 :: a7 :: a8 :: a9 :: q :: t) 10 = false ∧ n ≠ 0 from ⟨by simp, hp, hn⟩)]; rfl) k
theorem r_storeL_10 {a0 a1 a2 a3 a4 a5 a6 a7 a8 a9 q w : XV} {t : List XV} (h : zA M pc = (8, nx, 10, 0, 0, [])) (hp : isLong (some a9) = false) (k : RZ d M nx (a0 :: a1 :: a2 :: a3 :: a4 :: a5 :: a6 :: a7 :: a8 :: a9 :: vL x :: vR 0 :: t) st H Q) : RZ d M pc (a0 :: a1 :: a2 :: a3 :: a4 :: a5 :: a6 :: a7 :: a8 :: a9 :: q :: w :: t) (vL x :: st) H Q := RZ.step h (fun C k => by show (if 10 + 1 < (a0 :: a1 :: a2 :: a3 :: a4 :: a5 :: a6 :: a7 :: a8 :: a9 :: q :: w :: t).length ∧ prevLong (a0 :: a1 :: a2 :: a3 :: a4 :: a5 :: a6 :: a7 :: a8 :: a9 :: q :: w :: t) 10 = false then k nx (((a0 :: a1 :: a2 :: a3 :: a4 :: a5 :: a6 :: a7 :: a8 :: a9 :: q :: w :: t).set 10 (vL x)).set (10 + 1) (vR 0)) st H else none) = _; rw [if_pos (show 10 + 1 < (a0 :: a1 :: a2 :: a3 :: a4 :: a5 :: a6 :: a7 :: a8 :: a9 :: q :: w :: t).length ∧ prevLong (a0 :: a1 :: a2 :: a3 :: a4 :: a5 :: a6 :: a7 :: a8 :: a9 :: q :: w :: t) 10 = false from ⟨by simp, hp⟩)]; rfl) k
theorem r_iinc_10 {a0 a1 a2 a3 a4 a5 a6 a7 a8 a9 : XV} {t : List XV} (h : zA M pc = (9, nx, 10, 0, v, [])) (hp : isLong (some a9) = false) (hr : -2147483648 ≤ x + v ∧ x + v < 2147483648) (k : RZ d M nx (a0 :: a1 :: a2 :: a3 :: a4 :: a5 :: a6 :: a7 :: a8 :: a9 :: vI (x + v) :: t) st H Q) : RZ d M pc (a0 :: a1 :: a2 :: a3 :: a4 :: a5 :: a6 :: a7 :: a8 :: a9 :: vI x :: t) st H Q := RZ.step h (fun C k => by show (if prevLong (a0 :: a1 :: a2 :: a3 :: a4 :: a5 :: a6 :: a7 :: a8 :: a9 :: vI x :: t) 10 = false then k nx ((a0 :: a1 :: a2 :: a3 :: a4 :: a5 :: a6 :: a7 :: a8 :: a9 :: vI x :: t).set 10 (vI (w32 (x + v)))) st H else none) = _; rw [if_pos (show prevLong (a0 :: a1 :: a2 :: a3 :: a4 :: a5 :: a6 :: a7 :: a8 :: a9 :: vI x :: t) 10 = false from hp), w32_eq hr]; rfl) k
theorem r_storeI_11 {a0 a1 a2 a3 a4 a5 a6 a7 a8 a9 a10 q : XV} {t : List XV} (h : zA M pc = (6, nx, 11, 0, 0, [])) (hp : isLong (some a10) = false) (k : RZ d M nx (a0 :: a1 :: a2 :: a3 :: a4 :: a5 :: a6 :: a7 :: a8 :: a9 :: a10 :: vI x :: t) st H Q) : RZ d M pc (a0 :: a1 :: a2 :: a3 :: a4 :: a5 :: a6 :: a7 :: a8 :: a9 :: a10 :: q :: t) (vI x :: st) H Q := RZ.step h (fun C k => by show (if 11 < (a0 :: a1 :: a2 :: a3 :: a4 :: a5 :: a6 :: a7 :: a8 :: a9 :: a10 :: q :: t).length ∧ prevLong (a0 :: a1 :: a2 :: a3 :: a4 :: a5 :: a6 :: a7 :: a8 :: a9 :: a10 :: q :: t) 11 = false then k nx ((a0 :: a1 :: a2 :: a3 :: a4 :: a5 :: a6 :: a7 :: a8 :: a9 :: a10 :: q :: t).set 11 (vI x)) st H else none) = _; rw [if_pos (show 11 < (a0 :: a1 :: a2 :: a3 :: a4 :: a5 :: a6 :: a7 :: a8 :: a9 :: a10 :: q :: t).length ∧ prevLong (a0 :: a1 :: a2 :: a3 :: a4 :: a5 :: a6 :: a7 :: a8 :: a9 :: a10 :: q :: t) 11 = false from ⟨by simp, hp⟩)]; rfl) k
theorem r_storeA_11 {a0 a1 a2 a3 a4 a5 a6 a7 a8 a9 a10 q : XV} {t : List XV} {n : Nat} (h : zA M pc = (7, nx, 11, 0, 0, [])) (hp : isLong (some a10) = false) (hn : n ≠ 0) (k : RZ d M nx (a0 :: a1 :: a2 :: a3 :: a4 :: a5 :: a6 :: a7 :: a8 :: a9 :: a10 :: vR n :: t) st H Q) : RZ d M pc (a0 :: a1 :: a2 :: a3 :: a4 :: a5 :: a6 :: a7 :: a8 :: a9 :: a10 :: q :: t) (vR n :: st) H Q := RZ.step h (fun C k => by show (if _ then _ else none) = _; rw [if_pos (show 11 < (a0 :: a1 :: a2 :: a3 :: a4 :: a5 :: a6 :: a7 :: a8 :: a9 :: a10 :: q :: t).length ∧ prevLong (a0 :: a1 :: a2 :: a3 :: a4 :: a5 :: a6 :: a7 :: a8 :: a9 :: a10 :: q :: t) 11 = false ∧ n ≠ 0 from ⟨by simp, hp, hn⟩)]; rfl) k
theorem r_storeL_11 {a0 a1 a2 a3 a4 a5 a6 a7 a8 a9 a10 q w : XV} {t : List XV} (h : zA M pc = (8, nx, 11, 0, 0, [])) (hp : isLong (some a10) = false) (k : RZ d M nx (a0 :: a1 :: a2 :: a3 :: a4 :: a5 :: a6 :: a7 :: a8 :: a9 :: a10 :: vL x :: vR 0 :: t) st H Q) : RZ d M pc (a0 :: a1 :: a2 :: a3 :: a4 :: a5 :: a6 :: a7 :: a8 :: a9 :: a10 :: q :: w :: t) (vL x :: st) H Q := RZ.step h (fun C k => by show (if 11 + 1 < (a0 :: a1 :: a2 :: a3 :: a4 :: a5 :: a6 :: a7 :: a8 :: a9 :: a10 :: q :: w :: t).length ∧ prevLong (a0 :: a1 :: a2 :: a3 :: a4 :: a5 :: a6 :: a7 :: a8 :: a9 :: a10 :: q :: w :: t) 11 = false then k nx (((a0 :: a1 :: a2 :: a3 :: a4 :: a5 :: a6 :: a7 :: a8 :: a9 :: a10 :: q :: w :: t).set 11 (vL x)).set (11 + 1) (vR 0)) st H else none) = _; rw [if_pos (show 11 + 1 < (a0 :: a1 :: a2 :: a3 :: a4 :: a5 :: a6 :: a7 :: a8 :: a9 :: a10 :: q :: w :: t).length ∧ prevLong (a0 :: a1 :: a2 :: a3 :: a4 :: a5 :: a6 :: a7 :: a8 :: a9 :: a10 :: q :: w :: t) 11 = false from ⟨by simp, hp⟩)]; rfl) k
theorem r_iinc_11 {a0 a1 a2 a3 a4 a5 a6 a7 a8 a9 a10 : XV} {t : List XV} (h : zA M pc = (9, nx, 11, 0, v, [])) (hp : isLong (some a10) = false) (hr : -2147483648 ≤ x + v ∧ x + v < 2147483648) (k : RZ d M nx (a0 :: a1 :: a2 :: a3 :: a4 :: a5 :: a6 :: a7 :: a8 :: a9 :: a10 :: vI (x + v) :: t) st H Q) : RZ d M pc (a0 :: a1 :: a2 :: a3 :: a4 :: a5 :: a6 :: a7 :: a8 :: a9 :: a10 :: vI x :: t) st H Q := RZ.step h (fun C k => by show (if prevLong (a0 :: a1 :: a2 :: a3 :: a4 :: a5 :: a6 :: a7 :: a8 :: a9 :: a10 :: vI x :: t) 11 = false then k nx ((a0 :: a1 :: a2 :: a3 :: a4 :: a5 :: a6 :: a7 :: a8 :: a9 :: a10 :: vI x :: t).set 11 (vI (w32 (x + v)))) st H else none) = _; rw [if_pos (show prevLong (a0 :: a1 :: a2 :: a3 :: a4 :: a5 :: a6 :: a7 :: a8 :: a9 :: a10 :: vI x :: t) 11 = false from hp), w32_eq hr]; rfl) k
theorem r_storeI_12 {a0 a1 a2 a3 a4 a5 a6 a7 a8 a9 a10 a11 q : XV} {t : List XV} (h : zA M pc = (6, nx, 12, 0, 0, [])) (hp : isLong (some a11) = false) (k : RZ d M nx (a0 :: a1 :: a2 :: a3 :: a4 :: a5 :: a6 :: a7 :: a8 :: a9 :: a10 :: a11 :: vI x :: t) st H Q) : RZ d M pc (a0 :: a1 :: a2 :: a3 :: a4 :: a5 :: a6 :: a7 :: a8 :: a9 :: a10 :: a11 :: q :: t) (vI x :: st) H Q := RZ.step h (fun C k => by show (if 12 < (a0 :: a1 :: a2 :: a3 :: a4 :: a5 :: a6 :: a7 :: a8 :: a9 :: a10 :: a11 :: q :: t).length ∧ prevLong (a0 :: a1 :: a2 :: a3 :: a4 :: a5 :: a6 :: a7 :: a8 :: a9 :: a10 :: a11 :: q :: t) 12 = false then k nx ((a0 :: a1 :: a2 :: a3 :: a4 :: a5 :: a6 :: a7 :: a8 :: a9 :: a10 :: a11 :: q :: t).set 12 (vI x)) st H else none) = _; rw [if_pos (show 12 < (a0 :: a1 :: a2 :: a3 :: a4 :: a5 :: a6 :: a7 :: a8 :: a9 :: a10 :: a11 :: q :: t).length ∧ prevLong (a0 :: a1 :: a2 :: a3 :: a4 :: a5 :: a6 :: a7 :: a8 :: a9 :: a10 :: a11 :: q :: t) 12 = false from ⟨by simp, hp⟩)]; rfl) k
theorem r_storeA_12 {a0 a1 a2 a3 a4 a5 a6 a7 a8 a9 a10 a11 q : XV} {t : List XV} {n : Nat} (h : zA M pc = (7, nx, 12, 0, 0, [])) (hp : isLong (some a11) = false) (hn : n ≠ 0) (k : RZ d M nx (a0 :: a1 :: a2 :: a3 :: a4 :: a5 :: a6 :: a7 :: a8 :: a9 :: a10 :: a11 :: vR n :: t) st H Q) : RZ d M pc (a0 :: a1 :: a2 :: a3 :: a4 :: a5 :: a6 :: a7 :: a8 :: a9 :: a10 :: a11 :: q :: t) (vR n :: st) H Q := RZ.step h (fun C k => by show (if _ then _ else none) = _; rw [if_pos (show 12 < (a0 :: a1 :: a2 :: a3 :: a4 :: a5 :: a6 :: a7 :: a8 :: a9 :: a10 :: a11 :: q :: t).length ∧ prevLong (a0 :: a1 :: a2 :: a3 :: a4 :: a5 :: a6 :: a7 :: a8 :: a9 :: a10 :: a11 :: q :: t) 12 = false ∧ n ≠ 0 from ⟨by simp, hp, hn⟩)]; rfl) k
theorem r_storeL_12 {a0 a1 a2 a3 a4 a5 a6 a7 a8 a9 a10 a11 q w : XV} {t : List XV} (h : zA M pc = (8, nx, 12, 0, 0, [])) (hp : isLong (some a11) = false) (k : RZ d M nx (a0 :: a1 :: a2 :: a3 :: a4 :: a5 :: a6 :: a7 :: a8 :: a9 :: a10 :: a11 :: vL x :: vR 0 :: t) st H Q) : RZ d M pc (a0 :: a1 :: a2 :: a3 :: a4 :: a5 :: a6 :: a7 :: a8 :: a9 :: a10 :: a11 :: q :: w :: t) (vL x :: st) H Q := RZ.step h (fun C k => by show (if 12 + 1 < (a0 :: a1 :: a2 :: a3 :: a4 :: a5 :: a6 :: a7 :: a8 :: a9 :: a10 :: a11 :: q :: w :: t).length ∧ prevLong (a0 :: a1 :: a2 :: a3 :: a4 :: a5 :: a6 :: a7 :: a8 :: a9 :: a10 :: a11 :: q :: w :: t) 12 = false then k nx (((a0 :: a1 :: a2 :: a3 :: a4 :: a5 :: a6 :: a7 :: a8 :: a9 :: a10 :: a11 :: q :: w :: t).set 12 (vL x)).set (12 + 1) (vR 0)) st H else none) = _; rw [if_pos (show 12 + 1 < (a0 :: a1 :: a2 :: a3 :: a4 :: a5 :: a6 :: a7 :: a8 :: a9 :: a10 :: a11 :: q :: w :: t).length ∧ prevLong (a0 :: a1 :: a2 :: a3 :: a4 :: a5 :: a6 :: a7 :: a8 :: a9 :: a10 :: a11 :: q :: w :: t) 12 = false from ⟨by simp, hp⟩)]; rfl) k
theorem r_iinc_12 {a0 a1 a2 a3 a4 a5 a6 a7 a8 a9 a10 a11 : XV} {t : List XV} (h : zA M pc = (9, nx, 12, 0, v, [])) (hp : isLong (some a11) = false) (hr : -2147483648 ≤ x + v ∧ x + v < 2147483648) (k : RZ d M nx (a0 :: a1 :: a2 :: a3 :: a4 :: a5 :: a6 :: a7 :: a8 :: a9 :: a10 :: a11 :: vI (x + v) :: t) st H Q) : RZ d M pc (a0 :: a1 :: a2 :: a3 :: a4 :: a5 :: a6 :: a7 :: a8 :: a9 :: a10 :: a11 :: vI x :: t) st H Q := RZ.step h (fun C k => by show (if prevLong (a0 :: a1 :: a2 :: a3 :: a4 :: a5 :: a6 :: a7 :: a8 :: a9 :: a10 :: a11 :: vI x :: t) 12 = false then k nx ((a0 :: a1 :: a2 :: a3 :: a4 :: a5 :: a6 :: a7 :: a8 :: a9 :: a10 :: a11 :: vI x :: t).set 12 (vI (w32 (x + v)))) st H else none) = _; rw [if_pos (show prevLong (a0 :: a1 :: a2 :: a3 :: a4 :: a5 :: a6 :: a7 :: a8 :: a9 :: a10 :: a11 :: vI x :: t) 12 = false from hp), w32_eq hr]; rfl) k
theorem r_storeI_13 {a0 a1 a2 a3 a4 a5 a6 a7 a8 a9 a10 a11 a12 q : XV} {t : List XV} (h : zA M pc = (6, nx, 13, 0, 0, [])) (hp : isLong (some a12) = false) (k : RZ d M nx (a0 :: a1 :: a2 :: a3 :: a4 :: a5 :: a6 :: a7 :: a8 :: a9 :: a10 :: a11 :: a12 :: vI x :: t) st H Q) : RZ d M pc (a0 :: a1 :: a2 :: a3 :: a4 :: a5 :: a6 :: a7 :: a8 :: a9 :: a10 :: a11 :: a12 :: q :: t) (vI x :: st) H Q := RZ.step h (fun C k => by show (if 13 < (a0 :: a1 :: a2 :: a3 :: a4 :: a5 :: a6 :: a7 :: a8 :: a9 :: a10 :: a11 :: a12 :: q :: t).length ∧ prevLong (a0 :: a1 :: a2 :: a3 :: a4 :: a5 :: a6 :: a7 :: a8 :: a9 :: a10 :: a11 :: a12 :: q :: t) 13 = false then k nx ((a0 :: a1 :: a2 :: a3 :: a4 :: a5 :: a6 :: a7 :: a8 :: a9 :: a10 :: a11 :: a12 :: q :: t).set 13 (vI x)) st H else none) = _; rw [if_pos (show 13 < (a0 :: a1 :: a2 :: a3 :: a4 :: a5 :: a6 :: a7 :: a8 :: a9 :: a10 :: a11 :: a12 :: q :: t).length ∧ prevLong (a0 :: a1 :: a2 :: a3 :: a4 :: a5 :: a6 :: a7 :: a8 :: a9 :: a10 :: a11 :: a12 :: q :: t) 13 = false from ⟨by simp, hp⟩)]; rfl) k
theorem r_storeA_13 {a0 a1 a2 a3 a4 a5 a6 a7 a8 a9 a10 a11 a12 q : XV} {t : List XV} {n : Nat} (h : zA M pc = (7, nx, 13, 0, 0, [])) (hp : isLong (some a12) = false) (hn : n ≠ 0) (k : RZ d M nx (a0 :: a1 :: a2 :: a3 :: a4 :: a5 :: a6 :: a7 :: a8 :: a9 :: a10 :: a11 :: a12 :: vR n :: t) st H Q) : RZ d M pc (a0 :: a1 :: a2 :: a3 :: a4 :: a5 :: a6 :: a7 :: a8 :: a9 :: a10 :: a11 :: a12 :: q :: t) (vR n :: st) H Q := RZ.step h (fun C k => by show (if _ then _ else none) = _; rw [if_pos (show 13 < (a0 :: a1 :: a2 :: a3 :: a4 :: a5 :: a6 :: a7 :: a8 :: a9 :: a10 :: a11 :: a12 :: q :: t).length ∧ prevLong (a0 :: a1 :: a2 :: a3 :: a4 :: a5 :: a6 :: a7 :: a8 :: a9 :: a10 :: a11 :: a12 :: q :: t) 13 = false ∧ n ≠ 0 from ⟨by simp, hp, hn⟩)]; rfl) k
theorem r_storeL_13 {a0 a1 a2 a3 a4 a5 a6 a7 a8 a9 a10 a11 a12 q w : XV} {t : List XV} (h : zA M pc = (8, nx, 13, 0, 0, [])) (hp : isLong (some a12) = false) (k : RZ d M nx (a0 :: a1 :: a2 :: a3 :: a4 :: a5 :: a6 :: a7 :: a8 :: a9 :: a10 :: a11 :: a12 :: vL x :: vR 0 :: t) st H Q) : RZ d M pc (a0 :: a1 :: a2 :: a3 :: a4 :: a5 :: a6 :: a7 :: a8 :: a9 :: a10 :: a11 :: a12 :: q :: w :: t) (vL x :: st) H Q := RZ.step h (fun C k => by show (if 13 + 1 < (a0 :: a1 :: a2 :: a3 :: a4 :: a5 :: a6 :: a7 :: a8 :: a9 :: a10 :: a11 :: a12 :: q :: w :: t).length ∧ prevLong (a0 :: a1 :: a2 :: a3 :: a4 :: a5 :: a6 :: a7 :: a8 :: a9 :: a10 :: a11 :: a12 :: q :: w :: t) 13 = false then k nx (((a0 :: a1 :: a2 :: a3 :: a4 :: a5 :: a6 :: a7 :: a8 :: a9 :: a10 :: a11 :: a12 :: q :: w :: t).set 13 (vL x)).set (13 + 1) (vR 0)) st H else none) = _; rw [if_pos (show 13 + 1 < (a0 :: a1 :: a2 :: a3 :: a4 :: a5 :: a6 :: a7 :: a8 :: a9 :: a10 :: a11 :: a12 :: q :: w :: t).length ∧ prevLong (a0 :: a1 :: a2 :: a3 :: a4 :: a5 :: a6 :: a7 :: a8 :: a9 :: a10 :: a11 :: a12 :: q :: w :: t) 13 = false from ⟨by simp, hp⟩)]; rfl) k
theorem r_iinc_13 {a0 a1 a2 a3 a4 a5 a6 a7 a8 a9 a10 a11 a12 : XV} {t : List XV} (h : zA M pc = (9, nx, 13, 0, v, [])) (hp : isLong (some a12) = false) (hr : -2147483648 ≤ x + v ∧ x + v < 2147483648) (k : RZ d M nx (a0 :: a1 :: a2 :: a3 :: a4 :: a5 :: a6 :: a7 :: a8 :: a9 :: a10 :: a11 :: a12 :: vI (x + v) :: t) st H Q) : RZ d M pc (a0 :: a1 :: a2 :: a3 :: a4 :: a5 :: a6 :: a7 :: a8 :: a9 :: a10 :: a11 :: a12 :: vI x :: t) st H Q := RZ.step h (fun C k => by show (if prevLong (a0 :: a1 :: a2 :: a3 :: a4 :: a5 :: a6 :: a7 :: a8 :: a9 :: a10 :: a11 :: a12 :: vI x :: t) 13 = false then k nx ((a0 :: a1 :: a2 :: a3 :: a4 :: a5 :: a6 :: a7 :: a8 :: a9 :: a10 :: a11 :: a12 :: vI x :: t).set 13 (vI (w32 (x + v)))) st H else none) = _; rw [if_pos (show prevLong (a0 :: a1 :: a2 :: a3 :: a4 :: a5 :: a6 :: a7 :: a8 :: a9 :: a10 :: a11 :: a12 :: vI x :: t) 13 = false from hp), w32_eq hr]; rfl) k
theorem r_addW  (h : zA M pc = (10, nx, 0, 0, 0, [])) (k : RZ d M nx ls (vI (w32 (x + y)) :: st) H Q) : RZ d M pc ls (vI y :: vI x :: st) H Q := RZ.step h (fun _ _ => rfl) k
theorem r_add  (h : zA M pc = (10, nx, 0, 0, 0, [])) (hr : -2147483648 ≤ x + y ∧ x + y < 2147483648) (k : RZ d M nx ls (vI (x + y) :: st) H Q) : RZ d M pc ls (vI y :: vI x :: st) H Q := RZ.step h (fun C k => by show k nx ls (vI (w32 (x + y)) :: st) H = _; rw [w32_eq hr]) k
theorem r_subW  (h : zA M pc = (11, nx, 0, 0, 0, [])) (k : RZ d M nx ls (vI (w32 (x - y)) :: st) H Q) : RZ d M pc ls (vI y :: vI x :: st) H Q := RZ.step h (fun _ _ => rfl) k
theorem r_sub  (h : zA M pc = (11, nx, 0, 0, 0, [])) (hr : -2147483648 ≤ x - y ∧ x - y < 2147483648) (k : RZ d M nx ls (vI (x - y) :: st) H Q) : RZ d M pc ls (vI y :: vI x :: st) H Q := RZ.step h (fun C k => by show k nx ls (vI (w32 (x - y)) :: st) H = _; rw [w32_eq hr]) k
theorem r_mulW  (h : zA M pc = (12, nx, 0, 0, 0, [])) (k : RZ d M nx ls (vI (w32 (x * y)) :: st) H Q) : RZ d M pc ls (vI y :: vI x :: st) H Q := RZ.step h (fun _ _ => rfl) k
theorem r_mul  (h : zA M pc = (12, nx, 0, 0, 0, [])) (hr : -2147483648 ≤ x * y ∧ x * y < 2147483648) (k : RZ d M nx ls (vI (x * y) :: st) H Q) : RZ d M pc ls (vI y :: vI x :: st) H Q := RZ.step h (fun C k => by show k nx ls (vI (w32 (x * y)) :: st) H = _; rw [w32_eq hr]) k
theorem r_ladd  (h : zA M pc = (21, nx, 0, 0, 0, [])) (hr : -9223372036854775808 ≤ x + y ∧ x + y < 9223372036854775808) (k : RZ d M nx ls (vL (x + y) :: st) H Q) : RZ d M pc ls (vL y :: vL x :: st) H Q := RZ.step h (fun C k => by show k nx ls (vL (w64 (x + y)) :: st) H = _; rw [w64_eq hr]) k
theorem r_lsub  (h : zA M pc = (22, nx, 0, 0, 0, [])) (hr : -9223372036854775808 ≤ x - y ∧ x - y < 9223372036854775808) (k : RZ d M nx ls (vL (x - y) :: st) H Q) : RZ d M pc ls (vL y :: vL x :: st) H Q := RZ.step h (fun C k => by show k nx ls (vL (w64 (x - y)) :: st) H = _; rw [w64_eq hr]) k
theorem r_lmul  (h : zA M pc = (23, nx, 0, 0, 0, [])) (hr : -9223372036854775808 ≤ x * y ∧ x * y < 9223372036854775808) (k : RZ d M nx ls (vL (x * y) :: st) H Q) : RZ d M pc ls (vL y :: vL x :: st) H Q := RZ.step h (fun C k => by show k nx ls (vL (w64 (x * y)) :: st) H = _; rw [w64_eq hr]) k
theorem r_negW  (h : zA M pc = (15, nx, 0, 0, 0, [])) (k : RZ d M nx ls (vI (w32 (-x)) :: st) H Q) : RZ d M pc ls (vI x :: st) H Q := RZ.step h (fun _ _ => rfl) k
theorem r_neg  (h : zA M pc = (15, nx, 0, 0, 0, [])) (hr : -2147483648 ≤ -x ∧ -x < 2147483648) (k : RZ d M nx ls (vI (-x) :: st) H Q) : RZ d M pc ls (vI x :: st) H Q := RZ.step h (fun C k => by show k nx ls (vI (w32 (-x)) :: st) H = _; rw [w32_eq hr]) k
theorem r_and  (h : zA M pc = (16, nx, 0, 0, 0, [])) (k : RZ d M nx ls (vI (iAnd x y) :: st) H Q) : RZ d M pc ls (vI y :: vI x :: st) H Q := RZ.step h (fun _ _ => rfl) k
theorem r_or  (h : zA M pc = (17, nx, 0, 0, 0, [])) (k : RZ d M nx ls (vI (iOr x y) :: st) H Q) : RZ d M pc ls (vI y :: vI x :: st) H Q := RZ.step h (fun _ _ => rfl) k
theorem r_xor  (h : zA M pc = (18, nx, 0, 0, 0, [])) (k : RZ d M nx ls (vI (iXor x y) :: st) H Q) : RZ d M pc ls (vI y :: vI x :: st) H Q := RZ.step h (fun _ _ => rfl) k
theorem r_shl  (h : zA M pc = (19, nx, 0, 0, 0, [])) (k : RZ d M nx ls (vI (iShl x y) :: st) H Q) : RZ d M pc ls (vI y :: vI x :: st) H Q := RZ.step h (fun _ _ => rfl) k
theorem r_shr  (h : zA M pc = (20, nx, 0, 0, 0, [])) (k : RZ d M nx ls (vI (iShr x y) :: st) H Q) : RZ d M pc ls (vI y :: vI x :: st) H Q := RZ.step h (fun _ _ => rfl) k
theorem iDiv_pos {x y : Int} (hx : 0 ≤ x) (hy : 0 < y) (hx2 : x < 2147483648) (hy2 : y < 2147483648) : iDiv x y = x / y := by
  unfold iDiv
  rw [Int32.toInt_div, toInt_of32 ⟨by omega, hx2⟩, toInt_of32 ⟨by omega, hy2⟩, Int.tdiv_eq_ediv_of_nonneg hx]
  have h1 : 0 ≤ x / y := Int.ediv_nonneg hx (by omega)
  have h2 : x / y ≤ x := Int.ediv_le_self y hx
  rw [Int.bmod_def]
  have : (2 ^ 32 : Nat) = 4294967296 := by decide
  rw [this]
  split <;> omega
theorem iRem_pos {x y : Int} (hx : 0 ≤ x) (hy : 0 < y) (hx2 : x < 2147483648) (hy2 : y < 2147483648) : iRem x y = x % y := by
  have e1 : iRem x y = w32 (x - iDiv x y * y) := by
    unfold iRem
    rw [w32_ofInt, Int32.ofInt_sub, Int32.ofInt_mul]
    unfold iDiv
    rw [Int32.ofInt_toInt]
  rw [e1, iDiv_pos hx hy hx2 hy2]
  have h3 : x - x / y * y = x % y := by rw [Int.emod_def, Int.mul_comm]
  rw [h3]
  have h4 := Int.emod_nonneg x (show y ≠ 0 by omega)
  have h5 := Int.emod_lt_of_pos x hy
  exact w32_eq ⟨by omega, by omega⟩
theorem lDiv_pos {x y : Int} (hx : 0 ≤ x) (hy : 0 < y) (hx2 : x < 9223372036854775808) (hy2 : y < 9223372036854775808) : lDiv x y = x / y := by
  unfold lDiv
  rw [Int64.toInt_div, toInt_of64 ⟨by omega, hx2⟩, toInt_of64 ⟨by omega, hy2⟩, Int.tdiv_eq_ediv_of_nonneg hx]
  have h1 : 0 ≤ x / y := Int.ediv_nonneg hx (by omega)
  have h2 : x / y ≤ x := Int.ediv_le_self y hx
  rw [Int.bmod_def]
  have : (2 ^ 64 : Nat) = 18446744073709551616 := by decide
  rw [this]
  split <;> omega
theorem lRem_pos {x y : Int} (hx : 0 ≤ x) (hy : 0 < y) (hx2 : x < 9223372036854775808) (hy2 : y < 9223372036854775808) : lRem x y = x % y := by
  have e1 : lRem x y = w64 (x - lDiv x y * y) := by
    unfold lRem
    rw [w64_ofInt, Int64.ofInt_sub, Int64.ofInt_mul]
    unfold lDiv
    rw [Int64.ofInt_toInt]
  rw [e1, lDiv_pos hx hy hx2 hy2]
  have h3 : x - x / y * y = x % y := by rw [Int.emod_def, Int.mul_comm]
  rw [h3]
  have h4 := Int.emod_nonneg x (show y ≠ 0 by omega)
  have h5 := Int.emod_lt_of_pos x hy
  exact w64_eq ⟨by omega, by omega⟩
theorem i2C_id {x : Int} (h0 : 0 ≤ x) (h1 : x < 65536) : i2C x = x := by
  unfold i2C
  rw [pk_char]
  have e : (Int32.ofInt x).toBitVec.toNat = x.toNat := by
    have : Int32.ofInt x = nI x.toNat := by show _ = Int32.ofNat x.toNat; rw [← Int32.ofInt_eq_ofNat, Int.toNat_of_nonneg h0]
    rw [this, pk_tn (by omega)]
  rw [e, show x.toNat % 65536 = x.toNat by omega]
  show (Int32.ofNat x.toNat).toInt = x
  rw [← Int32.ofInt_eq_ofNat, Int.toNat_of_nonneg h0, toInt_of32 ⟨by omega, by omega⟩]
theorem r_div  (h : zA M pc = (13, nx, 0, 0, 0, [])) (hr : 0 ≤ x ∧ x < 2147483648 ∧ 0 < y ∧ y < 2147483648) (k : RZ d M nx ls (vI (x / y) :: st) H Q) : RZ d M pc ls (vI y :: vI x :: st) H Q := RZ.step h (fun C k => by show (if y = 0 then none else k nx ls (vI (iDiv x y) :: st) H) = _; rw [if_neg (by omega), iDiv_pos hr.1 hr.2.2.1 hr.2.1 hr.2.2.2]) k
theorem r_rem  (h : zA M pc = (14, nx, 0, 0, 0, [])) (hr : 0 ≤ x ∧ x < 2147483648 ∧ 0 < y ∧ y < 2147483648) (k : RZ d M nx ls (vI (x % y) :: st) H Q) : RZ d M pc ls (vI y :: vI x :: st) H Q := RZ.step h (fun C k => by show (if y = 0 then none else k nx ls (vI (iRem x y) :: st) H) = _; rw [if_neg (by omega), iRem_pos hr.1 hr.2.2.1 hr.2.1 hr.2.2.2]) k
theorem r_ldiv  (h : zA M pc = (24, nx, 0, 0, 0, [])) (hr : 0 ≤ x ∧ x < 9223372036854775808 ∧ 0 < y ∧ y < 9223372036854775808) (k : RZ d M nx ls (vL (x / y) :: st) H Q) : RZ d M pc ls (vL y :: vL x :: st) H Q := RZ.step h (fun C k => by show (if y = 0 then none else k nx ls (vL (lDiv x y) :: st) H) = _; rw [if_neg (by omega), lDiv_pos hr.1 hr.2.2.1 hr.2.1 hr.2.2.2]) k
theorem r_lrem  (h : zA M pc = (25, nx, 0, 0, 0, [])) (hr : 0 ≤ x ∧ x < 9223372036854775808 ∧ 0 < y ∧ y < 9223372036854775808) (k : RZ d M nx ls (vL (x % y) :: st) H Q) : RZ d M pc ls (vL y :: vL x :: st) H Q := RZ.step h (fun C k => by show (if y = 0 then none else k nx ls (vL (lRem x y) :: st) H) = _; rw [if_neg (by omega), lRem_pos hr.1 hr.2.2.1 hr.2.1 hr.2.2.2]) k
theorem r_lcmp  (h : zA M pc = (26, nx, 0, 0, 0, [])) (k : RZ d M nx ls (vI (lCmp x y) :: st) H Q) : RZ d M pc ls (vL y :: vL x :: st) H Q := RZ.step h (fun _ _ => rfl) k
theorem r_i2l  (h : zA M pc = (27, nx, 0, 0, 0, [])) (k : RZ d M nx ls (vL x :: st) H Q) : RZ d M pc ls (vI x :: st) H Q := RZ.step h (fun _ _ => rfl) k
theorem r_i2c  (h : zA M pc = (28, nx, 0, 0, 0, [])) (hr : 0 ≤ x ∧ x < 65536) (k : RZ d M nx ls (vI x :: st) H Q) : RZ d M pc ls (vI x :: st) H Q := RZ.step h (fun C k => by show k nx ls (vI (i2C x) :: st) H = _; rw [i2C_id hr.1 hr.2]) k
theorem r_i2b  (h : zA M pc = (29, nx, 0, 0, 0, [])) (k : RZ d M nx ls (vI (i2B x) :: st) H Q) : RZ d M pc ls (vI x :: st) H Q := RZ.step h (fun _ _ => rfl) k
theorem r_goto  (h : zA M pc = (30, nx, a, 0, 0, [])) (k : RZ d M a ls st H Q) : RZ d M pc ls st H Q := RZ.step h (fun _ _ => rfl) k
theorem r_ifeq (h : zA M pc = (31, nx, a, 0, 0, [])) (kt : x = 0 → RZ d M a ls st H Q) (kf : x ≠ 0 → RZ d M nx ls st H Q) : RZ d M pc ls (vI x :: st) H Q := by
  by_cases q : x = 0
  · exact RZ.step h (fun C k => by show (if decide (x = 0) = true then _ else _) = _; rw [if_pos (decide_eq_true q)]) (kt q)
  · exact RZ.step h (fun C k => by show (if decide (x = 0) = true then _ else _) = _; rw [if_neg (by rw [decide_eq_false q]; decide)]) (kf (by omega))
theorem r_ifne (h : zA M pc = (32, nx, a, 0, 0, [])) (kt : x ≠ 0 → RZ d M a ls st H Q) (kf : x = 0 → RZ d M nx ls st H Q) : RZ d M pc ls (vI x :: st) H Q := by
  by_cases q : x ≠ 0
  · exact RZ.step h (fun C k => by show (if decide (x ≠ 0) = true then _ else _) = _; rw [if_pos (decide_eq_true q)]) (kt q)
  · exact RZ.step h (fun C k => by show (if decide (x ≠ 0) = true then _ else _) = _; rw [if_neg (by rw [decide_eq_false q]; decide)]) (kf (by omega))
theorem r_iflt (h : zA M pc = (33, nx, a, 0, 0, [])) (kt : x < 0 → RZ d M a ls st H Q) (kf : 0 ≤ x → RZ d M nx ls st H Q) : RZ d M pc ls (vI x :: st) H Q := by
  by_cases q : x < 0
  · exact RZ.step h (fun C k => by show (if decide (x < 0) = true then _ else _) = _; rw [if_pos (decide_eq_true q)]) (kt q)
  · exact RZ.step h (fun C k => by show (if decide (x < 0) = true then _ else _) = _; rw [if_neg (by rw [decide_eq_false q]; decide)]) (kf (by omega))
theorem r_ifge (h : zA M pc = (34, nx, a, 0, 0, [])) (kt : 0 ≤ x → RZ d M a ls st H Q) (kf : x < 0 → RZ d M nx ls st H Q) : RZ d M pc ls (vI x :: st) H Q := by
  by_cases q : 0 ≤ x
  · exact RZ.step h (fun C k => by show (if decide (0 ≤ x) = true then _ else _) = _; rw [if_pos (decide_eq_true q)]) (kt q)
  · exact RZ.step h (fun C k => by show (if decide (0 ≤ x) = true then _ else _) = _; rw [if_neg (by rw [decide_eq_false q]; decide)]) (kf (by omega))
theorem r_ifgt (h : zA M pc = (35, nx, a, 0, 0, [])) (kt : 0 < x → RZ d M a ls st H Q) (kf : x ≤ 0 → RZ d M nx ls st H Q) : RZ d M pc ls (vI x :: st) H Q := by
  by_cases q : 0 < x
  · exact RZ.step h (fun C k => by show (if decide (0 < x) = true then _ else _) = _; rw [if_pos (decide_eq_true q)]) (kt q)
  · exact RZ.step h (fun C k => by show (if decide (0 < x) = true then _ else _) = _; rw [if_neg (by rw [decide_eq_false q]; decide)]) (kf (by omega))
theorem r_ifle (h : zA M pc = (36, nx, a, 0, 0, [])) (kt : x ≤ 0 → RZ d M a ls st H Q) (kf : 0 < x → RZ d M nx ls st H Q) : RZ d M pc ls (vI x :: st) H Q := by
  by_cases q : x ≤ 0
  · exact RZ.step h (fun C k => by show (if decide (x ≤ 0) = true then _ else _) = _; rw [if_pos (decide_eq_true q)]) (kt q)
  · exact RZ.step h (fun C k => by show (if decide (x ≤ 0) = true then _ else _) = _; rw [if_neg (by rw [decide_eq_false q]; decide)]) (kf (by omega))
theorem r_iceq (h : zA M pc = (37, nx, a, 0, 0, [])) (kt : x = y → RZ d M a ls st H Q) (kf : x ≠ y → RZ d M nx ls st H Q) : RZ d M pc ls (vI y :: vI x :: st) H Q := by
  by_cases q : x = y
  · exact RZ.step h (fun C k => by show (if decide (x = y) = true then _ else _) = _; rw [if_pos (decide_eq_true q)]) (kt q)
  · exact RZ.step h (fun C k => by show (if decide (x = y) = true then _ else _) = _; rw [if_neg (by rw [decide_eq_false q]; decide)]) (kf (by omega))
theorem r_icne (h : zA M pc = (38, nx, a, 0, 0, [])) (kt : x ≠ y → RZ d M a ls st H Q) (kf : x = y → RZ d M nx ls st H Q) : RZ d M pc ls (vI y :: vI x :: st) H Q := by
  by_cases q : x ≠ y
  · exact RZ.step h (fun C k => by show (if decide (x ≠ y) = true then _ else _) = _; rw [if_pos (decide_eq_true q)]) (kt q)
  · exact RZ.step h (fun C k => by show (if decide (x ≠ y) = true then _ else _) = _; rw [if_neg (by rw [decide_eq_false q]; decide)]) (kf (by omega))
theorem r_iclt (h : zA M pc = (39, nx, a, 0, 0, [])) (kt : x < y → RZ d M a ls st H Q) (kf : y ≤ x → RZ d M nx ls st H Q) : RZ d M pc ls (vI y :: vI x :: st) H Q := by
  by_cases q : x < y
  · exact RZ.step h (fun C k => by show (if decide (x < y) = true then _ else _) = _; rw [if_pos (decide_eq_true q)]) (kt q)
  · exact RZ.step h (fun C k => by show (if decide (x < y) = true then _ else _) = _; rw [if_neg (by rw [decide_eq_false q]; decide)]) (kf (by omega))
theorem r_icge (h : zA M pc = (40, nx, a, 0, 0, [])) (kt : y ≤ x → RZ d M a ls st H Q) (kf : x < y → RZ d M nx ls st H Q) : RZ d M pc ls (vI y :: vI x :: st) H Q := by
  by_cases q : y ≤ x
  · exact RZ.step h (fun C k => by show (if decide (y ≤ x) = true then _ else _) = _; rw [if_pos (decide_eq_true q)]) (kt q)
  · exact RZ.step h (fun C k => by show (if decide (y ≤ x) = true then _ else _) = _; rw [if_neg (by rw [decide_eq_false q]; decide)]) (kf (by omega))
theorem r_icgt (h : zA M pc = (41, nx, a, 0, 0, [])) (kt : y < x → RZ d M a ls st H Q) (kf : x ≤ y → RZ d M nx ls st H Q) : RZ d M pc ls (vI y :: vI x :: st) H Q := by
  by_cases q : y < x
  · exact RZ.step h (fun C k => by show (if decide (y < x) = true then _ else _) = _; rw [if_pos (decide_eq_true q)]) (kt q)
  · exact RZ.step h (fun C k => by show (if decide (y < x) = true then _ else _) = _; rw [if_neg (by rw [decide_eq_false q]; decide)]) (kf (by omega))
theorem r_icle (h : zA M pc = (42, nx, a, 0, 0, [])) (kt : x ≤ y → RZ d M a ls st H Q) (kf : y < x → RZ d M nx ls st H Q) : RZ d M pc ls (vI y :: vI x :: st) H Q := by
  by_cases q : x ≤ y
  · exact RZ.step h (fun C k => by show (if decide (x ≤ y) = true then _ else _) = _; rw [if_pos (decide_eq_true q)]) (kt q)
  · exact RZ.step h (fun C k => by show (if decide (x ≤ y) = true then _ else _) = _; rw [if_neg (by rw [decide_eq_false q]; decide)]) (kf (by omega))
variable {v1 v2 : XV}
theorem r_dup  (h : zA M pc = (43, nx, 0, 0, 0, [])) (h1 : isLong (some v1) = false) (k : RZ d M nx ls (v1 :: v1 :: st) H Q) : RZ d M pc ls (v1 :: st) H Q := RZ.step h (fun C k => by show (if _ then none else _) = _; rw [if_neg (by rw [h1]; decide)]) k
theorem r_dupx1  (h : zA M pc = (44, nx, 0, 0, 0, [])) (h1 : isLong (some v1) = false) (h2 : isLong (some v2) = false) (k : RZ d M nx ls (v1 :: v2 :: v1 :: st) H Q) : RZ d M pc ls (v1 :: v2 :: st) H Q := RZ.step h (fun C k => by show (if _ then none else _) = _; rw [if_neg (by rw [h1, h2]; decide)]) k
theorem r_dup2  (h : zA M pc = (45, nx, 0, 0, 0, [])) (h1 : isLong (some v1) = false) (h2 : isLong (some v2) = false) (k : RZ d M nx ls (v1 :: v2 :: v1 :: v2 :: st) H Q) : RZ d M pc ls (v1 :: v2 :: st) H Q := RZ.step h (fun C k => by show (if _ then none else _) = _; rw [if_neg (by rw [h1, h2]; decide)]) k
theorem r_pop  (h : zA M pc = (46, nx, 0, 0, 0, [])) (h1 : isLong (some v1) = false) (k : RZ d M nx ls st H Q) : RZ d M pc ls (v1 :: st) H Q := RZ.step h (fun C k => by show (if _ then none else _) = _; rw [if_neg (by rw [h1]; decide)]) k
theorem r_statR  (h : zA M pc = (64, nx, a, 0, 0, [])) (k : RZ d M nx ls (vR a :: st) H Q) : RZ d M pc ls st H Q := RZ.step h (fun _ _ => rfl) k
theorem r_strV  (h : zA M pc = (54, nx, 0, 0, 0, [])) (ha : 6 ≤ a ∧ a < 19) (k : RZ d M nx ls (vR (a + 13) :: st) H Q) : RZ d M pc ls (vR a :: st) H Q := RZ.step h (fun C k => by show (if _ then _ else none) = _; rw [if_pos ha]) k
theorem r_strC  (h : zA M pc = (55, nx, 0, 0, 0, [])) (ha : 6 ≤ a ∧ a < 19) (k : RZ d M nx ls (vI 0 :: st) H Q) : RZ d M pc ls (vR a :: st) H Q := RZ.step h (fun C k => by show (if _ then _ else none) = _; rw [if_pos ha]) k
theorem r_maxI  (h : zA M pc = (72, nx, 0, 0, 0, [])) (hd : d ≠ 0) (hc : catSum st ≤ 8) (k : RZ d M nx ls (vI (iMax x y) :: st) H Q) : RZ d M pc ls (vI y :: vI x :: st) H Q := RZ.step h (fun C k => by show (if _ then none else _) = _; rw [if_neg (by omega)]) k
theorem r_minI  (h : zA M pc = (73, nx, 0, 0, 0, [])) (hd : d ≠ 0) (hc : catSum st ≤ 8) (k : RZ d M nx ls (vI (iMin x y) :: st) H Q) : RZ d M pc ls (vI y :: vI x :: st) H Q := RZ.step h (fun C k => by show (if _ then none else _) = _; rw [if_neg (by omega)]) k
theorem r_maxL  (h : zA M pc = (74, nx, 0, 0, 0, [])) (hd : d ≠ 0) (hc : catSum st ≤ 8) (k : RZ d M nx ls (vL (lMax x y) :: st) H Q) : RZ d M pc ls (vL y :: vL x :: st) H Q := RZ.step h (fun C k => by show (if _ then none else _) = _; rw [if_neg (by omega)]) k
theorem r_switch {l : List (Int × Nat)} {b : Nat} (h : zA M pc = (71, 0, a, b, 0, l)) (k : RZ d M ((l.lookup x).getD a) ls st H Q) : RZ d M pc ls (vI x :: st) H Q := RZ.step h (fun _ _ => rfl) k
theorem r_sw_cons {l : List (Int × Nat)} {t : Nat} {w : Int} (h1 : x = w → RZ d M t ls st H Q) (h2 : x ≠ w → RZ d M ((l.lookup x).getD a) ls st H Q) : RZ d M ((((w, t) :: l).lookup x).getD a) ls st H Q := by
  rw [List.lookup_cons]
  by_cases q : x = w
  · subst q; rw [show (x == x) = true by simp]; exact h1 rfl
  · rw [show (x == w) = false by simpa using q]; exact h2 q
theorem r_sw_nil (k : RZ d M a ls st H Q) : RZ d M ((([] : List (Int × Nat)).lookup x).getD a) ls st H Q := k
theorem r_retI (h : zA M pc = (68, 0, 0, 0, 0, [])) (k : Q (some (vI x)) H) : RZ d M pc ls [vI x] H Q := by
  refine ⟨1, _, _, ?_, k⟩
  show zStep (zA M pc) _ _ d ls [vI x] H = _
  rw [h]
  show (if ((0 : Nat) = 0 ∨ ((0 : Nat) = 1 ∧ (x = 0 ∨ x = 1)) ∨ ((0 : Nat) = 2 ∧ 0 ≤ x ∧ x < 65536) ∨ ((0 : Nat) = 3 ∧ -128 ≤ x ∧ x < 128)) then some (some (vI x), H) else none) = _
  rw [if_pos (Or.inl rfl)]
theorem r_retZ (h : zA M pc = (68, 0, 0, 1, 0, [])) (hx : x = 0 ∨ x = 1) (k : Q (some (vI x)) H) : RZ d M pc ls [vI x] H Q := by
  refine ⟨1, _, _, ?_, k⟩
  show zStep (zA M pc) _ _ d ls [vI x] H = _
  rw [h]
  show (if ((1 : Nat) = 0 ∨ ((1 : Nat) = 1 ∧ (x = 0 ∨ x = 1)) ∨ ((1 : Nat) = 2 ∧ 0 ≤ x ∧ x < 65536) ∨ ((1 : Nat) = 3 ∧ -128 ≤ x ∧ x < 128)) then some (some (vI x), H) else none) = _
  rw [if_pos (Or.inr (Or.inl ⟨rfl, hx⟩))]
theorem r_retC (h : zA M pc = (68, 0, 0, 2, 0, [])) (hx : 0 ≤ x ∧ x < 65536) (k : Q (some (vI x)) H) : RZ d M pc ls [vI x] H Q := by
  refine ⟨1, _, _, ?_, k⟩
  show zStep (zA M pc) _ _ d ls [vI x] H = _
  rw [h]
  show (if ((2 : Nat) = 0 ∨ ((2 : Nat) = 1 ∧ (x = 0 ∨ x = 1)) ∨ ((2 : Nat) = 2 ∧ 0 ≤ x ∧ x < 65536) ∨ ((2 : Nat) = 3 ∧ -128 ≤ x ∧ x < 128)) then some (some (vI x), H) else none) = _
  rw [if_pos (Or.inr (Or.inr (Or.inl ⟨rfl, hx.1, hx.2⟩)))]
theorem r_retB (h : zA M pc = (68, 0, 0, 3, 0, [])) (hx : -128 ≤ x ∧ x < 128) (k : Q (some (vI x)) H) : RZ d M pc ls [vI x] H Q := by
  refine ⟨1, _, _, ?_, k⟩
  show zStep (zA M pc) _ _ d ls [vI x] H = _
  rw [h]
  show (if ((3 : Nat) = 0 ∨ ((3 : Nat) = 1 ∧ (x = 0 ∨ x = 1)) ∨ ((3 : Nat) = 2 ∧ 0 ≤ x ∧ x < 65536) ∨ ((3 : Nat) = 3 ∧ -128 ≤ x ∧ x < 128)) then some (some (vI x), H) else none) = _
  rw [if_pos (Or.inr (Or.inr (Or.inr ⟨rfl, hx.1, hx.2⟩)))]
theorem r_retL (h : zA M pc = (69, nx, 0, 0, 0, [])) (k : Q (some (vL x)) H) : RZ d M pc ls [vL x] H Q := by
  refine ⟨1, _, _, ?_, k⟩
  show zStep (zA M pc) _ _ d ls [vL x] H = _
  rw [h]; rfl
theorem r_retV (h : zA M pc = (70, nx, 0, 0, 0, [])) (k : Q none H) : RZ d M pc ls [] H Q := by
  refine ⟨1, _, _, ?_, k⟩
  show zStep (zA M pc) _ _ d ls [] H = _
  rw [h]; rfl
/-- a call of anything: what the callee does is known -/
theorem r_callH {y b : Nat} {as rest : List XV} {P : Option XV → XH → Prop} (h : zA M pc = (65, nx, y, b, v, [])) (hst : st = as.reverse ++ rest) (hb : as.length = b) (hcat : catSum rest ≤ 8) (hfl : (flat as).length ≤ zMaxAt y) (hrv : v = 0 ∨ recvOK H (zOwAt y) as = true)
    (hc : RZ d y 0 (entryL y as) [] H P) (k : ∀ r H', P r H' → RZ (d + 1) M nx ls (r.toList ++ rest) H' Q) : RZ (d + 1) M pc ls st H Q := by
  obtain ⟨n1, r, H1, c1, c2⟩ := hc
  obtain ⟨n2, r2, H2, k1, k2⟩ := k r H1 c2
  refine ⟨max n1 n2 + 1, r2, H2, ?_, k2⟩
  subst hst
  subst hb
  have e1 : (as.reverse ++ rest).take as.length = as.reverse := by rw [← List.length_reverse, List.take_left]
  have e2 : (as.reverse ++ rest).drop as.length = rest := by rw [← List.length_reverse, List.drop_left]
  show zStep (zA M pc) _ _ (d + 1) ls (as.reverse ++ rest) H = _
  rw [h]
  show oCall nx y as.length v [] (fun d' y as H' => ev (max n1 n2) d' y 0 (entryL y as) [] H') (fun pc' ls' st' H' => ev (max n1 n2) (d + 1) M pc' ls' st' H') (d + 1) ls (as.reverse ++ rest) H = _
  unfold oCall
  rw [e1, e2, List.reverse_reverse, if_neg]
  · dsimp only
    rw [ev_le (Nat.le_max_left n1 n2) c1]
    exact ev_le (Nat.le_max_right n1 n2) k1
  · rintro (q | q | q | q)
    · rw [List.length_append, List.length_reverse] at q; omega
    · omega
    · omega
    · rcases hrv with w | w
      · exact q.1 w
      · rw [w] at q; exact absurd q.2 (by decide)
theorem r_callSpl {M' : Nat} : True := trivial
end RW
