-- ===== a method's contract, out of its run =====
def wsM (y : Nat) : List Cond := Cond.code (zNamAt y) (zCodAt y) (zMaxAt y) (zRetAt y) :: lw_good
def rmM (d mc ms : Nat) : Room := { frames := d, cells := mc, slots := ms, locals := 40 * d }
def okR (n : Nat) : Option XV → Prop
  | some (.inl x) => in32 x
  | some (.inr (.inl x)) => in64 x
  | some (.inr (.inr _)) => False
  | none => True
/-- how a method leaves the heap, at addresses u -/
def BM (fm : Value) (D : va_G) (cI cZ : ClassId) (A : Nat → Prop) (adr0 : Nat → Nat) (n0 : Nat) (r : Option XV) (H' : XH) (u : Nat → Nat) (t : State) : Prop :=
  okH H' ∧ okR H'.1 r ∧ (∀ i, i < 32 + n0 → u i = adr0 i) ∧ va_P D zcl (zwV u fm cI cZ H') t.heap ∧ va_K D zcl [(cI, .int), (cZ, .boolean)] t ∧ va_D A (zwV u fm cI cZ H')
def QM (fm : Value) (D : va_G) (cI cZ : ClassId) (A : Nat → Prop) (adr0 : Nat → Nat) (n0 : Nat) (r : Option XV) (H' : XH) : Array Value → State → Outcome → State → Prop := match r with
  | some (.inl x) => va_Qi (fun (r' : Int32) (_ : Nat → Nat) => r' = Int32.ofInt x) (BM fm D cI cZ A adr0 n0 r H') A
  | some (.inr (.inl x)) => va_Ql (fun (r' : Int64) (_ : Nat → Nat) => r' = Int64.ofInt x) (BM fm D cI cZ A adr0 n0 r H') A
  | _ => va_Qv (fun (_ : Nat → Nat) => True) (BM fm D cI cZ A adr0 n0 r H') A
def PcB (adr : Nat → Nat) (fm : Value) (D : va_G) (cI cZ : ClassId) (H : XH) (sz : Nat) (U : State) : Prop :=
  U.heap.size = sz ∧ va_P D zcl (zwV adr fm cI cZ H) U.heap ∧ va_D (fun _ => True) (zwV adr fm cI cZ H) ∧ va_K D zcl [(cI, .int), (cZ, .boolean)] U ∧ roW adr fm (H.2.2.2.2 1) (va_A (zwV adr fm cI cZ H) sz) U U.heap
/-- what runs to its end is shown, from every state of the machine that is so -/
def SW (n : Nat) : Prop := ∀ (d mid pc : Nat) (ls st : List XV) (H H' : XH) (r : Option XV), mid < 222 → ev n d mid pc ls st H = some (r, H') →
  ∀ (p : Program) (l : Launch) (e : Env) (R : Room) (s : State) (m : MethodId) (args : Array Value) (below : List Frame) (meth : Method) (c : Code) (fm : Value) (D : va_G) (cI cZ : ClassId) (A : Nat → Prop) (adr0 : Nat → Nat) (n0 s0 : Nat) (adr : Nat → Nat) (rls : Array Slot) (Hh : Heap) (locs : List Loc),
    Ctx p R s m args meth c mid d → H'.1 - n0 ≤ R.cells → H'.2.1 - s0 ≤ R.slots → Inv s fm D cI cZ A adr0 n0 s0 (zMaxAt mid) adr rls Hh locs ls st H →
    GO p l e R s m args below meth c fm n0 s0 (MQ below (QM fm D cI cZ A adr0 n0 r H') args s (H'.1 - n0) (H'.2.1 - s0) A) adr rls Hh locs pc st H
theorem flat_cons (v : XV) (t : List XV) : flat (v :: t) = (match v with | .inr (.inl x) => [vL x, vR 0] | v => [v]) ++ flat t := by
  match v with
  | .inl x => rfl
  | .inr (.inl x) => rfl
  | .inr (.inr r) => rfl
theorem flat_args {adr : Nat → Nat} {fm : Value} (hf : isRf fm) : ∀ (as : List XV) (j i : Nat) (v : XV), (flat as)[i]? = some v → v ≠ vR 0 → (j + i, cV adr fm v) ∈ lv_args j (as.map (cV adr fm))
  | [], _, i, v, h, _ => by simp [flat] at h
  | w :: t, j, i, v, h, h0 => by
    rw [List.map_cons, lv_args, cV_cat hf]
    match w, h with
    | .inl x, h =>
      have h : (vI x :: flat t)[i]? = some v := h
      match i, h with
      | 0, h => cases h; exact List.mem_cons_self
      | i + 1, h =>
        refine List.mem_cons_of_mem _ ?_
        have := flat_args (adr := adr) hf t (j + 1) i v h h0
        rw [show j + 1 + i = j + (i + 1) by omega] at this
        exact this
    | .inr (.inl x), h =>
      have h : (vL x :: vR 0 :: flat t)[i]? = some v := h
      match i, h with
      | 0, h => cases h; exact List.mem_cons_self
      | 1, h => cases h; exact absurd rfl h0
      | i + 2, h =>
        refine List.mem_cons_of_mem _ ?_
        have := flat_args (adr := adr) hf t (j + 2) i v h h0
        rw [show j + 2 + i = j + (i + 2) by omega] at this
        exact this
    | .inr (.inr x), h =>
      have h : (vR x :: flat t)[i]? = some v := h
      match i, h with
      | 0, h => cases h; exact List.mem_cons_self
      | i + 1, h =>
        refine List.mem_cons_of_mem _ ?_
        have := flat_args (adr := adr) hf t (j + 1) i v h h0
        rw [show j + 1 + i = j + (i + 1) by omega] at this
        exact this
theorem flat_len {adr : Nat → Nat} {fm : Value} (hf : isRf fm) : ∀ as : List XV, (lg_sl (as.map (cV adr fm))).length = (flat as).length
  | [] => rfl
  | w :: t => by
    have ih := flat_len (adr := adr) hf t
    unfold lg_sl at ih ⊢
    rw [List.map_cons, List.flatMap_cons, List.length_append, ih, cV_cat hf]
    match w with
    | .inl x => show 1 + _ = (vI x :: flat t).length; rw [List.length_cons]; omega
    | .inr (.inl x) => show 2 + _ = (vL x :: vR 0 :: flat t).length; rw [List.length_cons, List.length_cons]; omega
    | .inr (.inr x) => show 1 + _ = (vR x :: flat t).length; rw [List.length_cons]; omega
theorem entryL_len {y : Nat} {as : List XV} (h : (flat as).length ≤ zMaxAt y) : (entryL y as).length = zMaxAt y := by
  unfold entryL
  rw [List.length_append, List.length_replicate]
  omega
theorem entryL_at {y i : Nat} {as : List XV} {v : XV} (h : (entryL y as)[i]? = some v) (h0 : v ≠ vR 0) : (flat as)[i]? = some v := by
  unfold entryL at h
  rw [List.getElem?_append] at h
  split at h
  · exact h
  · rw [List.getElem?_replicate] at h
    split at h
    · cases h; exact absurd rfl h0
    · cases h
theorem flat_ok {n : Nat} : ∀ as : List XV, (∀ v ∈ as, okV n v) → ∀ v ∈ flat as, okV n v
  | [], _ => fun v hv => absurd hv List.not_mem_nil
  | w :: t, h => by
    have ih := flat_ok t (mem_tail h).2
    have hw := (mem_tail h).1
    match w, hw with
    | .inl x, hw => exact mem_put hw ih
    | .inr (.inl x), hw => exact mem_put hw (mem_put (show 0 < 32 + n by omega) ih)
    | .inr (.inr x), hw => exact mem_put hw ih
theorem entryL_ok {n y : Nat} {as : List XV} (h : ∀ v ∈ as, okV n v) : ∀ v ∈ entryL y as, okV n v := by
  intro v hv
  unfold entryL at hv
  rcases List.mem_append.mp hv with q | q
  · exact flat_ok as h v q
  · rw [List.eq_of_mem_replicate q]
    show 0 < 32 + n; omega
theorem LR_entry {adr : Nat → Nat} {fm : Value} (hf : isRf fm) {y : Nat} {as : List XV} (h : (flat as).length ≤ zMaxAt y) : LR adr fm ((lg_sl (as.map (cV adr fm)) ++ List.replicate (zMaxAt y - (lg_sl (as.map (cV adr fm))).length) Slot.unset).toArray) (entryL y as) := by
  have hl := lv_entry (as.map (cV adr fm)) (n := zMaxAt y) (by rw [flat_len hf]; exact h)
  unfold LR
  rw [entryL_len h]
  refine ⟨hl.1, hl.2.1, fun q hq => ?_⟩
  obtain ⟨v, hv, h0, h2⟩ := lvL_mem.mp hq
  have := flat_args (adr := adr) hf as 0 q.1 v (entryL_at hv h0) h0
  rw [Nat.zero_add, ← h2] at this
  exact hl.2.2 q this
theorem zIsInit_of {y : Nat} (h : zIsInit y = true) : (zNamAt y).name = "<init>" := by unfold zIsInit at h; exact beq_iff_eq.mp h
theorem met_of {n : Nat} (hS : SW n) {l : Launch} {d y : Nat} {as : List XV} {H H' : XH} {r : Option XV} (hy : y < 222) (hev : ev n d y 0 (entryL y as) [] H = some (r, H')) (hok : okH H) (has : ∀ v ∈ as, okV H.1 v) (hlen : (flat as).length ≤ zMaxAt y)
    (adr : Nat → Nat) (fm : Value) (D : va_G) (cI cZ : ClassId) (sz : Nat) :
    Met l (zNamAt y) (wsM y) (rmM d (H'.1 - H.1) (H'.2.1 - H.2.1)) (va_Pc (as.map (cV adr fm)) (PcB adr fm D cI cZ H sz)) (QM fm D cI cZ (va_A (zwV adr fm cI cZ H) sz) adr H.1 r H') (H'.1 - H.1) (H'.2.1 - H.2.1) (va_A (zwV adr fm cI cZ H) sz) := by
  refine Met.ofW (cc := zCodAt y) (maxL := zMaxAt y) (ret := zRetAt y) (zplain y hy) rfl ?_
  intro p e s m args below meth c s₁ B hml hv
  obtain ⟨hargs, hsz, hP, hD0, hK, hro⟩ := hv
  have hts := atoms_spec (ws := wsM y) B.pre
  have hown : s.vm.findClass (zNamAt y).cls = some m.cls := findClass_of_methodNamed B.named
  rw [zcls_ok y hy] at hown
  subst hsz
  have X : Ctx p (headSpec (wsM y) (rmM d (H'.1 - H.1) (H'.2.1 - H.2.1))).room s m args meth c y d :=
    ⟨B.exec, B.bytes, hml, hown, fun w hw => hts w (List.mem_cons_of_mem _ hw), B.returns, B.notSynchronized, fun q => by rw [(name_of_methodNamed B.named B.method).1]; exact zIsInit_of q, Nat.le_refl _, Nat.le_refl _⟩
  have V : Inv s fm D cI cZ (va_A (zwV adr fm cI cZ H) s.heap.size) adr H.1 H.2.1 (zMaxAt y) adr ((lg_sl (as.map (cV adr fm)) ++ List.replicate (zMaxAt y - (lg_sl (as.map (cV adr fm))).length) Slot.unset).toArray) s.heap [] (entryL y as) [] H :=
    ⟨hok, entryL_ok has, fun v hv => absurd hv List.not_mem_nil, hP, hD0.self, va_S.rf, hK, hro, LR_entry hro.1 hlen, entryL_len hlen, fun _ _ => rfl, Nat.le_refl _, Nat.le_refl _, fun q hq => Or.inr hq⟩
  subst hargs
  have go := hS d y 0 (entryL y as) [] H H' r hy hev p l e (headSpec (wsM y) (rmM d (H'.1 - H.1) (H'.2.1 - H.2.1))).room s m _ below meth c fm D cI cZ (va_A (zwV adr fm cI cZ H) s.heap.size) adr H.1 H.2.1 adr _ s.heap [] X (Nat.le_refl _) (Nat.le_refl _) V
  rw [lg_entry_eq]
  exact W.cs (Nat.sub_self _).symm (Nat.sub_self _).symm go
-- ===== cells are only added; what lies below the made ones stays =====
def PM (H H' : XH) : Prop := H.1 ≤ H'.1 ∧ H.2.1 ≤ H'.2.1 ∧ ((∀ c, c < 32 → H.2.2.1 c = (0, 0)) → (∀ c, c < 32 → H'.2.2.1 c = (0, 0)) ∧ H'.2.2.2.2 1 = H.2.2.2.2 1)
theorem PM.refl (H : XH) : PM H H := ⟨Nat.le_refl _, Nat.le_refl _, fun h => ⟨h, rfl⟩⟩
theorem PM.trans {a b c : XH} (h1 : PM a b) (h2 : PM b c) : PM a c := ⟨Nat.le_trans h1.1 h2.1, Nat.le_trans h1.2.1 h2.2.1, fun h => ⟨(h2.2.2 (h1.2.2 h).1).1, ((h2.2.2 (h1.2.2 h).1).2).trans (h1.2.2 h).2⟩⟩
def MonoC (C : XC) : Prop := ∀ (d y : Nat) (as : List XV) (H : XH) (r : Option XV) (H' : XH), C d y as H = some (r, H') → PM H H'
def GoesOn (op : XO) : Prop := ∀ (nx a b : Nat) (v : Int) (l : List (Int × Nat)) (C : XC) (k : XK) (d : Nat) (ls st : List XV) (H : XH) (z : Option XV × XH), MonoC C → op nx a b v l C k d ls st H = some z → z.2 = H ∨ ∃ (pc : Nat) (ls' st' : List XV) (H'' : XH), k pc ls' st' H'' = some z ∧ PM H H''
theorem PM_up2 {H : XH} {o : Nat} {k x : Int} (ht : (H.2.2.1 o).1 ≠ 0) : PM H (setM H (up2 H.2.2.2.2 o k x)) :=
  ⟨Nat.le_refl _, Nat.le_refl _, fun h => ⟨h, if_neg (fun q : (1 : Nat) = o => ht (by rw [← q, h 1 (by decide)]))⟩⟩
theorem PM_upc {H : XH} {ss o : Nat} {sp dp n : Int} (ht : (H.2.2.1 o).1 ≠ 0) : PM H (setM H (upc H.2.2.2.2 ss sp o dp n)) :=
  ⟨Nat.le_refl _, Nat.le_refl _, fun h => ⟨h, if_neg (fun q : (1 : Nat) = o => ht (by rw [← q, h 1 (by decide)]))⟩⟩
theorem PM_new {H : XH} {t : Nat × Nat} {sl : Nat} : PM H (newC H t sl) :=
  ⟨Nat.le_succ _, Nat.le_add_right _ _, fun h => ⟨fun c hc => (if_neg (by omega) : up1 H.2.2.1 (32 + H.1) t c = H.2.2.1 c).trans (h c hc), rfl⟩⟩
theorem go_bad : GoesOn oBad := fun _ _ _ _ _ _ _ _ _ _ _ _ _ h => by cases h
theorem go_pushI : GoesOn oPushI := fun _ _ _ _ _ _ _ _ _ _ H _ _ h => Or.inr ⟨_, _, _, H, h, PM.refl H⟩
theorem go_pushL : GoesOn oPushL := fun _ _ _ _ _ _ _ _ _ _ H _ _ h => Or.inr ⟨_, _, _, H, h, PM.refl H⟩
theorem go_statR : GoesOn oStatR := fun _ _ _ _ _ _ _ _ _ _ H _ _ h => Or.inr ⟨_, _, _, H, h, PM.refl H⟩
theorem go_goto : GoesOn oGoto := fun _ _ _ _ _ _ _ _ _ _ H _ _ h => Or.inr ⟨_, _, _, H, h, PM.refl H⟩
theorem go_loadI : GoesOn oLoadI := fun _ _ _ _ _ _ _ _ _ _ H _ _ h => by obtain ⟨x, -, h1⟩ := oLoadI_inv h; exact Or.inr ⟨_, _, _, H, h1, PM.refl H⟩
theorem go_loadL : GoesOn oLoadL := fun _ _ _ _ _ _ _ _ _ _ H _ _ h => by obtain ⟨x, -, h1⟩ := oLoadL_inv h; exact Or.inr ⟨_, _, _, H, h1, PM.refl H⟩
theorem go_loadA : GoesOn oLoadA := fun _ _ _ _ _ _ _ _ _ _ H _ _ h => by obtain ⟨x, -, -, h1⟩ := oLoadA_inv h; exact Or.inr ⟨_, _, _, H, h1, PM.refl H⟩
theorem go_storeI : GoesOn oStoreI := fun _ _ _ _ _ _ _ _ _ _ H _ _ h => by obtain ⟨x, st', -, -, -, h1⟩ := oStoreI_inv h; exact Or.inr ⟨_, _, _, H, h1, PM.refl H⟩
theorem go_storeA : GoesOn oStoreA := fun _ _ _ _ _ _ _ _ _ _ H _ _ h => by obtain ⟨x, st', -, -, -, -, h1⟩ := oStoreA_inv h; exact Or.inr ⟨_, _, _, H, h1, PM.refl H⟩
theorem go_storeL : GoesOn oStoreL := fun _ _ _ _ _ _ _ _ _ _ H _ _ h => by obtain ⟨x, st', -, -, -, h1⟩ := oStoreL_inv h; exact Or.inr ⟨_, _, _, H, h1, PM.refl H⟩
theorem go_iinc : GoesOn oIinc := fun _ _ _ _ _ _ _ _ _ _ H _ _ h => by obtain ⟨x, -, -, h1⟩ := oIinc_inv h; exact Or.inr ⟨_, _, _, H, h1, PM.refl H⟩
theorem go_bin (f : Int → Int → Int) : GoesOn (oBin f) := fun _ _ _ _ _ _ _ _ _ _ H _ _ h => by obtain ⟨y, x, st', -, h1⟩ := oBin_inv h; exact Or.inr ⟨_, _, _, H, h1, PM.refl H⟩
theorem go_divI (f : Int → Int → Int) : GoesOn (oDivI f) := fun _ _ _ _ _ _ _ _ _ _ H _ _ h => by obtain ⟨y, x, st', -, -, h1⟩ := oDivI_inv h; exact Or.inr ⟨_, _, _, H, h1, PM.refl H⟩
theorem go_un (f : Int → Int) : GoesOn (oUn f) := fun _ _ _ _ _ _ _ _ _ _ H _ _ h => by obtain ⟨x, st', -, h1⟩ := oUn_inv h; exact Or.inr ⟨_, _, _, H, h1, PM.refl H⟩
theorem go_binL (f : Int → Int → Int) : GoesOn (oBinL f) := fun _ _ _ _ _ _ _ _ _ _ H _ _ h => by obtain ⟨y, x, st', -, h1⟩ := oBinL_inv h; exact Or.inr ⟨_, _, _, H, h1, PM.refl H⟩
theorem go_divL (f : Int → Int → Int) : GoesOn (oDivL f) := fun _ _ _ _ _ _ _ _ _ _ H _ _ h => by obtain ⟨y, x, st', -, -, h1⟩ := oDivL_inv h; exact Or.inr ⟨_, _, _, H, h1, PM.refl H⟩
theorem go_math (f : Int → Int → Int) : GoesOn (oMath f) := fun _ _ _ _ _ _ _ _ _ _ H _ _ h => by obtain ⟨y, x, st', -, -, -, h1⟩ := oMath_inv h; exact Or.inr ⟨_, _, _, H, h1, PM.refl H⟩
theorem go_mathL (f : Int → Int → Int) : GoesOn (oMathL f) := fun _ _ _ _ _ _ _ _ _ _ H _ _ h => by obtain ⟨y, x, st', -, -, -, h1⟩ := oMathL_inv h; exact Or.inr ⟨_, _, _, H, h1, PM.refl H⟩
theorem go_lcmp : GoesOn oLcmp := fun _ _ _ _ _ _ _ _ _ _ H _ _ h => by obtain ⟨y, x, st', -, h1⟩ := oLcmp_inv h; exact Or.inr ⟨_, _, _, H, h1, PM.refl H⟩
theorem go_i2l : GoesOn oI2l := fun _ _ _ _ _ _ _ _ _ _ H _ _ h => by obtain ⟨x, st', -, h1⟩ := oI2l_inv h; exact Or.inr ⟨_, _, _, H, h1, PM.refl H⟩
theorem go_if (f : Int → Bool) : GoesOn (oIf f) := fun _ _ _ _ _ _ _ _ _ _ H _ _ h => by
  obtain ⟨x, st', -, h1, h2⟩ := oIf_inv h
  cases q : f x
  · exact Or.inr ⟨_, _, _, H, h2 q, PM.refl H⟩
  · exact Or.inr ⟨_, _, _, H, h1 q, PM.refl H⟩
theorem go_ifc (f : Int → Int → Bool) : GoesOn (oIfc f) := fun _ _ _ _ _ _ _ _ _ _ H _ _ h => by
  obtain ⟨y, x, st', -, h1, h2⟩ := oIfc_inv h
  cases q : f x y
  · exact Or.inr ⟨_, _, _, H, h2 q, PM.refl H⟩
  · exact Or.inr ⟨_, _, _, H, h1 q, PM.refl H⟩
theorem go_dup : GoesOn oDup := fun _ _ _ _ _ _ _ _ _ _ H _ _ h => by obtain ⟨x, st', -, -, h1⟩ := oDup_inv h; exact Or.inr ⟨_, _, _, H, h1, PM.refl H⟩
theorem go_pop : GoesOn oPop := fun _ _ _ _ _ _ _ _ _ _ H _ _ h => by obtain ⟨x, st', -, -, h1⟩ := oPop_inv h; exact Or.inr ⟨_, _, _, H, h1, PM.refl H⟩
theorem go_dupx1 : GoesOn oDupX1 := fun _ _ _ _ _ _ _ _ _ _ H _ _ h => by obtain ⟨x, y, st', -, -, -, h1⟩ := oDupX1_inv h; exact Or.inr ⟨_, _, _, H, h1, PM.refl H⟩
theorem go_dup2 : GoesOn oDup2 := fun _ _ _ _ _ _ _ _ _ _ H _ _ h => by obtain ⟨x, y, st', -, -, -, h1⟩ := oDup2_inv h; exact Or.inr ⟨_, _, _, H, h1, PM.refl H⟩
theorem go_getI : GoesOn oGetI := fun _ _ _ _ _ _ _ _ _ _ H _ _ h => by obtain ⟨o, st', -, -, h1⟩ := oGetI_inv h; exact Or.inr ⟨_, _, _, H, h1, PM.refl H⟩
theorem go_getL : GoesOn oGetL := fun _ _ _ _ _ _ _ _ _ _ H _ _ h => by obtain ⟨o, st', -, -, h1⟩ := oGetL_inv h; exact Or.inr ⟨_, _, _, H, h1, PM.refl H⟩
theorem go_getR : GoesOn oGetR := fun _ _ _ _ _ _ _ _ _ _ H _ _ h => by obtain ⟨o, st', -, -, -, h1⟩ := oGetR_inv h; exact Or.inr ⟨_, _, _, H, h1, PM.refl H⟩
theorem go_putI : GoesOn oPutI := fun _ _ _ _ _ _ _ _ _ _ H _ _ h => by obtain ⟨x, o, st', -, ht, h1⟩ := oPutI_inv h; exact Or.inr ⟨_, _, _, _, h1, PM_up2 (by rw [ht]; exact Nat.one_ne_zero)⟩
theorem go_putL : GoesOn oPutL := fun _ _ _ _ _ _ _ _ _ _ H _ _ h => by obtain ⟨x, o, st', -, ht, h1⟩ := oPutL_inv h; exact Or.inr ⟨_, _, _, _, h1, PM_up2 (by rw [ht]; exact Nat.one_ne_zero)⟩
theorem go_putZ : GoesOn oPutZ := fun _ _ _ _ _ _ _ _ _ _ H _ _ h => by obtain ⟨x, o, st', -, ht, -, h1⟩ := oPutZ_inv h; exact Or.inr ⟨_, _, _, _, h1, PM_up2 (by rw [ht]; exact Nat.one_ne_zero)⟩
theorem go_putR : GoesOn oPutR := fun _ _ _ _ _ _ _ _ _ _ H _ _ h => by obtain ⟨x, o, st', -, ht, -, h1⟩ := oPutR_inv h; exact Or.inr ⟨_, _, _, _, h1, Nat.le_refl _, Nat.le_refl _, fun q => ⟨q, rfl⟩⟩
theorem go_strV : GoesOn oStrV := fun _ _ _ _ _ _ _ _ _ _ H _ _ h => by obtain ⟨o, st', -, -, -, h1⟩ := oStrV_inv h; exact Or.inr ⟨_, _, _, H, h1, PM.refl H⟩
theorem go_strC : GoesOn oStrC := fun _ _ _ _ _ _ _ _ _ _ H _ _ h => by obtain ⟨o, st', -, -, -, h1⟩ := oStrC_inv h; exact Or.inr ⟨_, _, _, H, h1, PM.refl H⟩
theorem go_iald : GoesOn oIald := fun _ _ _ _ _ _ _ _ _ _ H _ _ h => by
  obtain ⟨i, o, st', -, -, h1⟩ := oIald_inv h
  rcases h1 with ⟨-, -, h1⟩ | ⟨-, h1⟩ | ⟨-, -, h1⟩ <;> exact Or.inr ⟨_, _, _, H, h1, PM.refl H⟩
theorem go_lald : GoesOn oLald := fun _ _ _ _ _ _ _ _ _ _ H _ _ h => by obtain ⟨i, st', -, -, -, h1⟩ := oLald_inv h; exact Or.inr ⟨_, _, _, H, h1, PM.refl H⟩
theorem go_bald : GoesOn oBald := fun _ _ _ _ _ _ _ _ _ _ H _ _ h => by
  obtain ⟨i, o, st', -, -, h1⟩ := oBald_inv h
  rcases h1 with ⟨-, -, h1⟩ | ⟨-, -, -, h1⟩ <;> exact Or.inr ⟨_, _, _, H, h1, PM.refl H⟩
theorem go_iast : GoesOn oIast := fun _ _ _ _ _ _ _ _ _ _ H _ _ h => by obtain ⟨x, i, o, st', -, ht, -, -, h1⟩ := oIast_inv h; exact Or.inr ⟨_, _, _, _, h1, PM_up2 (by rw [ht]; decide)⟩
theorem go_bast : GoesOn oBast := fun _ _ _ _ _ _ _ _ _ _ H _ _ h => by obtain ⟨x, i, o, st', -, ht, -, -, -, h1⟩ := oBast_inv h; exact Or.inr ⟨_, _, _, _, h1, PM_up2 (by rw [ht]; decide)⟩
theorem go_alen : GoesOn oAlen := fun _ _ _ _ _ _ _ _ _ _ H _ _ h => by
  obtain ⟨o, st', -, h1⟩ := oAlen_inv h
  rcases h1 with ⟨-, h1⟩ | ⟨-, h1⟩ | ⟨-, -, h1⟩ <;> exact Or.inr ⟨_, _, _, H, h1, PM.refl H⟩
theorem go_newA : GoesOn oNewA := fun _ _ _ _ _ _ _ _ _ _ H _ _ h => by obtain ⟨x, st', -, -, -, h1⟩ := oNewA_inv h; exact Or.inr ⟨_, _, _, _, h1, PM_new⟩
theorem go_new : GoesOn oNew := fun _ _ _ _ _ _ _ _ _ _ _ _ _ h => Or.inr ⟨_, _, _, _, h, PM_new⟩
theorem go_call : GoesOn oCall := fun _ _ _ _ _ _ _ _ _ _ H _ hC h => by obtain ⟨-, -, -, -, d', r, H', -, h2, h1⟩ := oCall_inv h; exact Or.inr ⟨_, _, _, _, h1, hC _ _ _ _ _ _ h2⟩
theorem go_obj : GoesOn oObj := fun _ _ _ _ _ _ _ _ _ _ H _ _ h => by obtain ⟨o, st', -, -, -, -, h1⟩ := oObj_inv h; exact Or.inr ⟨_, _, _, H, h1, PM.refl H⟩
theorem go_copy : GoesOn oCopy := fun _ _ _ _ _ _ _ _ _ _ H _ _ h => by obtain ⟨n, dp, dd, sp, ss, -, hc, h1⟩ := oCopy_inv h; exact Or.inr ⟨_, _, _, _, h1, PM_upc (by rw [hc.2.2.2.1]; rcases hc.2.2.1 with q | q <;> rw [q] <;> decide)⟩
theorem go_retI : GoesOn oRetI := fun _ _ _ _ _ _ _ _ _ _ H _ _ h => by obtain ⟨x, -, -, rfl⟩ := oRetI_inv h; exact Or.inl rfl
theorem go_retL : GoesOn oRetL := fun _ _ _ _ _ _ _ _ _ _ H _ _ h => by obtain ⟨x, -, rfl⟩ := oRetL_inv h; exact Or.inl rfl
theorem go_retV : GoesOn oRetV := fun _ _ _ _ _ _ _ _ _ _ H _ _ h => by obtain ⟨-, rfl⟩ := oRetV_inv h; exact Or.inl rfl
theorem go_switch : GoesOn oSwitch := fun _ _ _ _ _ _ _ _ _ _ H _ _ h => by obtain ⟨x, st', -, h1⟩ := oSwitch_inv h; exact Or.inr ⟨_, _, _, H, h1, PM.refl H⟩
theorem zOps_go : ∀ op ∈ zOps, GoesOn op := List.forall_mem_cons.mpr ⟨go_bad, List.forall_mem_cons.mpr ⟨go_pushI, List.forall_mem_cons.mpr ⟨go_pushL, List.forall_mem_cons.mpr ⟨go_loadI, List.forall_mem_cons.mpr ⟨go_loadA, List.forall_mem_cons.mpr ⟨go_loadL, List.forall_mem_cons.mpr ⟨go_storeI, List.forall_mem_cons.mpr ⟨go_storeA, List.forall_mem_cons.mpr ⟨go_storeL, List.forall_mem_cons.mpr ⟨go_iinc, List.forall_mem_cons.mpr ⟨go_bin _, List.forall_mem_cons.mpr ⟨go_bin _, List.forall_mem_cons.mpr ⟨go_bin _, List.forall_mem_cons.mpr ⟨go_divI _, List.forall_mem_cons.mpr ⟨go_divI _, List.forall_mem_cons.mpr ⟨go_un _, List.forall_mem_cons.mpr ⟨go_bin _, List.forall_mem_cons.mpr ⟨go_bin _, List.forall_mem_cons.mpr ⟨go_bin _, List.forall_mem_cons.mpr ⟨go_bin _, List.forall_mem_cons.mpr ⟨go_bin _, List.forall_mem_cons.mpr ⟨go_binL _, List.forall_mem_cons.mpr ⟨go_binL _, List.forall_mem_cons.mpr ⟨go_binL _, List.forall_mem_cons.mpr ⟨go_divL _, List.forall_mem_cons.mpr ⟨go_divL _, List.forall_mem_cons.mpr ⟨go_lcmp, List.forall_mem_cons.mpr ⟨go_i2l, List.forall_mem_cons.mpr ⟨go_un _, List.forall_mem_cons.mpr ⟨go_un _, List.forall_mem_cons.mpr ⟨go_goto, List.forall_mem_cons.mpr ⟨go_if _, List.forall_mem_cons.mpr ⟨go_if _, List.forall_mem_cons.mpr ⟨go_if _, List.forall_mem_cons.mpr ⟨go_if _, List.forall_mem_cons.mpr ⟨go_if _, List.forall_mem_cons.mpr ⟨go_if _, List.forall_mem_cons.mpr ⟨go_ifc _, List.forall_mem_cons.mpr ⟨go_ifc _, List.forall_mem_cons.mpr ⟨go_ifc _, List.forall_mem_cons.mpr ⟨go_ifc _, List.forall_mem_cons.mpr ⟨go_ifc _, List.forall_mem_cons.mpr ⟨go_ifc _, List.forall_mem_cons.mpr ⟨go_dup, List.forall_mem_cons.mpr ⟨go_dupx1, List.forall_mem_cons.mpr ⟨go_dup2, List.forall_mem_cons.mpr ⟨go_pop, List.forall_mem_cons.mpr ⟨go_getI, List.forall_mem_cons.mpr ⟨go_getL, List.forall_mem_cons.mpr ⟨go_getR, List.forall_mem_cons.mpr ⟨go_putI, List.forall_mem_cons.mpr ⟨go_putZ, List.forall_mem_cons.mpr ⟨go_putL, List.forall_mem_cons.mpr ⟨go_putR, List.forall_mem_cons.mpr ⟨go_strV, List.forall_mem_cons.mpr ⟨go_strC, List.forall_mem_cons.mpr ⟨go_iald, List.forall_mem_cons.mpr ⟨go_lald, List.forall_mem_cons.mpr ⟨go_bald, List.forall_mem_cons.mpr ⟨go_iast, List.forall_mem_cons.mpr ⟨go_bast, List.forall_mem_cons.mpr ⟨go_alen, List.forall_mem_cons.mpr ⟨go_newA, List.forall_mem_cons.mpr ⟨go_new, List.forall_mem_cons.mpr ⟨go_statR, List.forall_mem_cons.mpr ⟨go_call, List.forall_mem_cons.mpr ⟨go_obj, List.forall_mem_cons.mpr ⟨go_copy, List.forall_mem_cons.mpr ⟨go_retI, List.forall_mem_cons.mpr ⟨go_retL, List.forall_mem_cons.mpr ⟨go_retV, List.forall_mem_cons.mpr ⟨go_switch, List.forall_mem_cons.mpr ⟨go_math _, List.forall_mem_cons.mpr ⟨go_math _, List.forall_mem_cons.mpr ⟨go_mathL _, fun _ h => absurd h List.not_mem_nil⟩⟩⟩⟩⟩⟩⟩⟩⟩⟩⟩⟩⟩⟩⟩⟩⟩⟩⟩⟩⟩⟩⟩⟩⟩⟩⟩⟩⟩⟩⟩⟩⟩⟩⟩⟩⟩⟩⟩⟩⟩⟩⟩⟩⟩⟩⟩⟩⟩⟩⟩⟩⟩⟩⟩⟩⟩⟩⟩⟩⟩⟩⟩⟩⟩⟩⟩⟩⟩⟩⟩⟩⟩⟩⟩
theorem zStep_go {i : XI} {C : XC} {k : XK} {d : Nat} {ls st : List XV} {H : XH} {z : Option XV × XH} (hC : MonoC C) (h : zStep i C k d ls st H = some z) : z.2 = H ∨ ∃ (pc : Nat) (ls' st' : List XV) (H'' : XH), k pc ls' st' H'' = some z ∧ PM H H'' :=
  getD_all (P := GoesOn) zOps_go go_bad i.1 _ _ _ _ _ _ _ _ _ _ _ _ hC h
theorem ev_mono : ∀ (n d mid pc : Nat) (ls st : List XV) (H : XH) (r : Option XV) (H' : XH), ev n d mid pc ls st H = some (r, H') → PM H H'
  | 0, _, _, _, _, _, _, _, _, h => by cases h
  | n + 1, d, mid, pc, ls, st, H, r, H', h => by
    rcases zStep_go (fun d' y as H r H' q => ev_mono n d' y 0 (entryL y as) [] H r H' q) h with q | ⟨pc', ls', st', H'', q1, q2⟩
    · have q : H' = H := q
      rw [q]; exact PM.refl H
    · exact q2.trans (ev_mono n d mid pc' ls' st' H'' r H' q1)
