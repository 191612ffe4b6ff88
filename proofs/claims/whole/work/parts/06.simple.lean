-- ===== the frame of a run =====
def Ctx (p : Program) (R : Room) (s : State) (m : MethodId) (args : Array Value) (meth : Method) (c : Code) (mid d : Nat) : Prop :=
  p.tables.exec = Jvm.exec ∧ c.code = zCodAt mid ∧ c.maxLocals = zMaxAt mid ∧ s.vm.findClass (zClsAt (zOwAt mid)) = some m.cls ∧ (∀ w ∈ lw_good, w.before args s = true) ∧ meth.sig.returnType = zRetAt mid ∧ meth.locks = false ∧ (zIsInit mid = true → meth.name = "<init>") ∧ d ≤ R.frames ∧ 40 * d ≤ R.locals
def zSrI (i : Nat) : String × Nat × String := ([("FortyGates$Reader", 76, "rut "), ("FortyGates$Reader", 78, "fog "), ("FortyGates$Reader", 110, "0123456789"), ("FortyGates$Reader", 56, "wax "), ("FortyGates$Reader", 58, "ice "), ("FortyGates$Reader", 99, "gktprs"), ("FortyGates$Reader", 105, "<=>"), ("FortyGatesModel", 138, "rut "), ("FortyGatesModel", 144, "fog "), ("FortyGatesModel", 146, "wax "), ("FortyGatesModel", 120, "gktprs"), ("FortyGatesModel", 126, "<=>"), ("FortyGatesModel", 151, "ice ")] : List (String × Nat × String))[i]?.getD ("", 0, "")
def roT (adr : Nat → Nat) (fm : Value) (A : Nat → Prop) (U : State) (Hh : Heap) : Prop :=
  va_Z "FortyGates" "ABOVE" "[I" (.ref (adr 2)) A U Hh ∧ va_T .int (adr 2) 7 (fun j => .int (Int32.ofInt (zTab 2 (j : Int)))) A U Hh ∧
  va_Z "FortyGates" "OF_CHANCES" "[J" (.ref (adr 3)) A U Hh ∧ va_T .long (adr 3) 8 (fun j => .long (Int64.ofInt (zTab 3 (j : Int)))) A U Hh ∧
  va_Z "FortyGates$Acts" "BODY" "[I" (.ref (adr 4)) A U Hh ∧ va_T .int (adr 4) 21 (fun j => .int (Int32.ofInt (zTab 4 (j : Int)))) A U Hh ∧
  va_Z "jdk/internal/util/Preconditions" "SIOOBE_FORMATTER" "Ljava/util/function/BiFunction;" fm A U Hh ∧ va_Z "java/lang/String" "COMPACT_STRINGS" "Z" (.int 1) A U Hh ∧
  ∀ i : Nat, i < 13 → va_O "java/lang/String" (adr (6 + i)) A U Hh ∧ va_OF "java/lang/String" "coder" "B" (.int 0) (adr (6 + i)) A U Hh ∧ va_OF "java/lang/String" "value" "[B" (.ref (adr (19 + i))) (adr (6 + i)) A U Hh ∧ va_T .byte (adr (19 + i)) (zLen (19 + i)) (fun j => .int (Int32.ofInt (zTab (19 + i) (j : Int)))) A U Hh
def roN (U : State) : Prop := (∀ q ∈ zM, q.2.2.2.2 = 3 → va_Nw (.methodLinkNest (zClsAt q.1) q.2.1 (zNamAt q.2.2.1) "FortyGates") U) ∧ va_Nw (.fieldLinkNest (zClsAt 0) 43 "FortyGates" "ABOVE" "[I" "FortyGates") U ∧ va_Nw (.fieldLinkNest (zClsAt 8) 41 "FortyGates" "OF_CHANCES" "[J" "FortyGates") U
def roW (adr : Nat → Nat) (fm : Value) (f : Int → Int) (A : Nat → Prop) (U : State) (Hh : Heap) : Prop :=
  isRf fm ∧ (va_X (adr 1) (f (-1)).toNat (fun k => Int32.ofInt (f (k : Int))) U Hh ∧ adr 1 < Hh.size ∧ ¬ A (adr 1)) ∧ roT adr fm A U Hh ∧ (∀ i : Nat, i < 13 → vk_R (zSrI i).1 (zSrI i).2.1 (zSrI i).2.2 (adr (6 + i)) U) ∧ roN U
def Inv (s : State) (fm : Value) (D : va_G) (cI cZ : ClassId) (A : Nat → Prop) (adr0 : Nat → Nat) (n0 s0 nL : Nat) (adr : Nat → Nat) (rls : Array Slot) (Hh : Heap) (locs : List Loc) (ls st : List XV) (H : XH) : Prop :=
  okH H ∧ (∀ v ∈ ls, okV H.1 v) ∧ (∀ v ∈ st, okV H.1 v) ∧ va_P D zcl (zwV adr fm cI cZ H) Hh ∧ va_D A (zwV adr fm cI cZ H) ∧ va_S A s.heap Hh locs ∧ va_K D zcl [(cI, .int), (cZ, .boolean)] s ∧ roW adr fm (H.2.2.2.2 1) A s s.heap ∧ LR adr fm rls ls ∧ ls.length = nL ∧ (∀ i, i < 32 + n0 → adr i = adr0 i) ∧ n0 ≤ H.1 ∧ s0 ≤ H.2.1 ∧ (∀ q : Nat, s.heap.size ≤ q → A q)
theorem Inv.st {s : State} {fm : Value} {D : va_G} {cI cZ : ClassId} {A : Nat → Prop} {adr0 : Nat → Nat} {n0 s0 nL : Nat} {adr : Nat → Nat} {rls : Array Slot} {Hh : Heap} {locs : List Loc} {ls st st' : List XV} {H : XH}
    (V : Inv s fm D cI cZ A adr0 n0 s0 nL adr rls Hh locs ls st H) (h : ∀ v ∈ st', okV H.1 v) : Inv s fm D cI cZ A adr0 n0 s0 nL adr rls Hh locs ls st' H :=
  ⟨V.1, V.2.1, h, V.2.2.2⟩
theorem Inv.fm {s : State} {fm : Value} {D : va_G} {cI cZ : ClassId} {A : Nat → Prop} {adr0 : Nat → Nat} {n0 s0 nL : Nat} {adr : Nat → Nat} {rls : Array Slot} {Hh : Heap} {locs : List Loc} {ls st : List XV} {H : XH}
    (V : Inv s fm D cI cZ A adr0 n0 s0 nL adr rls Hh locs ls st H) : isRf fm := V.2.2.2.2.2.2.2.1.1
theorem Inv.lr {s : State} {fm : Value} {D : va_G} {cI cZ : ClassId} {A : Nat → Prop} {adr0 : Nat → Nat} {n0 s0 nL : Nat} {adr : Nat → Nat} {rls : Array Slot} {Hh : Heap} {locs : List Loc} {ls st : List XV} {H : XH}
    (V : Inv s fm D cI cZ A adr0 n0 s0 nL adr rls Hh locs ls st H) : LR adr fm rls ls := V.2.2.2.2.2.2.2.2.1
theorem Inv.len {s : State} {fm : Value} {D : va_G} {cI cZ : ClassId} {A : Nat → Prop} {adr0 : Nat → Nat} {n0 s0 nL : Nat} {adr : Nat → Nat} {rls : Array Slot} {Hh : Heap} {locs : List Loc} {ls st : List XV} {H : XH}
    (V : Inv s fm D cI cZ A adr0 n0 s0 nL adr rls Hh locs ls st H) : ls.length = nL := V.2.2.2.2.2.2.2.2.2.1
theorem Inv.ls {s : State} {fm : Value} {D : va_G} {cI cZ : ClassId} {A : Nat → Prop} {adr0 : Nat → Nat} {n0 s0 nL : Nat} {adr : Nat → Nat} {rls rls' : Array Slot} {Hh : Heap} {locs : List Loc} {ls st ls' st' : List XV} {H : XH}
    (V : Inv s fm D cI cZ A adr0 n0 s0 nL adr rls Hh locs ls st H) (h1 : ∀ v ∈ ls', okV H.1 v) (h2 : ∀ v ∈ st', okV H.1 v) (h3 : LR adr fm rls' ls') (h4 : ls'.length = ls.length) : Inv s fm D cI cZ A adr0 n0 s0 nL adr rls' Hh locs ls' st' H :=
  ⟨V.1, h1, h2, V.2.2.2.1, V.2.2.2.2.1, V.2.2.2.2.2.1, V.2.2.2.2.2.2.1, V.2.2.2.2.2.2.2.1, h3, h4.trans V.len, V.2.2.2.2.2.2.2.2.2.2⟩
theorem mem_tail {α : Type} {P : α → Prop} {a : α} {l : List α} (h : ∀ v ∈ a :: l, P v) : P a ∧ ∀ v ∈ l, P v := ⟨h a List.mem_cons_self, fun v hv => h v (List.mem_cons_of_mem _ hv)⟩
theorem mem_put {α : Type} {P : α → Prop} {a : α} {l : List α} (ha : P a) (h : ∀ v ∈ l, P v) : ∀ v ∈ a :: l, P v := fun v hv => (List.mem_cons.mp hv).elim (fun e => e ▸ ha) (h v)
theorem mem_set {α : Type} {P : α → Prop} {a : α} {l : List α} {i : Nat} (ha : P a) (h : ∀ v ∈ l, P v) : ∀ v ∈ l.set i a, P v := fun v hv => (List.mem_or_eq_of_mem_set hv).elim (h v) (fun e => e ▸ ha)
section SO
variable {p : Program} {l : Launch} {e : Env} {R : Room} {s : State} {m : MethodId} {args : Array Value} {below : List Frame} {meth : Method} {c : Code} {mid d : Nat} {fm : Value} {D : va_G} {cI cZ : ClassId} {A : Nat → Prop} {adr0 : Nat → Nat} {n0 s0 nL : Nat} {Q : State → Prop} {z : Option XV × XH}
/-- what goes on is shown -/
def KK (p : Program) (l : Launch) (e : Env) (R : Room) (s : State) (m : MethodId) (args : Array Value) (below : List Frame) (meth : Method) (c : Code) (fm : Value) (D : va_G) (cI cZ : ClassId) (A : Nat → Prop) (adr0 : Nat → Nat) (n0 s0 nL : Nat) (Q : State → Prop) (z : Option XV × XH) (k : XK) : Prop :=
  ∀ (pc : Nat) (ls st : List XV) (H : XH), k pc ls st H = some z → ∀ (adr : Nat → Nat) (rls : Array Slot) (Hh : Heap) (locs : List Loc), Inv s fm D cI cZ A adr0 n0 s0 nL adr rls Hh locs ls st H → W p l e R s m args below meth c Hh locs (H.1 - n0) (H.2.1 - s0) Q (F0 m pc rls (st.map (cV adr fm)))
variable {k : XK} {C : XC} {ls st : List XV} {H : XH} {adr : Nat → Nat} {rls : Array Slot} {Hh : Heap} {locs : List Loc} {pc len : Nat}
/-- the goal of every instruction -/
abbrev GO (p : Program) (l : Launch) (e : Env) (R : Room) (s : State) (m : MethodId) (args : Array Value) (below : List Frame) (meth : Method) (c : Code) (fm : Value) (n0 s0 : Nat) (Q : State → Prop) (adr : Nat → Nat) (rls : Array Slot) (Hh : Heap) (locs : List Loc) (pc : Nat) (st : List XV) (H : XH) : Prop :=
  W p l e R s m args below meth c Hh locs (H.1 - n0) (H.2.1 - s0) Q (F0 m pc rls (st.map (cV adr fm)))
theorem step_of {x : XI} (hA : zA mid pc = x) (h : zStep (zA mid pc) C k d ls st H = some z) : zStep x C k d ls st H = some z := hA ▸ h
theorem zA_of {ins : Instr} (hd : decode (zCodAt mid) pc = .ok (ins, len)) : zA mid pc = zRes mid pc ins len := by unfold zA; rw [hd]
theorem bad_step : zStep xBad C k d ls st H = some z → False := fun h => by cases h
theorem xIf_step {b : Bool} {x : XI} (h : zStep (xIf b x) C k d ls st H = some z) : b = true ∧ zStep x C k d ls st H = some z := by
  unfold xIf at h
  by_cases hb : b = true
  · rw [if_pos hb] at h; exact ⟨hb, h⟩
  · rw [if_neg hb] at h; exact absurd h fun q => bad_step q
theorem x0_step {op n : Nat} (h : zStep (x0 op pc n len) C k d ls st H = some z) : len = n ∧ zStep (op, pc + n, 0, 0, 0, []) C k d ls st H = some z := by
  obtain ⟨h1, h2⟩ := xIf_step h; exact ⟨of_decide_eq_true h1, h2⟩
theorem xa_step {op n a : Nat} (h : zStep (xa op pc n len a) C k d ls st H = some z) : len = n ∧ zStep (op, pc + n, a, 0, 0, []) C k d ls st H = some z := by
  obtain ⟨h1, h2⟩ := xIf_step h; exact ⟨of_decide_eq_true h1, h2⟩
theorem xv_step {op n : Nat} {v : Int} (h : zStep (xv op pc n len v) C k d ls st H = some z) : len = n ∧ zStep (op, pc + n, 0, 0, v, []) C k d ls st H = some z := by
  obtain ⟨h1, h2⟩ := xIf_step h; exact ⟨of_decide_eq_true h1, h2⟩
theorem xJ_step {op n : Nat} {off : Int} (h : zStep (xJ op pc n len off) C k d ls st H = some z) : len = n ∧ (pc : Int) + off = (tgt pc off : Int) ∧ zStep (op, pc + n, tgt pc off, 0, 0, []) C k d ls st H = some z := by
  obtain ⟨h1, h2⟩ := xIf_step h
  rw [Bool.and_eq_true] at h1
  have h3 := of_decide_eq_true h1.2
  exact ⟨of_decide_eq_true h1.1, by unfold tgt; omega, h2⟩
-- the next three: an int, a long, or what is there is pushed
theorem so_pushI (X : Ctx p R s m args meth c mid d) (K : KK p l e R s m args below meth c fm D cI cZ A adr0 n0 s0 nL Q z k) (V : Inv s fm D cI cZ A adr0 n0 s0 nL adr rls Hh locs ls st H) {v : Int} {nx : Nat} (hv : in32 v) (h : zStep (1, nx, 0, 0, v, []) C k d ls st H = some z)
    (go : W p l e R s m args below meth c Hh locs (H.1 - n0) (H.2.1 - s0) Q (F0 m nx rls (.int (Int32.ofInt v) :: st.map (cV adr fm))) → GO p l e R s m args below meth c fm n0 s0 Q adr rls Hh locs pc st H) : GO p l e R s m args below meth c fm n0 s0 Q adr rls Hh locs pc st H := by
  have h1 : k nx ls (vI v :: st) H = some z := h
  exact go (K _ _ _ _ h1 _ _ _ _ (V.st (mem_put hv V.2.2.1)))
theorem so_pushL (X : Ctx p R s m args meth c mid d) (K : KK p l e R s m args below meth c fm D cI cZ A adr0 n0 s0 nL Q z k) (V : Inv s fm D cI cZ A adr0 n0 s0 nL adr rls Hh locs ls st H) {v : Int} {nx : Nat} (hv : in64 v) (h : zStep (2, nx, 0, 0, v, []) C k d ls st H = some z)
    (go : W p l e R s m args below meth c Hh locs (H.1 - n0) (H.2.1 - s0) Q (F0 m nx rls (.long (Int64.ofInt v) :: st.map (cV adr fm))) → GO p l e R s m args below meth c fm n0 s0 Q adr rls Hh locs pc st H) : GO p l e R s m args below meth c fm n0 s0 Q adr rls Hh locs pc st H := by
  have h1 : k nx ls (vL v :: st) H = some z := h
  exact go (K _ _ _ _ h1 _ _ _ _ (V.st (mem_put hv V.2.2.1)))
theorem so_loadI (X : Ctx p R s m args meth c mid d) (K : KK p l e R s m args below meth c fm D cI cZ A adr0 n0 s0 nL Q z k) (V : Inv s fm D cI cZ A adr0 n0 s0 nL adr rls Hh locs ls st H) {a nx : Nat} (h : zStep (3, nx, a, 0, 0, []) C k d ls st H = some z)
    (go : ∀ x : Int, rls[a]? = some (.val (.int (Int32.ofInt x))) → W p l e R s m args below meth c Hh locs (H.1 - n0) (H.2.1 - s0) Q (F0 m nx rls (.int (Int32.ofInt x) :: st.map (cV adr fm))) → GO p l e R s m args below meth c fm n0 s0 Q adr rls Hh locs pc st H) : GO p l e R s m args below meth c fm n0 s0 Q adr rls Hh locs pc st H := by
  obtain ⟨x, hx, h1⟩ := oLoadI_inv (show oLoadI nx a 0 0 [] C k d ls st H = some z from h)
  exact go x (LR_at V.lr hx (fun q => by cases q)) (K _ _ _ _ h1 _ _ _ _ (V.st (mem_put (V.2.1 _ (List.mem_of_getElem? hx)) V.2.2.1)))
theorem so_loadL (X : Ctx p R s m args meth c mid d) (K : KK p l e R s m args below meth c fm D cI cZ A adr0 n0 s0 nL Q z k) (V : Inv s fm D cI cZ A adr0 n0 s0 nL adr rls Hh locs ls st H) {a nx : Nat} (h : zStep (5, nx, a, 0, 0, []) C k d ls st H = some z)
    (go : ∀ x : Int, rls[a]? = some (.val (.long (Int64.ofInt x))) → W p l e R s m args below meth c Hh locs (H.1 - n0) (H.2.1 - s0) Q (F0 m nx rls (.long (Int64.ofInt x) :: st.map (cV adr fm))) → GO p l e R s m args below meth c fm n0 s0 Q adr rls Hh locs pc st H) : GO p l e R s m args below meth c fm n0 s0 Q adr rls Hh locs pc st H := by
  obtain ⟨x, hx, h1⟩ := oLoadL_inv (show oLoadL nx a 0 0 [] C k d ls st H = some z from h)
  exact go x (LR_at V.lr hx (fun q => by cases q)) (K _ _ _ _ h1 _ _ _ _ (V.st (mem_put (V.2.1 _ (List.mem_of_getElem? hx)) V.2.2.1)))
theorem so_loadA (X : Ctx p R s m args meth c mid d) (K : KK p l e R s m args below meth c fm D cI cZ A adr0 n0 s0 nL Q z k) (V : Inv s fm D cI cZ A adr0 n0 s0 nL adr rls Hh locs ls st H) {a nx : Nat} (h : zStep (4, nx, a, 0, 0, []) C k d ls st H = some z)
    (go : ∀ v : Value, isRf v → rls[a]? = some (.val v) → W p l e R s m args below meth c Hh locs (H.1 - n0) (H.2.1 - s0) Q (F0 m nx rls (v :: st.map (cV adr fm))) → GO p l e R s m args below meth c fm n0 s0 Q adr rls Hh locs pc st H) : GO p l e R s m args below meth c fm n0 s0 Q adr rls Hh locs pc st H := by
  obtain ⟨n, hx, hn, h1⟩ := oLoadA_inv (show oLoadA nx a 0 0 [] C k d ls st H = some z from h)
  refine go (cvR adr fm n) ?_ (LR_at V.lr hx (fun q => hn (by cases q; rfl))) (K _ _ _ _ h1 _ _ _ _ (V.st (mem_put (V.2.1 _ (List.mem_of_getElem? hx)) V.2.2.1)))
  unfold cvR
  split
  · exact Or.inl rfl
  · split
    · exact V.fm
    · exact Or.inr ⟨_, rfl⟩
theorem so_storeI (X : Ctx p R s m args meth c mid d) (K : KK p l e R s m args below meth c fm D cI cZ A adr0 n0 s0 nL Q z k) (V : Inv s fm D cI cZ A adr0 n0 s0 nL adr rls Hh locs ls st H) {a nx : Nat} (h : zStep (6, nx, a, 0, 0, []) C k d ls st H = some z)
    (go : ∀ (x : Int) (rest : List Value), st.map (cV adr fm) = .int (Int32.ofInt x) :: rest → a < ls.length → (∀ rls' : Array Slot, lv_has rls' ls.length ((a, .int (Int32.ofInt x)) :: (lvL adr fm ls).filter (fun q => !(q.1 == a) && !(q.1 + 1 == a && q.2.category == 2))) → W p l e R s m args below meth c Hh locs (H.1 - n0) (H.2.1 - s0) Q (F0 m nx rls' rest)) → GO p l e R s m args below meth c fm n0 s0 Q adr rls Hh locs pc st H) : GO p l e R s m args below meth c fm n0 s0 Q adr rls Hh locs pc st H := by
  obtain ⟨x, st', rfl, ha, hp, h1⟩ := oStoreI_inv (show oStoreI nx a 0 0 [] C k d ls st H = some z from h)
  obtain ⟨hx, ht⟩ := mem_tail V.2.2.1
  exact go x (st'.map (cV adr fm)) rfl ha fun rls' hh => K _ _ _ _ h1 _ _ _ _ (V.ls (mem_set hx V.2.1) ht (LR_store1 V.fm hp ha hh) (List.length_set ..))
theorem so_storeA (X : Ctx p R s m args meth c mid d) (K : KK p l e R s m args below meth c fm D cI cZ A adr0 n0 s0 nL Q z k) (V : Inv s fm D cI cZ A adr0 n0 s0 nL adr rls Hh locs ls st H) {a nx : Nat} (h : zStep (7, nx, a, 0, 0, []) C k d ls st H = some z)
    (go : ∀ (v : Value) (rest : List Value), isRf v → st.map (cV adr fm) = v :: rest → a < ls.length → (∀ rls' : Array Slot, lv_has rls' ls.length ((a, v) :: (lvL adr fm ls).filter (fun q => !(q.1 == a) && !(q.1 + 1 == a && q.2.category == 2))) → W p l e R s m args below meth c Hh locs (H.1 - n0) (H.2.1 - s0) Q (F0 m nx rls' rest)) → GO p l e R s m args below meth c fm n0 s0 Q adr rls Hh locs pc st H) : GO p l e R s m args below meth c fm n0 s0 Q adr rls Hh locs pc st H := by
  obtain ⟨x, st', rfl, ha, hp, hn, h1⟩ := oStoreA_inv (show oStoreA nx a 0 0 [] C k d ls st H = some z from h)
  obtain ⟨hx, ht⟩ := mem_tail V.2.2.1
  refine go (cvR adr fm x) (st'.map (cV adr fm)) ?_ rfl ha fun rls' hh => K _ _ _ _ h1 _ _ _ _ (V.ls (mem_set hx V.2.1) ht (LR_store1 V.fm hp ha hh) (List.length_set ..))
  unfold cvR
  split
  · exact Or.inl rfl
  · split
    · exact V.fm
    · exact Or.inr ⟨_, rfl⟩
theorem so_storeL (X : Ctx p R s m args meth c mid d) (K : KK p l e R s m args below meth c fm D cI cZ A adr0 n0 s0 nL Q z k) (V : Inv s fm D cI cZ A adr0 n0 s0 nL adr rls Hh locs ls st H) {a nx : Nat} (h : zStep (8, nx, a, 0, 0, []) C k d ls st H = some z)
    (go : ∀ (x : Int) (rest : List Value), st.map (cV adr fm) = .long (Int64.ofInt x) :: rest → a + 1 < ls.length → (∀ rls' : Array Slot, lv_has rls' ls.length ((a, .long (Int64.ofInt x)) :: (lvL adr fm ls).filter (fun q => !(q.1 == a) && (!(q.1 == a + 1) && !(q.1 + 1 == a && q.2.category == 2)))) → W p l e R s m args below meth c Hh locs (H.1 - n0) (H.2.1 - s0) Q (F0 m nx rls' rest)) → GO p l e R s m args below meth c fm n0 s0 Q adr rls Hh locs pc st H) : GO p l e R s m args below meth c fm n0 s0 Q adr rls Hh locs pc st H := by
  obtain ⟨x, st', rfl, ha, hp, h1⟩ := oStoreL_inv (show oStoreL nx a 0 0 [] C k d ls st H = some z from h)
  obtain ⟨hx, ht⟩ := mem_tail V.2.2.1
  refine go x (st'.map (cV adr fm)) rfl ha fun rls' hh => K _ _ _ _ h1 _ _ _ _ (V.ls (mem_set (show okV H.1 (vR 0) from by show 0 < 32 + H.1; omega) (mem_set hx V.2.1)) ht (LR_store2 (v := vL x) V.fm hp ha hh) (by rw [List.length_set, List.length_set]))
theorem so_iinc (X : Ctx p R s m args meth c mid d) (K : KK p l e R s m args below meth c fm D cI cZ A adr0 n0 s0 nL Q z k) (V : Inv s fm D cI cZ A adr0 n0 s0 nL adr rls Hh locs ls st H) {a nx : Nat} {v : Int} (h : zStep (9, nx, a, 0, v, []) C k d ls st H = some z)
    (go : ∀ (x : Int) (j : Nat), (lvL adr fm ls)[j]? = some (a, .int (Int32.ofInt x)) → a < ls.length → (∀ rls' : Array Slot, lv_has rls' ls.length ((a, .int (Int32.ofInt x + Int32.ofInt v)) :: (lvL adr fm ls).filter (fun q => !(q.1 == a) && !(q.1 + 1 == a && q.2.category == 2))) → W p l e R s m args below meth c Hh locs (H.1 - n0) (H.2.1 - s0) Q (F0 m nx rls' (st.map (cV adr fm)))) → GO p l e R s m args below meth c fm n0 s0 Q adr rls Hh locs pc st H) : GO p l e R s m args below meth c fm n0 s0 Q adr rls Hh locs pc st H := by
  obtain ⟨x, hx, hp, h1⟩ := oIinc_inv (show oIinc nx a 0 v [] C k d ls st H = some z from h)
  have ha : a < ls.length := (List.getElem?_eq_some_iff.mp hx).1
  obtain ⟨j, hj⟩ := List.getElem?_of_mem (lvL_mem (adr := adr) (fm := fm) (q := (a, .int (Int32.ofInt x))) |>.mpr ⟨vI x, hx, (fun q => by cases q), rfl⟩)
  refine go x j hj ha fun rls' hh => K _ _ _ _ h1 _ _ _ _ (V.ls (mem_set (in32_w _) V.2.1) V.2.2.1 (LR_store1 (v := vI (w32 (x + v))) V.fm hp ha ?_) (List.length_set ..))
  show lv_has rls' ls.length ((a, .int (Int32.ofInt (w32 (x + v)))) :: _)
  rw [ofInt_w32, Int32.ofInt_add]
  exact hh
theorem so_bin (X : Ctx p R s m args meth c mid d) (K : KK p l e R s m args below meth c fm D cI cZ A adr0 n0 s0 nL Q z k) (V : Inv s fm D cI cZ A adr0 n0 s0 nL adr rls Hh locs ls st H) {nx : Nat} {f : Int → Int → Int} (hf : ∀ x y, in32 (f x y)) (h : oBin f nx 0 0 0 [] C k d ls st H = some z)
    (go : ∀ (x y : Int) (rest : List Value), st.map (cV adr fm) = .int (Int32.ofInt y) :: .int (Int32.ofInt x) :: rest → W p l e R s m args below meth c Hh locs (H.1 - n0) (H.2.1 - s0) Q (F0 m nx rls (.int (Int32.ofInt (f x y)) :: rest)) → GO p l e R s m args below meth c fm n0 s0 Q adr rls Hh locs pc st H) : GO p l e R s m args below meth c fm n0 s0 Q adr rls Hh locs pc st H := by
  obtain ⟨y, x, st', rfl, h1⟩ := oBin_inv h
  exact go x y (st'.map (cV adr fm)) rfl (K _ _ _ _ h1 _ _ _ _ (V.st (mem_put (hf x y) (mem_tail (mem_tail V.2.2.1).2).2)))
theorem so_divI (X : Ctx p R s m args meth c mid d) (K : KK p l e R s m args below meth c fm D cI cZ A adr0 n0 s0 nL Q z k) (V : Inv s fm D cI cZ A adr0 n0 s0 nL adr rls Hh locs ls st H) {nx : Nat} {f : Int → Int → Int} (hf : ∀ x y, in32 (f x y)) (h : oDivI f nx 0 0 0 [] C k d ls st H = some z)
    (go : ∀ (x y : Int) (rest : List Value), st.map (cV adr fm) = .int (Int32.ofInt y) :: .int (Int32.ofInt x) :: rest → ¬ Int32.ofInt y = 0 → W p l e R s m args below meth c Hh locs (H.1 - n0) (H.2.1 - s0) Q (F0 m nx rls (.int (Int32.ofInt (f x y)) :: rest)) → GO p l e R s m args below meth c fm n0 s0 Q adr rls Hh locs pc st H) : GO p l e R s m args below meth c fm n0 s0 Q adr rls Hh locs pc st H := by
  obtain ⟨y, x, st', rfl, hy, h1⟩ := oDivI_inv h
  obtain ⟨hy32, -⟩ := mem_tail V.2.2.1
  refine go x y (st'.map (cV adr fm)) rfl (fun q => hy ?_) (K _ _ _ _ h1 _ _ _ _ (V.st (mem_put (hf x y) (mem_tail (mem_tail V.2.2.1).2).2)))
  exact (of32_eq (x := y) (y := 0) hy32 ⟨by decide, by decide⟩).mp q
theorem so_un (X : Ctx p R s m args meth c mid d) (K : KK p l e R s m args below meth c fm D cI cZ A adr0 n0 s0 nL Q z k) (V : Inv s fm D cI cZ A adr0 n0 s0 nL adr rls Hh locs ls st H) {nx : Nat} {f : Int → Int} (hf : ∀ x, in32 (f x)) (h : oUn f nx 0 0 0 [] C k d ls st H = some z)
    (go : ∀ (x : Int) (rest : List Value), st.map (cV adr fm) = .int (Int32.ofInt x) :: rest → W p l e R s m args below meth c Hh locs (H.1 - n0) (H.2.1 - s0) Q (F0 m nx rls (.int (Int32.ofInt (f x)) :: rest)) → GO p l e R s m args below meth c fm n0 s0 Q adr rls Hh locs pc st H) : GO p l e R s m args below meth c fm n0 s0 Q adr rls Hh locs pc st H := by
  obtain ⟨x, st', rfl, h1⟩ := oUn_inv h
  exact go x (st'.map (cV adr fm)) rfl (K _ _ _ _ h1 _ _ _ _ (V.st (mem_put (hf x) (mem_tail V.2.2.1).2)))
theorem so_binL (X : Ctx p R s m args meth c mid d) (K : KK p l e R s m args below meth c fm D cI cZ A adr0 n0 s0 nL Q z k) (V : Inv s fm D cI cZ A adr0 n0 s0 nL adr rls Hh locs ls st H) {nx : Nat} {f : Int → Int → Int} (hf : ∀ x y, in64 (f x y)) (h : oBinL f nx 0 0 0 [] C k d ls st H = some z)
    (go : ∀ (x y : Int) (rest : List Value), st.map (cV adr fm) = .long (Int64.ofInt y) :: .long (Int64.ofInt x) :: rest → W p l e R s m args below meth c Hh locs (H.1 - n0) (H.2.1 - s0) Q (F0 m nx rls (.long (Int64.ofInt (f x y)) :: rest)) → GO p l e R s m args below meth c fm n0 s0 Q adr rls Hh locs pc st H) : GO p l e R s m args below meth c fm n0 s0 Q adr rls Hh locs pc st H := by
  obtain ⟨y, x, st', rfl, h1⟩ := oBinL_inv h
  exact go x y (st'.map (cV adr fm)) rfl (K _ _ _ _ h1 _ _ _ _ (V.st (mem_put (hf x y) (mem_tail (mem_tail V.2.2.1).2).2)))
theorem so_divL (X : Ctx p R s m args meth c mid d) (K : KK p l e R s m args below meth c fm D cI cZ A adr0 n0 s0 nL Q z k) (V : Inv s fm D cI cZ A adr0 n0 s0 nL adr rls Hh locs ls st H) {nx : Nat} {f : Int → Int → Int} (hf : ∀ x y, in64 (f x y)) (h : oDivL f nx 0 0 0 [] C k d ls st H = some z)
    (go : ∀ (x y : Int) (rest : List Value), st.map (cV adr fm) = .long (Int64.ofInt y) :: .long (Int64.ofInt x) :: rest → ¬ Int64.ofInt y = 0 → W p l e R s m args below meth c Hh locs (H.1 - n0) (H.2.1 - s0) Q (F0 m nx rls (.long (Int64.ofInt (f x y)) :: rest)) → GO p l e R s m args below meth c fm n0 s0 Q adr rls Hh locs pc st H) : GO p l e R s m args below meth c fm n0 s0 Q adr rls Hh locs pc st H := by
  obtain ⟨y, x, st', rfl, hy, h1⟩ := oDivL_inv h
  obtain ⟨hy64, -⟩ := mem_tail V.2.2.1
  refine go x y (st'.map (cV adr fm)) rfl (fun q => hy ?_) (K _ _ _ _ h1 _ _ _ _ (V.st (mem_put (hf x y) (mem_tail (mem_tail V.2.2.1).2).2)))
  exact (of64_eq (x := y) (y := 0) hy64 ⟨by decide, by decide⟩).mp q
theorem so_lcmp (X : Ctx p R s m args meth c mid d) (K : KK p l e R s m args below meth c fm D cI cZ A adr0 n0 s0 nL Q z k) (V : Inv s fm D cI cZ A adr0 n0 s0 nL adr rls Hh locs ls st H) (hd : decode (zCodAt mid) pc = .ok (.lcmp, 1)) (h : oLcmp (pc + 1) 0 0 0 [] C k d ls st H = some z) : GO p l e R s m args below meth c fm n0 s0 Q adr rls Hh locs pc st H := by
  obtain ⟨y, x, st', rfl, h1⟩ := oLcmp_inv h
  obtain ⟨hy, ht⟩ := mem_tail V.2.2.1
  obtain ⟨hx, ht⟩ := mem_tail ht
  have e1 : Int32.ofInt (lCmp x y) = lg_cmp (Int64.ofInt x) (Int64.ofInt y) := by
    unfold lCmp lg_cmp
    have a2 := of64_eq (show in64 x from hx) (show in64 y from hy)
    have a3 := of64_lt (show in64 y from hy) (show in64 x from hx)
    by_cases q1 : x < y
    · have q2 : ¬ y < x := by omega
      have q3 : ¬ x = y := by omega
      simp [q1, q2, q3, a2, a3]
    · by_cases q2 : x = y
      · subst q2; simp [Int64.lt_irrefl]
      · have q3 : y < x := by omega
        simp [q1, q2, q3, a3]
  refine W.lcmp X.1 X.2.1 hd ?_
  rw [← e1]
  exact K _ _ _ _ h1 _ _ _ _ (V.st (mem_put (show in32 (lCmp x y) from by unfold lCmp in32; split <;> (try split) <;> omega) ht))
theorem so_i2l (X : Ctx p R s m args meth c mid d) (K : KK p l e R s m args below meth c fm D cI cZ A adr0 n0 s0 nL Q z k) (V : Inv s fm D cI cZ A adr0 n0 s0 nL adr rls Hh locs ls st H) (hd : decode (zCodAt mid) pc = .ok (.i2l, 1)) (h : oI2l (pc + 1) 0 0 0 [] C k d ls st H = some z) : GO p l e R s m args below meth c fm n0 s0 Q adr rls Hh locs pc st H := by
  obtain ⟨x, st', rfl, h1⟩ := oI2l_inv h
  obtain ⟨hx, ht⟩ := mem_tail V.2.2.1
  exact lv_i2l X.1 X.2.1 hd (of32_l hx) (K _ _ _ _ h1 _ _ _ _ (V.st (mem_put (show in64 x from in32_64 hx) ht)))
theorem so_if (X : Ctx p R s m args meth c mid d) (K : KK p l e R s m args below meth c fm D cI cZ A adr0 n0 s0 nL Q z k) (V : Inv s fm D cI cZ A adr0 n0 s0 nL adr rls Hh locs ls st H) {nx a : Nat} {f : Int → Bool} (h : oIf f nx a 0 0 [] C k d ls st H = some z)
    (go : ∀ (x : Int) (rest : List Value), in32 x → st.map (cV adr fm) = .int (Int32.ofInt x) :: rest → (f x = true → W p l e R s m args below meth c Hh locs (H.1 - n0) (H.2.1 - s0) Q (F0 m a rls rest)) → (f x = false → W p l e R s m args below meth c Hh locs (H.1 - n0) (H.2.1 - s0) Q (F0 m nx rls rest)) → GO p l e R s m args below meth c fm n0 s0 Q adr rls Hh locs pc st H) : GO p l e R s m args below meth c fm n0 s0 Q adr rls Hh locs pc st H := by
  obtain ⟨x, st', rfl, h1, h2⟩ := oIf_inv h
  obtain ⟨hx, ht⟩ := mem_tail V.2.2.1
  exact go x (st'.map (cV adr fm)) hx rfl (fun q => K _ _ _ _ (h1 q) _ _ _ _ (V.st ht)) (fun q => K _ _ _ _ (h2 q) _ _ _ _ (V.st ht))
theorem so_ifc (X : Ctx p R s m args meth c mid d) (K : KK p l e R s m args below meth c fm D cI cZ A adr0 n0 s0 nL Q z k) (V : Inv s fm D cI cZ A adr0 n0 s0 nL adr rls Hh locs ls st H) {nx a : Nat} {f : Int → Int → Bool} (h : oIfc f nx a 0 0 [] C k d ls st H = some z)
    (go : ∀ (x y : Int) (rest : List Value), in32 x → in32 y → st.map (cV adr fm) = .int (Int32.ofInt y) :: .int (Int32.ofInt x) :: rest → (f x y = true → W p l e R s m args below meth c Hh locs (H.1 - n0) (H.2.1 - s0) Q (F0 m a rls rest)) → (f x y = false → W p l e R s m args below meth c Hh locs (H.1 - n0) (H.2.1 - s0) Q (F0 m nx rls rest)) → GO p l e R s m args below meth c fm n0 s0 Q adr rls Hh locs pc st H) : GO p l e R s m args below meth c fm n0 s0 Q adr rls Hh locs pc st H := by
  obtain ⟨y, x, st', rfl, h1, h2⟩ := oIfc_inv h
  obtain ⟨hy, ht⟩ := mem_tail V.2.2.1
  obtain ⟨hx, ht⟩ := mem_tail ht
  exact go x y (st'.map (cV adr fm)) hx hy rfl (fun q => K _ _ _ _ (h1 q) _ _ _ _ (V.st ht)) (fun q => K _ _ _ _ (h2 q) _ _ _ _ (V.st ht))
theorem so_goto (K : KK p l e R s m args below meth c fm D cI cZ A adr0 n0 s0 nL Q z k) (X : Ctx p R s m args meth c mid d) (V : Inv s fm D cI cZ A adr0 n0 s0 nL adr rls Hh locs ls st H) {off : Int} {t : Nat} (ht : (pc : Int) + off = (t : Int)) (hd : decode (zCodAt mid) pc = .ok (.goto off, 3)) (h : oGoto (pc + 3) t 0 0 [] C k d ls st H = some z) : GO p l e R s m args below meth c fm n0 s0 Q adr rls Hh locs pc st H :=
  lv_goto X.1 X.2.1 hd ht (K _ _ _ _ (show k t ls st H = some z from h) _ _ _ _ V)
theorem so_dup (X : Ctx p R s m args meth c mid d) (K : KK p l e R s m args below meth c fm D cI cZ A adr0 n0 s0 nL Q z k) (V : Inv s fm D cI cZ A adr0 n0 s0 nL adr rls Hh locs ls st H) (hd : decode (zCodAt mid) pc = .ok (.dup, 1)) (h : oDup (pc + 1) 0 0 0 [] C k d ls st H = some z) : GO p l e R s m args below meth c fm n0 s0 Q adr rls Hh locs pc st H := by
  obtain ⟨x, st', rfl, hl, h1⟩ := oDup_inv h
  obtain ⟨hx, ht⟩ := mem_tail V.2.2.1
  exact lv_dup X.1 X.2.1 hd (by rw [cV_cat V.fm, cat_notLong hl]) (K _ _ _ _ h1 _ _ _ _ (V.st (mem_put hx (mem_put hx ht))))
theorem so_pop (X : Ctx p R s m args meth c mid d) (K : KK p l e R s m args below meth c fm D cI cZ A adr0 n0 s0 nL Q z k) (V : Inv s fm D cI cZ A adr0 n0 s0 nL adr rls Hh locs ls st H) (hd : decode (zCodAt mid) pc = .ok (.pop, 1)) (h : oPop (pc + 1) 0 0 0 [] C k d ls st H = some z) : GO p l e R s m args below meth c fm n0 s0 Q adr rls Hh locs pc st H := by
  obtain ⟨x, st', rfl, hl, h1⟩ := oPop_inv h
  obtain ⟨hx, ht⟩ := mem_tail V.2.2.1
  exact lv_pop X.1 X.2.1 hd (by rw [cV_cat V.fm, cat_notLong hl]) (K _ _ _ _ h1 _ _ _ _ (V.st ht))
theorem so_dupx1 (X : Ctx p R s m args meth c mid d) (K : KK p l e R s m args below meth c fm D cI cZ A adr0 n0 s0 nL Q z k) (V : Inv s fm D cI cZ A adr0 n0 s0 nL adr rls Hh locs ls st H) (hd : decode (zCodAt mid) pc = .ok (.dup_x1, 1)) (h : oDupX1 (pc + 1) 0 0 0 [] C k d ls st H = some z) : GO p l e R s m args below meth c fm n0 s0 Q adr rls Hh locs pc st H := by
  obtain ⟨x, y, st', rfl, hl, hl2, h1⟩ := oDupX1_inv h
  obtain ⟨hx, ht⟩ := mem_tail V.2.2.1
  obtain ⟨hy, ht⟩ := mem_tail ht
  exact lv_dup_x1 X.1 X.2.1 hd (by rw [cV_cat V.fm, cat_notLong hl]) (by rw [cV_cat V.fm, cat_notLong hl2]) (K _ _ _ _ h1 _ _ _ _ (V.st (mem_put hx (mem_put hy (mem_put hx ht)))))
end SO
