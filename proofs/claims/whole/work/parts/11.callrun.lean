-- ===== a call =====
theorem roT_move {adr : Nat → Nat} {fm : Value} {A B : Nat → Prop} {s U : State} {H1 : Heap} (h : roT adr fm A s s.heap) (hq : ∀ a : Nat, a < s.heap.size → ¬ A a → H1[a]? = s.heap[a]?) (hv : s.vm.Alike U.vm) (hAB : ∀ q, B q → A q) : roT adr fm B U H1 := by
  obtain ⟨h1, h2, h3, h4, h5, h6, h7, h8, h9⟩ := h
  refine ⟨((h1.kept hq).moved hv).narrow hAB, ((h2.kept hq).moved hv).narrow hAB, ((h3.kept hq).moved hv).narrow hAB, ((h4.kept hq).moved hv).narrow hAB, ((h5.kept hq).moved hv).narrow hAB, ((h6.kept hq).moved hv).narrow hAB, ((h7.kept hq).moved hv).narrow hAB, ((h8.kept hq).moved hv).narrow hAB, fun i hi => ?_⟩
  obtain ⟨g1, g2, g3, g4⟩ := h9 i hi
  exact ⟨((g1.kept hq).moved hv).narrow hAB, ((g2.kept hq).moved hv).narrow hAB, ((g3.kept hq).moved hv).narrow hAB, ((g4.kept hq).moved hv).narrow hAB⟩
theorem roN_warm {s U : State} (hW : s.WarmedH U.vm) (h : roN s) : roN U := ⟨fun q hq h3 => (h.1 q hq h3).warmM hW, h.2.1.warmF hW, h.2.2.warmF hW⟩
theorem roN_blind {U : State} {g : JFrame} {mk : MethodId} {a : Array Value} (h : roN U) : roN (U.calling g mk a) := ⟨fun q hq h3 => va_Nw.same rfl rfl (h.1 q hq h3), va_Nw.same rfl rfl h.2.1, va_Nw.same rfl rfl h.2.2⟩
theorem roW_call {adr : Nat → Nat} {fm : Value} {f : Int → Int} {A B : Nat → Prop} {s U : State} {Hh : Heap} {locs : List Loc} (h : roW adr fm f A s s.heap) (hS : va_S A s.heap Hh locs) (hW : s.WarmedH U.vm) (hU : U.heap = Hh) (hAB : ∀ q, B q → A q) : roW adr fm f B U U.heap := by
  subst hU
  have hq : ∀ a : Nat, a < s.heap.size → ¬ A a → U.heap[a]? = s.heap[a]? := hS.2.1
  have hv := hW.alike
  obtain ⟨h1, ⟨h2, h3, h4⟩, h5, h6, h7⟩ := h
  exact ⟨h1, ⟨(h2.kept (hq _ h3 h4)).moved hv, Nat.lt_of_lt_of_le h3 hS.1, fun q => h4 (hAB _ q)⟩, roT_move h5 hq hv hAB, fun i hi => (h6 i hi).warm hW, roN_warm hW h7⟩
theorem roW_blind {adr : Nat → Nat} {fm : Value} {f : Int → Int} {A : Nat → Prop} {U : State} {g : JFrame} {mk : MethodId} {a : Array Value} (h : roW adr fm f A U U.heap) : roW adr fm f A (U.calling g mk a) (U.calling g mk a).heap := by
  obtain ⟨h1, ⟨h2, h3, h4⟩, h5, h6, h7⟩ := h
  exact ⟨h1, ⟨h2.moved (U := U.calling g mk a) (Vm.Alike.refl U.vm), h3, h4⟩, roT_move (U := U.calling g mk a) h5 (fun _ _ _ => rfl) (Vm.Alike.refl U.vm) (fun _ q => q), fun i hi => (h6 i hi).same rfl, roN_blind h7⟩
theorem roW_congr {adr adr' : Nat → Nat} {fm : Value} {f : Int → Int} {A : Nat → Prop} {U : State} {Hh : Heap} (ha : ∀ i, i < 32 → adr' i = adr i) (h : roW adr fm f A U Hh) : roW adr' fm f A U Hh := by
  unfold roW roT at h ⊢
  rw [ha 1 (by omega), ha 2 (by omega), ha 3 (by omega), ha 4 (by omega)]
  refine ⟨h.1, h.2.1, ⟨h.2.2.1.1, h.2.2.1.2.1, h.2.2.1.2.2.1, h.2.2.1.2.2.2.1, h.2.2.1.2.2.2.2.1, h.2.2.1.2.2.2.2.2.1, h.2.2.1.2.2.2.2.2.2.1, h.2.2.1.2.2.2.2.2.2.2.1, fun i hi => ?_⟩, fun i hi => ?_, h.2.2.2.2⟩
  · rw [ha (6 + i) (by omega), ha (19 + i) (by omega)]
    exact h.2.2.1.2.2.2.2.2.2.2.2 i hi
  · rw [ha (6 + i) (by omega)]
    exact h.2.2.2.1 i hi
theorem PcB_blind {adr : Nat → Nat} {fm : Value} {D : va_G} {cI cZ : ClassId} {H : XH} {sz : Nat} {av : List Value} : FrameBlind (va_Pc av (PcB adr fm D cI cZ H sz)) := by
  intro a U g mk q
  obtain ⟨q0, q1, qP, qD, qK, qR⟩ := q
  exact ⟨q0, q1, qP, qD, va_K.moved (u := U) (U := U.calling g mk a) (Vm.Alike.refl U.vm) qK, roW_blind qR⟩
section CR
variable {p : Program} {l : Launch} {e : Env} {R : Room} {s : State} {m : MethodId} {args : Array Value} {below : List Frame} {meth : Method} {c : Code} {mid d : Nat} {fm : Value} {D : va_G} {cI cZ : ClassId} {A : Nat → Prop} {adr0 : Nat → Nat} {n0 s0 nL : Nat} {Q : State → Prop} {z : Option XV × XH}
variable {k : XK} {C : XC} {ls st : List XV} {H : XH} {adr : Nat → Nat} {rls : Array Slot} {Hh : Heap} {locs : List Loc} {pc len : Nat}
theorem callA (V : Inv s fm D cI cZ A adr0 n0 s0 nL adr rls Hh locs ls st H) : ∀ q, va_A (zwV adr fm cI cZ H) Hh.size q → A q := by
  obtain ⟨a1, a2, a3, a4, a5, a6, a7, a8, a9, a10, a11, a12, a13, a14⟩ := V
  intro q h
  rcases h with ⟨j, e, hj⟩ | h
  · exact a5.2 j (q, e) hj
  · exact a14 q (Nat.le_trans a6.1 h)
/-- the caller's heap at a call meets what the callee asks -/
theorem callP (V : Inv s fm D cI cZ A adr0 n0 s0 nL adr rls Hh locs ls st H) {av : List Value} : ∀ U : State, U.heap = Hh → s.WarmedH U.vm → va_Pc av (PcB adr fm D cI cZ H Hh.size) av.toArray U := by
  have hA := callA V
  obtain ⟨a1, a2, a3, a4, a5, a6, a7, a8, a9, a10, a11, a12, a13, a14⟩ := V
  intro U hU hW
  exact ⟨rfl, by rw [hU], by rw [hU]; exact a4, a5.weaken (fun _ _ _ _ => trivial), va_K.moved hW.alike a7, roW_call a8 a6 hW hU hA⟩
/-- behind a call -/
theorem call_inv {u : Nat → Nat} {t : State} {H1 : XH} {r : Option XV} {Hh1 : Heap} {locs1 : List Loc} {st1 : List XV} (V : Inv s fm D cI cZ A adr0 n0 s0 nL adr rls Hh locs ls st H) (hpm : PM H H1) (hB : BM fm D cI cZ (va_A (zwV adr fm cI cZ H) Hh.size) adr H.1 r H1 u t) (ht : t.heap = Hh1) (hS1 : va_S A s.heap Hh1 locs1) (hst : ∀ v ∈ st1, okV H1.1 v) :
    Inv s fm D cI cZ A adr0 n0 s0 nL u rls Hh1 locs1 ls st1 H1 := by
  have hA := callA V
  obtain ⟨a1, a2, a3, a4, a5, a6, a7, a8, a9, a10, a11, a12, a13, a14⟩ := V
  obtain ⟨b1, b2, b3, b4, b5, b6⟩ := hB
  have e1 : H1.2.2.2.2 1 = H.2.2.2.2 1 := (hpm.2.2 a1.2.1).2
  exact ⟨b1, fun v hv => okV_mono hpm.1 (a2 v hv), hst, by rw [← ht]; exact b4, b6.weaken (fun _ q _ h => hA q.1 h), hS1, a7, by rw [e1]; exact roW_congr (fun i hi => b3 i (by omega)) a8, LR_congr b3 a2 a9, a10, fun i hi => (b3 i (by omega)).trans (a11 i hi), Nat.le_trans a12 hpm.1, Nat.le_trans a13 hpm.2.1, a14⟩
theorem call_go (K : KK p l e R s m args below meth c fm D cI cZ A adr0 n0 s0 nL Q z k) (V : Inv s fm D cI cZ A adr0 n0 s0 nL adr rls Hh locs ls st H) {H1 : XH} {r : Option XV} {rest : List XV} {av : Array Value} (hpm : PM H H1)
    (hr : va_Run p l e R s m args below meth c Hh locs (H.1 - n0) (H.2.1 - s0) (H1.1 - H.1) (H1.2.1 - H.2.1) (F0 m pc rls (st.map (cV adr fm))) (rest.map (cV adr fm)) (QM fm D cI cZ (va_A (zwV adr fm cI cZ H) Hh.size) adr H.1 r H1 av) (va_A (zwV adr fm cI cZ H) Hh.size))
    (hk : k (pc + 3) ls (r.toList ++ rest) H1 = some z) (hrest : ∀ v ∈ rest, okV H.1 v) : GO p l e R s m args below meth c fm n0 s0 Q adr rls Hh locs pc st H := by
  have hA := callA V
  have V0 := V
  obtain ⟨a1, a2, a3, a4, a5, a6, a7, a8, a9, a10, a11, a12, a13, a14⟩ := V
  have g1 := hpm.1
  have g2 := hpm.2.1
  have hrest1 : ∀ v ∈ rest, okV H1.1 v := fun v hv => okV_mono g1 (hrest v hv)
  match r, hr, hk with
  | none, hr, hk =>
    refine va_callv (a := av) hr a6 (fun q _ h => hA q h) hA (fun u t Hh1 locs1 ht hvm hpost hB hz hk1 hS1 => ?_)
    have go := K _ _ _ _ hk u rls Hh1 locs1 (call_inv V0 hpm hB ht hS1 hrest1)
    rw [show (none : Option XV).toList ++ rest = rest from rfl, map_congr hB.2.2.1 hrest] at go
    exact W.cs (by omega) (by omega) go
  | some (.inl x), hr, hk =>
    refine va_calli (a := av) hr a6 (fun q _ h => hA q h) hA (fun r' u t Hh1 locs1 ht hvm hpost hB hz hk1 hS1 => ?_)
    have go := K _ _ _ _ hk u rls Hh1 locs1 (call_inv V0 hpm hB ht hS1 (mem_put hB.2.1 hrest1))
    rw [show (some (Sum.inl x) : Option XV).toList ++ rest = vI x :: rest from rfl, List.map_cons, map_congr hB.2.2.1 hrest] at go
    subst hpost
    exact W.cs (by omega) (by omega) go
  | some (.inr (.inl x)), hr, hk =>
    refine va_calll (a := av) hr a6 (fun q _ h => hA q h) hA (fun r' u t Hh1 locs1 ht hvm hpost hB hz hk1 hS1 => ?_)
    have go := K _ _ _ _ hk u rls Hh1 locs1 (call_inv V0 hpm hB ht hS1 (mem_put hB.2.1 hrest1))
    rw [show (some (Sum.inr (Sum.inl x)) : Option XV).toList ++ rest = vL x :: rest from rfl, List.map_cons, map_congr hB.2.2.1 hrest] at go
    subst hpost
    exact W.cs (by omega) (by omega) go
  | some (.inr (.inr x)), hr, hk =>
    exact va_callv (a := av) hr a6 (fun q _ h => hA q h) hA (fun u t Hh1 locs1 ht hvm hpost hB hz hk1 hS1 => absurd hB.2.1 id)
theorem recv_inv {ow : Nat} {as : List XV} (h : recvOK H ow as = true) : ∃ o as', as = vR o :: as' ∧ ((ow < 12 ∧ H.2.2.1 o = (1, ow)) ∨ (ow = 12 ∧ 6 ≤ o ∧ o < 19)) := by
  match as, h with
  | (.inr (.inr o)) :: as', h =>
    refine ⟨o, as', rfl, ?_⟩
    unfold recvOK at h
    simp only [Bool.or_eq_true, Bool.and_eq_true, decide_eq_true_eq] at h
    exact h
theorem recv_cell (V : Inv s fm D cI cZ A adr0 n0 s0 nL adr rls Hh locs ls st H) {ow o : Nat} (h : (ow < 12 ∧ H.2.2.1 o = (1, ow)) ∨ (ow = 12 ∧ 6 ≤ o ∧ o < 19)) : cvR adr fm o = .ref (adr o) ∧ ∃ cellB : Cell, Hh[adr o]? = some cellB ∧ cellB.vm.isStatics = false ∧ s.vm.findClass (zClsAt ow) = some cellB.cls := by
  obtain ⟨a1, a2, a3, a4, a5, a6, a7, a8, a9, a10, a11, a12, a13, a14⟩ := V
  rcases h with ⟨h1, h2⟩ | ⟨rfl, h1, h2⟩
  · obtain ⟨i1, i2⟩ := okH_in a1 (o := o) (by rw [h2]; exact Nat.one_ne_zero)
    refine ⟨cvR_ref (by omega) (by omega), ?_⟩
    exact va_recv a7 a4 (zcl_at ow h1) (q0 := o - 32) (fs := fsV adr fm H o ow) (by rw [zwV_get i1 i2, eV_obj h2])
  · refine ⟨cvR_ref (by omega) (by omega), ?_⟩
    have hs := (a8.2.2.1.2.2.2.2.2.2.2.2 (o - 6) (by omega)).1
    rw [show 6 + (o - 6) = o by omega] at hs
    obtain ⟨cell, h3, h4, h5, -⟩ := hs.kept a6.2.1
    exact ⟨cell, h3, h4, h5⟩
theorem zM_find {o i y n : Nat} {kd : Int} (h : fM o i = some (y, n, kd)) : ∃ q, mOK (o, i, y, n, kd) q = true := zM_ok _ (find3 h)
theorem good_ml (o : String) (i : Nat) (y : MethodName) : goodWord (Cond.methodLink o i y) = true := rfl
theorem good_code (y : MethodName) (b : ByteArray) (n : Nat) (r : Option FieldType) : goodWord (Cond.code y b n r) = true := rfl
theorem good_st (y : MethodName) : goodWord (Cond.static y) = true := rfl
theorem good_im (y : MethodName) : goodWord (Cond.instanceMethod y) = true := rfl
theorem good_sel (o : String) (y y' : MethodName) : goodWord (Cond.selects o y y') = true := rfl
theorem wsM_good {y : Nat} (h : y < 222 - 1) : GoodIn lw_good (wsM y) := by
  intro w hw
  rcases List.mem_cons.mp hw with rfl | hw
  · exact ⟨lw_good_in (zw_all y (by omega)) (good_code _ _ _ _), good_of_word (good_code _ _ _ _)⟩
  · exact lw_good_goodIn w hw
theorem ncls_ok : ∀ y, y < 222 → (zNamAt y).cls ≠ "java/lang/invoke/MethodHandle" ∧ (zNamAt y).cls ≠ "java/lang/invoke/VarHandle" := by decide +kernel
/-- what a call asks of the tables and of the room -/
theorem callB_of' (X : Ctx p R s m args meth c mid d) {i y n d' mc ms : Nat} (hy : y < 222 - 1) (hd : d = d' + 1) (hini : Cond.initialized (zNamAt y).cls ∈ lw_good) (hl : Cond.methodLink (zClsAt (zOwAt mid)) i (zNamAt y) ∈ lw_good) (hn : (parseMethodDescriptor (zNamAt y).desc).map (fun d => d.parameters.length) = some n) :
    CallB R s args (zClsAt (zOwAt mid)) i (zNamAt y) (zCodAt y) (zMaxAt y) (zRetAt y) (wsM y) (rmM d' mc ms) mc ms n := by
  have h14 := (zMax_le y (by omega)).1
  have x1 := X.2.2.2.2.2.2.2.2.1
  have x2 := X.2.2.2.2.2.2.2.2.2
  refine callB_of n X.2.2.2.2.1 (wsM_good hy) rfl rfl rfl (X.2.2.2.2.1 _ hini) (X.2.2.2.2.1 _ hl) ⟨(ncls_ok y (by omega)).1, (ncls_ok y (by omega)).2, hn⟩ ⟨?_, ?_⟩
  · show d' + 1 ≤ R.frames; omega
  · show 8 + (zMaxAt y + 11) + 40 * d' ≤ R.locals; omega
theorem cat_sum {hf : isRf fm} (rest : List XV) : ((rest.map (cV adr fm)).map fun v => v.category).sum = catSum rest := by
  unfold catSum
  rw [List.map_map]
  congr 1
  exact List.map_congr_left fun v _ => cV_cat hf v
theorem take_rev {b : Nat} : st.map (cV adr fm) = (((st.take b).reverse).map (cV adr fm)).reverse ++ (st.drop b).map (cV adr fm) := by
  rw [← List.map_reverse, List.reverse_reverse, ← List.map_append, List.take_append_drop]
theorem so_call {n : Nat} (hSW : SW n) (X : Ctx p R s m args meth c mid d) (K : KK p l e R s m args below meth c fm D cI cZ A adr0 n0 s0 nL Q z k) (M : Rm R n0 s0 z k) (hnL : nL = zMaxAt mid) (V : Inv s fm D cI cZ A adr0 n0 s0 nL adr rls Hh locs ls st H) {i sp y b : Nat} {kd : Int} {ins : Instr} (hF : fM (zOwAt mid) i = some (y, b, kd))
    (hsp : (sp = 0 ∧ kd = 0 ∧ ins = .invokestatic i) ∨ (sp = 1 ∧ kd = 1 ∧ ins = .invokevirtual i) ∨ (sp = 2 ∧ kd = 2 ∧ ins = .invokespecial i) ∨ (sp = 2 ∧ kd = 3 ∧ ins = .invokespecial i)) (hd : decode (zCodAt mid) pc = .ok (ins, 3))
    (h : oCall (pc + 3) y b kd [] (fun d' y as H' => ev n d' y 0 (entryL y as) [] H') k d ls st H = some z) : GO p l e R s m args below meth c fm n0 s0 Q adr rls Hh locs pc st H := by
  obtain ⟨hb, hcat, hflat, hrecv, d', r, H1, hd', hC, hk⟩ := oCall_inv h
  obtain ⟨qs, hq⟩ := zM_find hF
  have hpm : PM H H1 := ev_mono _ _ _ _ _ _ _ _ _ hC
  have hst : ∀ v ∈ (st.take b).reverse, okV H.1 v := fun v hv => V.2.2.1 v (List.mem_of_mem_take (List.mem_reverse.mp hv))
  have hrest : ∀ v ∈ st.drop b, okV H.1 v := fun v hv => V.2.2.1 v (List.mem_of_mem_drop hv)
  have hlen : (st.take b).reverse.length = b := by rw [List.length_reverse, List.length_take]; omega
  have hcat' : 2 * (F0 m pc rls (st.map (cV adr fm))).monitorRoom + (((st.drop b).map (cV adr fm)).map fun v => v.category).sum ≤ 8 := by
    show 2 * 0 + _ ≤ 8
    rw [cat_sum (hf := V.fm)]; omega
  have hsz : rls.size = zMaxAt mid := V.lr.1.trans (V.len.trans hnL)
  obtain ⟨m1, m2⟩ := M.1 _ _ _ _ hk
  have r1 := M.2.1
  have r2 := M.2.2
  have v1 := V.2.2.2.2.2.2.2.2.2.2.2.1
  have v2 := V.2.2.2.2.2.2.2.2.2.2.2.2.1
  have g1 := hpm.1
  have g2 := hpm.2.1
  have hroom : H.1 - n0 + (H1.1 - H.1) ≤ R.cells ∧ H.2.1 - s0 + (H1.2.1 - H.2.1) ≤ R.slots := ⟨by omega, by omega⟩
  have hbase : mBase (zOwAt mid, i, y, b, kd) qs = true ∧ mKind (zOwAt mid, i, y, b, kd) qs = true := by
    unfold mOK at hq
    dsimp only at hq
    rcases hsp with ⟨-, rfl, -⟩ | ⟨-, rfl, -⟩ | ⟨-, rfl, -⟩ | ⟨-, rfl, -⟩ <;> (simp at hq; exact hq)
  obtain ⟨hq, hkd⟩ := hbase
  unfold mBase at hq
  dsimp only at hq
  simp only [Bool.and_eq_true] at hq
  obtain ⟨hyD, hiniD, hclD, hparD, hbD⟩ := hq
  have hy : y < 222 - 1 := of_decide_eq_true hyD
  have hini := lw_good_in (wAt_in hiniD) (good_ini _)
  have hpar := of_decide_eq_true hparD
  have hb1 := of_decide_eq_true hbD
  have hM := met_of hSW (l := l) (by omega) hC V.1 hst hflat adr fm D cI cZ Hh.size
  have S : CallFix p m c (zCodAt mid) (zMaxAt mid) s args lw_good (zClsAt (zOwAt mid)) := ⟨X.1, X.2.1, X.2.2.1, X.2.2.2.1, X.2.2.2.2.1⟩
  rcases hsp with ⟨-, rfl, rfl⟩ | ⟨-, rfl, rfl⟩ | ⟨-, rfl, rfl⟩ | ⟨-, rfl, rfl⟩
  · unfold mKind at hkd
    simp only [if_true, Bool.and_eq_true] at hkd
    rw [if_pos rfl] at hpar
    have cw := callB_of' (mc := H1.1 - H.1) (ms := H1.2.1 - H.2.1) X hy hd' hini (lw_good_in (wAt_in hkd.1) (good_ml _ _ _)) hpar
    exact call_go K V hpm (va_runS S hM ⟨cw, X.2.2.2.2.1 _ (lw_good_in (wAt_in hkd.2) (good_st _))⟩ ⟨PcB_blind, callP V⟩ rfl (by rw [List.length_map]; exact hlen) hsz take_rev hcat' hd hroom) hk hrest
  · have hrc : recvOK H (zOwAt y) (st.take b).reverse = true := by rcases hrecv with q | q; exact absurd q (by decide); exact q
    obtain ⟨o, as', e1, hro⟩ := recv_inv hrc
    obtain ⟨e2, hcell⟩ := recv_cell V hro
    have e3 : ((st.take b).reverse).map (cV adr fm) = .ref (adr o) :: as'.map (cV adr fm) := by rw [e1, List.map_cons]; show cvR adr fm o :: _ = _; rw [e2]
    have e4 : as'.length = b - 1 := by rw [e1, List.length_cons] at hlen; omega
    unfold mKind at hkd
    rw [if_neg (show ¬ ((1 : Int) = 0) by decide), if_pos rfl] at hkd
    simp only [Bool.and_eq_true] at hkd
    rw [if_neg (show ¬ ((1 : Int) = 0) by decide)] at hpar
    rw [e3] at hM
    have cw := callB_of' (mc := H1.1 - H.1) (ms := H1.2.1 - H.2.1) X hy hd' hini (lw_good_in (wAt_in hkd.1) (good_ml _ _ _)) hpar
    rw [← zcls_ok y (by omega)] at hcell
    exact call_go K V hpm (va_runV S hM ⟨cw, X.2.2.2.2.1 _ (lw_good_in (wAt_in hkd.2.1) (good_im _)), X.2.2.2.2.1 _ (lw_good_in (wAt_in hkd.2.2) (good_sel _ _ _))⟩ ⟨PcB_blind, hcell, callP V⟩ rfl (by rw [List.length_map]; exact e4) hsz (by show st.map (cV adr fm) = _; rw [take_rev (b := b), e3, List.reverse_cons, List.append_assoc]; rfl) hcat' hd hroom) hk hrest
  · have hrc : recvOK H (zOwAt y) (st.take b).reverse = true := by rcases hrecv with q | q; exact absurd q (by decide); exact q
    obtain ⟨o, as', e1, hro⟩ := recv_inv hrc
    obtain ⟨e2, hcell⟩ := recv_cell V hro
    have e3 : ((st.take b).reverse).map (cV adr fm) = .ref (adr o) :: as'.map (cV adr fm) := by rw [e1, List.map_cons]; show cvR adr fm o :: _ = _; rw [e2]
    have e4 : as'.length = b - 1 := by rw [e1, List.length_cons] at hlen; omega
    unfold mKind at hkd
    rw [if_neg (show ¬ ((2 : Int) = 0) by decide), if_neg (show ¬ ((2 : Int) = 1) by decide), if_pos rfl] at hkd
    simp only [Bool.and_eq_true] at hkd
    rw [if_neg (show ¬ ((2 : Int) = 0) by decide)] at hpar
    rw [e3] at hM
    have hret : zRetAt y = none := of_decide_eq_true hkd.2.2.2
    have cw := callB_of' (mc := H1.1 - H.1) (ms := H1.2.1 - H.2.1) X hy hd' hini (lw_good_in (wAt_in hkd.1) (good_ml _ _ _)) hpar
    rw [hret] at cw
    exact call_go K V hpm (va_runI S hM ⟨cw, of_decide_eq_true hkd.2.2.1, X.2.2.2.2.1 _ (lw_good_in (wAt_in hkd.2.1) (good_im _))⟩ ⟨PcB_blind, callP V⟩ rfl (by rw [List.length_map]; exact e4) hsz (by show st.map (cV adr fm) = _; rw [take_rev (b := b), e3, List.reverse_cons, List.append_assoc]; rfl) hcat' hd hroom) hk hrest
  · have hrc : recvOK H (zOwAt y) (st.take b).reverse = true := by rcases hrecv with q | q; exact absurd q (by decide); exact q
    obtain ⟨o, as', e1, hro⟩ := recv_inv hrc
    obtain ⟨e2, hcell⟩ := recv_cell V hro
    have e3 : ((st.take b).reverse).map (cV adr fm) = .ref (adr o) :: as'.map (cV adr fm) := by rw [e1, List.map_cons]; show cvR adr fm o :: _ = _; rw [e2]
    have e4 : as'.length = b - 1 := by rw [e1, List.length_cons] at hlen; omega
    unfold mKind at hkd
    rw [if_neg (show ¬ ((3 : Int) = 0) by decide), if_neg (show ¬ ((3 : Int) = 1) by decide), if_neg (show ¬ ((3 : Int) = 2) by decide), if_pos rfl] at hkd
    simp only [Bool.and_eq_true] at hkd
    rw [if_neg (show ¬ ((3 : Int) = 0) by decide)] at hpar
    rw [e3] at hM
    have hret : zRetAt y = none := of_decide_eq_true hkd.2.2.2
    have hnw : va_Nw (.methodLinkNest (zClsAt (zOwAt mid)) i (zNamAt y) "FortyGates") s := V.2.2.2.2.2.2.2.1.2.2.2.2.1 (zOwAt mid, i, y, b, 3) (find3 (l := zM) hF) rfl
    have h14 := (zMax_le y (by omega)).1
    have x1 := X.2.2.2.2.2.2.2.2.1
    have x2 := X.2.2.2.2.2.2.2.2.2
    have cw := va_cnB (rm := rmM d' (H1.1 - H.1) (H1.2.1 - H.2.1)) (R := R) (b - 1) X.2.2.2.2.1 (wsM_good hy) rfl rfl rfl hnw (X.2.2.2.2.1 _ hini) ⟨(ncls_ok y (by omega)).1, (ncls_ok y (by omega)).2, hpar⟩ ⟨by show d' + 1 ≤ R.frames; omega, by show 8 + (zMaxAt y + 11) + 40 * d' ≤ R.locals; omega⟩
    rw [hret] at cw
    exact call_go K V hpm (va_runIN S hM ⟨cw, of_decide_eq_true hkd.2.2.1, X.2.2.2.2.1 _ (lw_good_in (wAt_in hkd.2.1) (good_im _))⟩ ⟨PcB_blind, callP V⟩ rfl (by rw [List.length_map]; exact e4) hsz (by show st.map (cV adr fm) = _; rw [take_rev (b := b), e3, List.reverse_cons, List.append_assoc]; rfl) hcat' hd hroom) hk hrest
end CR
