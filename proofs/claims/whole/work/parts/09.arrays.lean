-- ===== rows of numbers, new cells =====
theorem getD_all {α : Type} {P : α → Prop} {l : List α} {d : α} (h : ∀ x ∈ l, P x) (h0 : P d) (i : Nat) : P (l[i]?.getD d) := by
  cases hi : l[i]? with
  | none => exact h0
  | some x => exact h x (List.mem_of_getElem? hi)
theorem zTab_in (c : Nat) (i : Int) : in32 (zTab c i) := by
  have h0 : in32 0 := ⟨by decide, by decide⟩
  unfold zTab
  split
  · exact getD_all (by unfold in32; decide) h0 _
  · split
    · exact getD_all (by unfold in32; decide) h0 _
    · split
      · exact getD_all (by unfold in32; decide) h0 _
      · exact getD_all (getD_all (P := fun l : List Int => ∀ x ∈ l, in32 x) (l := zStr) (d := []) (by unfold in32; decide) (fun _ h => absurd h List.not_mem_nil) _) h0 _
theorem zLen_lt (o : Nat) : zLen o < 100 := by
  unfold zLen
  exact getD_all (P := fun l : List Int => l.length < 100) (by decide) (by decide) _
section AR
variable {p : Program} {l : Launch} {e : Env} {R : Room} {s : State} {m : MethodId} {args : Array Value} {below : List Frame} {meth : Method} {c : Code} {mid d : Nat} {fm : Value} {D : va_G} {cI cZ : ClassId} {A : Nat → Prop} {adr0 : Nat → Nat} {n0 s0 nL : Nat} {Q : State → Prop} {z : Option XV × XH}
variable {k : XK} {C : XC} {ls st : List XV} {H : XH} {adr : Nat → Nat} {rls : Array Slot} {Hh : Heap} {locs : List Loc} {pc len : Nat}
theorem so_iald (X : Ctx p R s m args meth c mid d) (K : KK p l e R s m args below meth c fm D cI cZ A adr0 n0 s0 nL Q z k) (V : Inv s fm D cI cZ A adr0 n0 s0 nL adr rls Hh locs ls st H) (hd : decode (zCodAt mid) pc = .ok (.iaload, 1)) (h : oIald (pc + 1) 0 0 0 [] C k d ls st H = some z) : GO p l e R s m args below meth c fm n0 s0 Q adr rls Hh locs pc st H := by
  obtain ⟨i, o, st', rfl, h0, hc⟩ := oIald_inv h
  have hi32 : in32 i := (mem_tail V.2.2.1).1
  have ht := (mem_tail (mem_tail V.2.2.1).2).2
  have V0 := V
  obtain ⟨a1, a2, a3, a4, a5, a6, a7, a8, a9, a10, a11, a12, a13, a14⟩ := V
  have hcl : ((i.toNat : Nat) : Int) = i := Int.toNat_of_nonneg h0
  show W p l e R s m args below meth c Hh locs (H.1 - n0) (H.2.1 - s0) Q (F0 m pc rls (.int (Int32.ofInt i) :: cvR adr fm o :: st'.map (cV adr fm)))
  rcases hc with ⟨t1, hlt, h1⟩ | ⟨t1, h1⟩ | ⟨t1, hlt, h1⟩
  · obtain ⟨i1, i2⟩ := okH_in a1 (o := o) (by rw [t1]; decide)
    obtain ⟨hin, hcn⟩ := of32_in h0 hlt hi32
    rw [show cvR adr fm o = .ref (adr o) from cvR_ref (by omega) (by omega)]
    have go := K _ _ _ _ h1 adr rls Hh locs (V0.st (mem_put (show okV H.1 (vI (H.2.2.2.2 o i)) from a1.2.2.2.1 o i (by rw [t1]; exact fun q => absurd q.1 (by decide))) ht))
    refine va_iald X.1 X.2.1 a7 a4 (o - 32) 0 (f := fun k => Int32.ofInt (H.2.2.2.2 o (k : Int))) (by rw [zwV_get i1 i2, eV_int t1]) rfl hin hd ?_
    rw [hcn, hcl]
    exact go
  · have h7 : i < 21 := by rcases t1 with q | q <;> omega
    have go := K _ _ _ _ h1 adr rls Hh locs (V0.st (mem_put (show okV H.1 (vI (zTab o i)) from zTab_in o i) ht))
    rw [show cvR adr fm o = .ref (adr o) from cvR_ref (by omega) (by omega)]
    rcases t1 with ⟨rfl, q⟩ | ⟨rfl, q⟩
    · obtain ⟨hin, hcn⟩ := of32_in (n := 7) h0 q hi32
      exact va_ti X.1 X.2.1 a8.2.2.1.2.1 a6 hin (v := .int (Int32.ofInt (zTab 2 i))) (by rw [hcn, hcl]) hd go
    · obtain ⟨hin, hcn⟩ := of32_in (n := 21) h0 q hi32
      exact va_ti X.1 X.2.1 a8.2.2.1.2.2.2.2.2.1 a6 hin (v := .int (Int32.ofInt (zTab 4 i))) (by rw [hcn, hcl]) hd go
  · subst t1
    have e1 : (((H.2.2.2.2 1 (-1)).toNat : Nat) : Int) = H.2.2.2.2 1 (-1) := Int.toNat_of_nonneg a1.2.2.2.2.2.2.2.1
    obtain ⟨hin, hcn⟩ := of32_in (n := (H.2.2.2.2 1 (-1)).toNat) h0 (by rw [e1]; exact hlt) hi32
    have go := K _ _ _ _ h1 adr rls Hh locs (V0.st (mem_put (show okV H.1 (vI (H.2.2.2.2 1 i)) from a1.2.2.2.1 1 i (by rw [a1.2.1 1 (by decide)]; exact fun q => absurd q.1 (by decide))) ht))
    rw [show cvR adr fm 1 = .ref (adr 1) from cvR_ref (by omega) (by omega)]
    refine va_sld X.1 X.2.1 a8.2.1.1 a8.2.1.2.1 a8.2.1.2.2 a6 hin hd ?_
    rw [hcn, hcl]
    exact go
theorem so_lald (X : Ctx p R s m args meth c mid d) (K : KK p l e R s m args below meth c fm D cI cZ A adr0 n0 s0 nL Q z k) (V : Inv s fm D cI cZ A adr0 n0 s0 nL adr rls Hh locs ls st H) (hd : decode (zCodAt mid) pc = .ok (.laload, 1)) (h : oLald (pc + 1) 0 0 0 [] C k d ls st H = some z) : GO p l e R s m args below meth c fm n0 s0 Q adr rls Hh locs pc st H := by
  obtain ⟨i, st', rfl, h0, h8, h1⟩ := oLald_inv h
  have hi32 : in32 i := (mem_tail V.2.2.1).1
  have ht := (mem_tail (mem_tail V.2.2.1).2).2
  have V0 := V
  obtain ⟨a1, a2, a3, a4, a5, a6, a7, a8, a9, a10, a11, a12, a13, a14⟩ := V
  have hcl : ((i.toNat : Nat) : Int) = i := Int.toNat_of_nonneg h0
  show W p l e R s m args below meth c Hh locs (H.1 - n0) (H.2.1 - s0) Q (F0 m pc rls (.int (Int32.ofInt i) :: cvR adr fm 3 :: st'.map (cV adr fm)))
  rw [show cvR adr fm 3 = .ref (adr 3) from cvR_ref (by omega) (by omega)]
  obtain ⟨hin, hcn⟩ := of32_in (n := 8) h0 h8 hi32
  have go := K _ _ _ _ h1 adr rls Hh locs (V0.st (mem_put (show okV H.1 (vL (zTab 3 i)) from in32_64 (zTab_in 3 i)) ht))
  exact va_tl X.1 X.2.1 a8.2.2.1.2.2.2.1 a6 hin (v := .long (Int64.ofInt (zTab 3 i))) (by rw [hcn, hcl]) hd go
theorem so_bald (X : Ctx p R s m args meth c mid d) (K : KK p l e R s m args below meth c fm D cI cZ A adr0 n0 s0 nL Q z k) (V : Inv s fm D cI cZ A adr0 n0 s0 nL adr rls Hh locs ls st H) (hd : decode (zCodAt mid) pc = .ok (.baload, 1)) (h : oBald (pc + 1) 0 0 0 [] C k d ls st H = some z) : GO p l e R s m args below meth c fm n0 s0 Q adr rls Hh locs pc st H := by
  obtain ⟨i, o, st', rfl, h0, hc⟩ := oBald_inv h
  have hi32 : in32 i := (mem_tail V.2.2.1).1
  have ht := (mem_tail (mem_tail V.2.2.1).2).2
  have V0 := V
  obtain ⟨a1, a2, a3, a4, a5, a6, a7, a8, a9, a10, a11, a12, a13, a14⟩ := V
  have hcl : ((i.toNat : Nat) : Int) = i := Int.toNat_of_nonneg h0
  show W p l e R s m args below meth c Hh locs (H.1 - n0) (H.2.1 - s0) Q (F0 m pc rls (.int (Int32.ofInt i) :: cvR adr fm o :: st'.map (cV adr fm)))
  rcases hc with ⟨t1, hlt, h1⟩ | ⟨o1, o2, hlt, h1⟩
  · obtain ⟨i1, i2⟩ := okH_in a1 (o := o) (by rw [t1]; decide)
    obtain ⟨hin, hcn⟩ := of32_in h0 hlt hi32
    rw [show cvR adr fm o = .ref (adr o) from cvR_ref (by omega) (by omega)]
    have go := K _ _ _ _ h1 adr rls Hh locs (V0.st (mem_put (show okV H.1 (vI (H.2.2.2.2 o i)) from a1.2.2.2.1 o i (by rw [t1]; exact fun q => absurd q.1 (by decide))) ht))
    refine va_zald X.1 X.2.1 a7 a4 (o - 32) 1 (f := fun k => Int32.ofInt (H.2.2.2.2 o (k : Int))) (by rw [zwV_get i1 i2, eV_boo t1]) rfl hin hd ?_
    rw [hcn, hcl]
    exact go
  · have go := K _ _ _ _ h1 adr rls Hh locs (V0.st (mem_put (show okV H.1 (vI (zTab o i)) from zTab_in o i) ht))
    rw [show cvR adr fm o = .ref (adr o) from cvR_ref (by omega) (by omega)]
    have hs := a8.2.2.1.2.2.2.2.2.2.2.2 (o - 19) (by omega)
    rw [show 19 + (o - 19) = o by omega] at hs
    obtain ⟨hin, hcn⟩ := of32_in h0 hlt hi32
    exact va_tb X.1 X.2.1 hs.2.2.2 a6 hin (v := .int (Int32.ofInt (zTab o i))) (by rw [hcn, hcl]) hd go
theorem so_alen (X : Ctx p R s m args meth c mid d) (K : KK p l e R s m args below meth c fm D cI cZ A adr0 n0 s0 nL Q z k) (V : Inv s fm D cI cZ A adr0 n0 s0 nL adr rls Hh locs ls st H) (hd : decode (zCodAt mid) pc = .ok (.arraylength, 1)) (h : oAlen (pc + 1) 0 0 0 [] C k d ls st H = some z) : GO p l e R s m args below meth c fm n0 s0 Q adr rls Hh locs pc st H := by
  obtain ⟨o, st', rfl, hc⟩ := oAlen_inv h
  have ht := (mem_tail V.2.2.1).2
  have V0 := V
  obtain ⟨a1, a2, a3, a4, a5, a6, a7, a8, a9, a10, a11, a12, a13, a14⟩ := V
  show W p l e R s m args below meth c Hh locs (H.1 - n0) (H.2.1 - s0) Q (F0 m pc rls (cvR adr fm o :: st'.map (cV adr fm)))
  rcases hc with ⟨t1, h1⟩ | ⟨t1, h1⟩ | ⟨o1, o2, h1⟩
  · obtain ⟨i1, i2⟩ := okH_in a1 (o := o) (by omega)
    rw [show cvR adr fm o = .ref (adr o) from cvR_ref (by omega) (by omega)]
    have hl := a1.2.2.2.2.2.2.2.2 o
    have go := K _ _ _ _ h1 adr rls Hh locs (V0.st (mem_put (show okV H.1 (vI ((H.2.2.1 o).2 : Int)) from ⟨by omega, by omega⟩) ht))
    rcases t1 with t1 | t1
    · exact va_alen X.1 X.2.1 a7 a4 (o - 32) 0 (cA := cI) (x := ((H.2.2.1 o).2, .inl (fun k => Int32.ofInt (H.2.2.2.2 o (k : Int))))) (by rw [zwV_get i1 i2, eV_int t1]) rfl (v := Int32.ofInt ((H.2.2.1 o).2 : Int)) Int32.ofInt_eq_ofNat.symm hd go
    · exact va_alen X.1 X.2.1 a7 a4 (o - 32) 1 (cA := cZ) (x := ((H.2.2.1 o).2, .inl (fun k => Int32.ofInt (H.2.2.2.2 o (k : Int))))) (by rw [zwV_get i1 i2, eV_boo t1]) rfl (v := Int32.ofInt ((H.2.2.1 o).2 : Int)) Int32.ofInt_eq_ofNat.symm hd go
  · subst t1
    have e1 : (((H.2.2.2.2 1 (-1)).toNat : Nat) : Int) = H.2.2.2.2 1 (-1) := Int.toNat_of_nonneg a1.2.2.2.2.2.2.2.1
    have go := K _ _ _ _ h1 adr rls Hh locs (V0.st (mem_put (show okV H.1 (vI (H.2.2.2.2 1 (-1))) from a1.2.2.2.1 1 (-1) (by rw [a1.2.1 1 (by decide)]; exact fun q => absurd q.1 (by decide))) ht))
    rw [show cvR adr fm 1 = .ref (adr 1) from cvR_ref (by omega) (by omega)]
    refine va_slen X.1 X.2.1 a8.2.1.1 a8.2.1.2.1 a8.2.1.2.2 a6 hd ?_
    rw [← Int32.ofInt_eq_ofNat, e1]
    exact go
  · have hl := zLen_lt o
    have go := K _ _ _ _ h1 adr rls Hh locs (V0.st (mem_put (show okV H.1 (vI (zLen o : Int)) from ⟨by omega, by omega⟩) ht))
    rw [show cvR adr fm o = .ref (adr o) from cvR_ref (by omega) (by omega)]
    have hs := a8.2.2.1.2.2.2.2.2.2.2.2 (o - 19) (by omega)
    rw [show 19 + (o - 19) = o by omega] at hs
    exact va_tlen X.1 X.2.1 hs.2.2.2 a6 (v := Int32.ofInt (zLen o : Int)) Int32.ofInt_eq_ofNat.symm hd go
theorem upd_up2 {m : XM} {o : Nat} {i x : Int} (h0 : 0 ≤ i) : upd (fun k : Nat => Int32.ofInt (m o (k : Int))) i.toNat (Int32.ofInt x) = fun k : Nat => Int32.ofInt (up2 m o i x o (k : Int)) := by
  funext j
  unfold upd
  rw [up2_at, if_pos rfl]
  by_cases hj : j = i.toNat
  · rw [if_pos hj, if_pos (by omega)]
  · rw [if_neg hj, if_neg (by omega)]
theorem so_iast (X : Ctx p R s m args meth c mid d) (K : KK p l e R s m args below meth c fm D cI cZ A adr0 n0 s0 nL Q z k) (V : Inv s fm D cI cZ A adr0 n0 s0 nL adr rls Hh locs ls st H) (hd : decode (zCodAt mid) pc = .ok (.iastore, 1)) (h : oIast (pc + 1) 0 0 0 [] C k d ls st H = some z) : GO p l e R s m args below meth c fm n0 s0 Q adr rls Hh locs pc st H := by
  obtain ⟨x, i, o, st', rfl, t1, h0, hlt, h1⟩ := oIast_inv h
  have hx32 : in32 x := (mem_tail V.2.2.1).1
  have hi32 : in32 i := (mem_tail (mem_tail V.2.2.1).2).1
  have ht := (mem_tail (mem_tail (mem_tail V.2.2.1).2).2).2
  have V0 := V
  obtain ⟨a1, a2, a3, a4, a5, a6, a7, a8, a9, a10, a11, a12, a13, a14⟩ := V
  obtain ⟨i1, i2⟩ := okH_in a1 (o := o) (by rw [t1]; decide)
  obtain ⟨hin, hcn⟩ := of32_in h0 hlt hi32
  have hok : okH (setM H (up2 H.2.2.2.2 o i x)) := okH_up2 a1 (by rw [t1]; decide) (in32_64 hx32) (fun _ => hx32) (fun q => by rw [t1] at q; cases q)
  show W p l e R s m args below meth c Hh locs (H.1 - n0) (H.2.1 - s0) Q (F0 m pc rls (.int (Int32.ofInt x) :: .int (Int32.ofInt i) :: cvR adr fm o :: st'.map (cV adr fm)))
  rw [show cvR adr fm o = .ref (adr o) from cvR_ref (by omega) (by omega)]
  refine va_iast X.1 X.2.1 a7 a4 a5 a6 (o - 32) 0 (by rw [zwV_get i1 i2, eV_int t1]) rfl hin hd (fun H1 locs1 hP1 hD1 hS1 => ?_)
  have hset : (zwV adr fm cI cZ H).set (o - 32) (adr o, .inl (cI, (H.2.2.1 o).2, .inl (upd (fun k : Nat => Int32.ofInt (H.2.2.2.2 o (k : Int))) (Int32.ofInt i).toNatClampNeg (Int32.ofInt x)))) = zwV adr fm cI cZ (setM H (up2 H.2.2.2.2 o i x)) := by
    rw [← zwV_set (H := H) (H' := setM H (up2 H.2.2.2.2 o i x)) rfl i1 i2 (fun q hq => eV_other (H := H) (H' := setM H (up2 H.2.2.2.2 o i x)) (o := q) rfl (up2_other hq) rfl), eV_int (show ((setM H (up2 H.2.2.2.2 o i x)).2.2.1 o).1 = 2 from t1), hcn, upd_up2 h0]
    rfl
  rw [hset] at hP1 hD1
  exact K _ _ _ _ h1 adr rls H1 locs1 (V0.heap hok rfl rfl (up2_other (by omega)) hP1 hD1 hS1 ht)
theorem so_bast (X : Ctx p R s m args meth c mid d) (K : KK p l e R s m args below meth c fm D cI cZ A adr0 n0 s0 nL Q z k) (V : Inv s fm D cI cZ A adr0 n0 s0 nL adr rls Hh locs ls st H) (hd : decode (zCodAt mid) pc = .ok (.bastore, 1)) (h : oBast (pc + 1) 0 0 0 [] C k d ls st H = some z) : GO p l e R s m args below meth c fm n0 s0 Q adr rls Hh locs pc st H := by
  obtain ⟨x, i, o, st', rfl, t1, h0, hlt, hx01, h1⟩ := oBast_inv h
  have hx32 : in32 x := (mem_tail V.2.2.1).1
  have hi32 : in32 i := (mem_tail (mem_tail V.2.2.1).2).1
  have ht := (mem_tail (mem_tail (mem_tail V.2.2.1).2).2).2
  have V0 := V
  obtain ⟨a1, a2, a3, a4, a5, a6, a7, a8, a9, a10, a11, a12, a13, a14⟩ := V
  obtain ⟨i1, i2⟩ := okH_in a1 (o := o) (by rw [t1]; decide)
  obtain ⟨hin, hcn⟩ := of32_in h0 hlt hi32
  have hok : okH (setM H (up2 H.2.2.2.2 o i x)) := okH_up2 a1 (by rw [t1]; decide) (in32_64 hx32) (fun _ => hx32) (fun _ => hx01)
  have hnar : vp_nar .boolean (Int32.ofInt x) = Int32.ofInt x := by rcases hx01 with rfl | rfl <;> decide
  show W p l e R s m args below meth c Hh locs (H.1 - n0) (H.2.1 - s0) Q (F0 m pc rls (.int (Int32.ofInt x) :: .int (Int32.ofInt i) :: cvR adr fm o :: st'.map (cV adr fm)))
  rw [show cvR adr fm o = .ref (adr o) from cvR_ref (by omega) (by omega)]
  refine va_zast X.1 X.2.1 a7 a4 a5 a6 (o - 32) 1 (by rw [zwV_get i1 i2, eV_boo t1]) rfl hin hd (fun H1 locs1 hP1 hD1 hS1 => ?_)
  have hset : (zwV adr fm cI cZ H).set (o - 32) (adr o, .inl (cZ, (H.2.2.1 o).2, .inl (upd (fun k : Nat => Int32.ofInt (H.2.2.2.2 o (k : Int))) (Int32.ofInt i).toNatClampNeg (vp_nar .boolean (Int32.ofInt x))))) = zwV adr fm cI cZ (setM H (up2 H.2.2.2.2 o i x)) := by
    rw [← zwV_set (H := H) (H' := setM H (up2 H.2.2.2.2 o i x)) rfl i1 i2 (fun q hq => eV_other (H := H) (H' := setM H (up2 H.2.2.2.2 o i x)) (o := q) rfl (up2_other hq) rfl), eV_boo (show ((setM H (up2 H.2.2.2.2 o i x)).2.2.1 o).1 = 3 from t1), hcn, hnar, upd_up2 h0]
    rfl
  rw [hset] at hP1 hD1
  exact K _ _ _ _ h1 adr rls H1 locs1 (V0.heap hok rfl rfl (up2_other (by omega)) hP1 hD1 hS1 ht)
/-- a cell is added -/
theorem Inv.new {st' : List XV} {t : Nat × Nat} {sl q : Nat} {Hh' : Heap} {locs' : List Loc} (V : Inv s fm D cI cZ A adr0 n0 s0 nL adr rls Hh locs ls st H) (ht : t.1 = 2 ∨ t.1 = 3 ∨ (t.1 = 1 ∧ t.2 < 12)) (ht2 : t.2 < 100000)
    (hP : va_P D zcl (zwV adr fm cI cZ H ++ [(q, eV adr fm cI cZ (newC H t sl) (32 + H.1))]) Hh') (hD : va_D A (zwV adr fm cI cZ H ++ [(q, eV adr fm cI cZ (newC H t sl) (32 + H.1))])) (hS : va_S A s.heap Hh' locs') (hst : ∀ v ∈ st', okV H.1 v) :
    Inv s fm D cI cZ A adr0 n0 s0 nL (up1 adr (32 + H.1) q) rls Hh' locs' ls (vR (32 + H.1) :: st') (newC H t sl) ∧ (vR (32 + H.1) :: st').map (cV (up1 adr (32 + H.1) q) fm) = .ref q :: st'.map (cV adr fm) := by
  obtain ⟨a1, a2, a3, a4, a5, a6, a7, a8, a9, a10, a11, a12, a13, a14⟩ := V
  have ha : ∀ i, i < 32 + H.1 → up1 adr (32 + H.1) q i = adr i := fun i hi => if_neg (by omega)
  have hro : roW (up1 adr (32 + H.1) q) fm (H.2.2.2.2 1) A s s.heap := by
    unfold roW roT at a8 ⊢
    rw [ha 1 (by omega), ha 2 (by omega), ha 3 (by omega), ha 4 (by omega)]
    refine ⟨a8.1, a8.2.1, ⟨a8.2.2.1.1, a8.2.2.1.2.1, a8.2.2.1.2.2.1, a8.2.2.1.2.2.2.1, a8.2.2.1.2.2.2.2.1, a8.2.2.1.2.2.2.2.2.1, a8.2.2.1.2.2.2.2.2.2.1, a8.2.2.1.2.2.2.2.2.2.2.1, fun i hi => ?_⟩, fun i hi => ?_, a8.2.2.2.2⟩
    · rw [ha (6 + i) (by omega), ha (19 + i) (by omega)]
      exact a8.2.2.1.2.2.2.2.2.2.2.2 i hi
    · rw [ha (6 + i) (by omega)]
      exact a8.2.2.2.1 i hi
  refine ⟨⟨okH_new a1 ht ht2, fun v hv => okV_mono (by show H.1 ≤ H.1 + 1; omega) (a2 v hv), mem_put (show 32 + H.1 < 32 + (H.1 + 1) by omega) (fun v hv => okV_mono (by show H.1 ≤ H.1 + 1; omega) (hst v hv)), ?_, ?_, hS, a7, hro, LR_congr ha a2 a9, a10, fun i hi => ?_, ?_, ?_, a14⟩, ?_⟩
  · rw [zwV_new a1]; exact hP
  · rw [zwV_new a1]; exact hD
  · rw [ha i (by omega)]; exact a11 i hi
  · show n0 ≤ H.1 + 1; omega
  · show s0 ≤ H.2.1 + sl; omega
  · rw [List.map_cons, map_congr ha hst]
    show cvR (up1 adr (32 + H.1) q) fm (32 + H.1) :: _ = _
    rw [cvR_ref (by omega) (by omega), show up1 adr (32 + H.1) q (32 + H.1) = q from if_pos rfl]
/-- room for what the rest of the run makes -/
def Rm (R : Room) (n0 s0 : Nat) (z : Option XV × XH) (k : XK) : Prop := (∀ (pc : Nat) (ls st : List XV) (H : XH), k pc ls st H = some z → H.1 ≤ z.2.1 ∧ H.2.1 ≤ z.2.2.1) ∧ z.2.1 - n0 ≤ R.cells ∧ z.2.2.1 - s0 ≤ R.slots
theorem va_RA_inj {U : State} {cA cB : ClassId} {ty : FieldType} (ht : ty = .int ∨ ty = .boolean) (h1 : va_RA U cA ty) (h2 : va_RA U cB ty) : cA = cB := by
  rcases ht with rfl | rfl
  · have e1 : U.vm.findClass ("[" ++ FieldType.int.toString) = some cA := h1
    have e2 : U.vm.findClass ("[" ++ FieldType.int.toString) = some cB := h2
    exact Option.some.inj (e1.symm.trans e2)
  · have e1 : U.vm.findClass ("[" ++ FieldType.boolean.toString) = some cA := h1
    have e2 : U.vm.findClass ("[" ++ FieldType.boolean.toString) = some cB := h2
    exact Option.some.inj (e1.symm.trans e2)
theorem zero_row {H : XH} (hok : okH H) : (fun k : Nat => Int32.ofInt (H.2.2.2.2 (32 + H.1) (k : Int))) = fun _ => 0 := by
  funext k
  rw [(hok.1 (32 + H.1) (Nat.le_refl _)).2.1]
  rfl
theorem so_newI (X : Ctx p R s m args meth c mid d) (K : KK p l e R s m args below meth c fm D cI cZ A adr0 n0 s0 nL Q z k) (M : Rm R n0 s0 z k) (V : Inv s fm D cI cZ A adr0 n0 s0 nL adr rls Hh locs ls st H) (hd : decode (zCodAt mid) pc = .ok (.newarray .int, 2)) (h : oNewA (pc + 2) 2 0 0 [] C k d ls st H = some z) : GO p l e R s m args below meth c fm n0 s0 Q adr rls Hh locs pc st H := by
  obtain ⟨x, st', rfl, h0, hx, h1⟩ := oNewA_inv h
  have hx32 : in32 x := (mem_tail V.2.2.1).1
  have ht := (mem_tail V.2.2.1).2
  have V0 := V
  obtain ⟨a1, a2, a3, a4, a5, a6, a7, a8, a9, a10, a11, a12, a13, a14⟩ := V
  obtain ⟨m1, m2⟩ := M.1 _ _ _ _ h1
  have m1 : H.1 + 1 ≤ z.2.1 := m1
  have m2 : H.2.1 + x.toNat ≤ z.2.2.1 := m2
  have r1 := M.2.1
  have r2 := M.2.2
  obtain ⟨-, hcn⟩ := of32_in (n := 100000) h0 hx hx32
  refine va_newa (atype := .int) X.1 X.2.1 (X.2.2.2.2.1 _ arrI_ok) (ty := .int) rfl a7 a4 a5 a6 a14 (N' := x.toNat) (a0 := (x.toNat, .inl (fun _ => 0))) (fun _ => rfl) (fun q => ?_) hcn (show x.toNat * 4 ≤ 536870912 by omega) (by omega) (by omega) hd (fun q cA H1 hK1 hP1 hD1 hS1 => ?_)
  · exact absurd ((of32_lt (y := 0) hx32 ⟨by decide, by decide⟩).mp q) (by omega)
  · have hca : cA = cI := va_RA_inj (Or.inl rfl) (hK1.2 2 _ rfl).2 (a7.2 0 _ rfl).2
    subst hca
    have he : eV adr fm cA cZ (newC H (2, x.toNat) x.toNat) (32 + H.1) = .inl (cA, x.toNat, .inl (fun _ => 0)) := by
      have t1 : (newC H (2, x.toNat) x.toNat).2.2.1 (32 + H.1) = (2, x.toNat) := if_pos rfl
      rw [eV_int (by rw [t1]), t1]
      show (Sum.inl (cA, x.toNat, Sum.inl (fun k : Nat => Int32.ofInt (H.2.2.2.2 (32 + H.1) (k : Int)))) : va_E) = _
      rw [zero_row a1]
    rw [← he] at hP1 hD1
    obtain ⟨V1, e1⟩ := V0.new (t := (2, x.toNat)) (sl := x.toNat) (Or.inl rfl) (by show x.toNat < 100000; omega) hP1 hD1 hS1 ht
    have go := K _ _ _ _ h1 _ _ _ _ V1
    rw [e1] at go
    exact W.cs (show H.1 - n0 + 1 = (H.1 + 1) - n0 by omega) (show H.2.1 - s0 + x.toNat = (H.2.1 + x.toNat) - s0 by omega) go
theorem so_newZ (X : Ctx p R s m args meth c mid d) (K : KK p l e R s m args below meth c fm D cI cZ A adr0 n0 s0 nL Q z k) (M : Rm R n0 s0 z k) (V : Inv s fm D cI cZ A adr0 n0 s0 nL adr rls Hh locs ls st H) (hd : decode (zCodAt mid) pc = .ok (.newarray .boolean, 2)) (h : oNewA (pc + 2) 3 0 0 [] C k d ls st H = some z) : GO p l e R s m args below meth c fm n0 s0 Q adr rls Hh locs pc st H := by
  obtain ⟨x, st', rfl, h0, hx, h1⟩ := oNewA_inv h
  have hx32 : in32 x := (mem_tail V.2.2.1).1
  have ht := (mem_tail V.2.2.1).2
  have V0 := V
  obtain ⟨a1, a2, a3, a4, a5, a6, a7, a8, a9, a10, a11, a12, a13, a14⟩ := V
  obtain ⟨m1, m2⟩ := M.1 _ _ _ _ h1
  have m1 : H.1 + 1 ≤ z.2.1 := m1
  have m2 : H.2.1 + x.toNat ≤ z.2.2.1 := m2
  have r1 := M.2.1
  have r2 := M.2.2
  obtain ⟨-, hcn⟩ := of32_in (n := 100000) h0 hx hx32
  refine va_newa (atype := .boolean) X.1 X.2.1 (X.2.2.2.2.1 _ arrZ_ok) (ty := .boolean) rfl a7 a4 a5 a6 a14 (N' := x.toNat) (a0 := (x.toNat, .inl (fun _ => 0))) (fun _ => rfl) (fun q => ?_) hcn (show x.toNat * 1 ≤ 536870912 by omega) (by omega) (by omega) hd (fun q cA H1 hK1 hP1 hD1 hS1 => ?_)
  · exact absurd ((of32_lt (y := 0) hx32 ⟨by decide, by decide⟩).mp q) (by omega)
  · have hca : cA = cZ := va_RA_inj (Or.inr rfl) (hK1.2 2 _ rfl).2 (a7.2 1 _ rfl).2
    subst hca
    have he : eV adr fm cI cA (newC H (3, x.toNat) x.toNat) (32 + H.1) = .inl (cA, x.toNat, .inl (fun _ => 0)) := by
      have t1 : (newC H (3, x.toNat) x.toNat).2.2.1 (32 + H.1) = (3, x.toNat) := if_pos rfl
      rw [eV_boo (by rw [t1]), t1]
      show (Sum.inl (cA, x.toNat, Sum.inl (fun k : Nat => Int32.ofInt (H.2.2.2.2 (32 + H.1) (k : Int)))) : va_E) = _
      rw [zero_row a1]
    rw [← he] at hP1 hD1
    obtain ⟨V1, e1⟩ := V0.new (t := (3, x.toNat)) (sl := x.toNat) (Or.inr (Or.inl rfl)) (by show x.toNat < 100000; omega) hP1 hD1 hS1 ht
    have go := K _ _ _ _ h1 _ _ _ _ V1
    rw [e1] at go
    exact W.cs (show H.1 - n0 + 1 = (H.1 + 1) - n0 by omega) (show H.2.1 - s0 + x.toNat = (H.2.1 + x.toNat) - s0 by omega) go
theorem so_new (X : Ctx p R s m args meth c mid d) (K : KK p l e R s m args below meth c fm D cI cZ A adr0 n0 s0 nL Q z k) (M : Rm R n0 s0 z k) (V : Inv s fm D cI cZ A adr0 n0 s0 nL adr rls Hh locs ls st H) {i a : Nat} (hC : f3 zC (zOwAt mid) i = some a) (hd : decode (zCodAt mid) pc = .ok (.new i, 3)) (h : oNew (pc + 3) a 0 0 [] C k d ls st H = some z) : GO p l e R s m args below meth c fm n0 s0 Q adr rls Hh locs pc st H := by
  have h1 : k (pc + 3) ls (vR (32 + H.1) :: st) (newC H (1, a) (zNf a)) = some z := h
  obtain ⟨ha, w1, w2, w3⟩ := fC_ok hC
  have V0 := V
  obtain ⟨a1, a2, a3, a4, a5, a6, a7, a8, a9, a10, a11, a12, a13, a14⟩ := V
  obtain ⟨m1, m2⟩ := M.1 _ _ _ _ h1
  have m1 : H.1 + 1 ≤ z.2.1 := m1
  have m2 : H.2.1 + zNf a ≤ z.2.2.1 := m2
  have r1 := M.2.1
  have r2 := M.2.2
  have t1 : (newC H (1, a) (zNf a)).2.2.1 (32 + H.1) = (1, a) := if_pos rfl
  refine va_new X.1 X.2.1 X.2.2.2.2.1 (zlay_in ha) (zTy a) (zty_ok a ha) X.2.2.2.1 (X.2.2.2.2.1 _ w1) (X.2.2.2.2.1 _ w2) (X.2.2.2.2.1 _ w3) a7 a4 a5 a6 a14 (zcl_at a ha) (fs := fsV adr fm (newC H (1, a) (zNf a)) (32 + H.1) a) (fun j hj => ?_) (by omega) (by omega) hd (fun q H1 hP1 hD1 hS1 => ?_)
  · obtain ⟨q1, q2, -⟩ := zkind_ok a ha j hj
    unfold vp_V
    rw [List.getD_eq_getElem?_getD, fsV_get hj]
    show _ = Option.getD (some (if zKkAt a j < 2 then Value.int (Int32.ofInt (H.2.2.2.2 (32 + H.1) (j : Int))) else if zKkAt a j = 2 then .long (Int64.ofInt (H.2.2.2.2 (32 + H.1) (j : Int))) else cvR adr fm (H.2.2.2.1 (32 + H.1) j))) .null
    rw [(a1.1 (32 + H.1) (Nat.le_refl _)).2.1, (a1.1 (32 + H.1) (Nat.le_refl _)).2.2]
    have hcs : zKkAt a j = 0 ∨ zKkAt a j = 1 ∨ zKkAt a j = 2 ∨ zKkAt a j = 3 := by omega
    rcases hcs with e0 | e0 | e0 | e0
    · rw [if_pos (by omega), kind0 q1 e0]; rfl
    · rw [if_pos (by omega), kind1 q1 e0]; rfl
    · rw [if_neg (by omega), if_pos e0, kind2 q1 e0]; rfl
    · rw [if_neg (by omega), if_neg (by omega)]
      have := kind3 q1 e0
      cases hty : zTy a j <;> rw [hty] at this <;> first | rfl | cases this
  · rw [← eV_obj (cI := cI) (cZ := cZ) t1] at hP1 hD1
    obtain ⟨V1, e1⟩ := V0.new (t := (1, a)) (sl := zNf a) (Or.inr (Or.inr ⟨rfl, ha⟩)) (by show a < 100000; omega) hP1 hD1 hS1 V0.2.2.1
    have go := K _ _ _ _ h1 _ _ _ _ V1
    rw [e1] at go
    exact W.cs (show H.1 - n0 + 1 = (H.1 + 1) - n0 by omega) (show H.2.1 - s0 + zNf a = (H.2.1 + zNf a) - s0 by omega) go
end AR
