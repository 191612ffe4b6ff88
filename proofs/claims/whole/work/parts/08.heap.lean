-- ===== fields, rows of numbers, new cells =====
theorem zKk_lt {c k : Nat} (h : zKkAt c k < 9) : c < 12 := by
  refine Nat.lt_of_not_le fun q => ?_
  have : zKk[c]? = none := List.getElem?_eq_none_iff.mpr (show 12 ≤ c from q)
  unfold zKkAt at h
  rw [this] at h
  simp at h
theorem eV_obj {adr : Nat → Nat} {fm : Value} {cI cZ : ClassId} {H : XH} {o c : Nat} (h : H.2.2.1 o = (1, c)) : eV adr fm cI cZ H o = .inr (c, fsV adr fm H o c) := by
  unfold eV; rw [h]; rfl
theorem eV_int {adr : Nat → Nat} {fm : Value} {cI cZ : ClassId} {H : XH} {o : Nat} (h : (H.2.2.1 o).1 = 2) : eV adr fm cI cZ H o = .inl (cI, (H.2.2.1 o).2, .inl (fun k => Int32.ofInt (H.2.2.2.2 o (k : Int)))) := by
  unfold eV; rw [h]; rfl
theorem eV_boo {adr : Nat → Nat} {fm : Value} {cI cZ : ClassId} {H : XH} {o : Nat} (h : (H.2.2.1 o).1 = 3) : eV adr fm cI cZ H o = .inl (cZ, (H.2.2.1 o).2, .inl (fun k => Int32.ofInt (H.2.2.2.2 o (k : Int)))) := by
  unfold eV; rw [h]; rfl
theorem fsV_get {adr : Nat → Nat} {fm : Value} {H : XH} {o c k : Nat} (hk : k < zNf c) : (fsV adr fm H o c)[k]? = some (if zKkAt c k < 2 then .int (Int32.ofInt (H.2.2.2.2 o (k : Int))) else if zKkAt c k = 2 then .long (Int64.ofInt (H.2.2.2.2 o (k : Int))) else cvR adr fm (H.2.2.2.1 o k)) := by
  unfold fsV
  rw [List.getElem?_map, List.getElem?_range hk]
  rfl
theorem fsV_len {adr : Nat → Nat} {fm : Value} {H : XH} {o c : Nat} : (fsV adr fm H o c).length = zNf c := by
  unfold fsV; rw [List.length_map, List.length_range]
theorem fsV_set {adr : Nat → Nat} {fm : Value} {H H' : XH} {o c k : Nat} {v : Value} (hk : k < zNf c) (hm : ∀ j, j ≠ k → H'.2.2.2.2 o (j : Int) = H.2.2.2.2 o (j : Int)) (hr : ∀ j, j ≠ k → H'.2.2.2.1 o j = H.2.2.2.1 o j)
    (hv : (if zKkAt c k < 2 then Value.int (Int32.ofInt (H'.2.2.2.2 o (k : Int))) else if zKkAt c k = 2 then .long (Int64.ofInt (H'.2.2.2.2 o (k : Int))) else cvR adr fm (H'.2.2.2.1 o k)) = v) : (fsV adr fm H o c).set k v = fsV adr fm H' o c := by
  apply List.ext_getElem?
  intro j
  rw [List.getElem?_set]
  by_cases hj : k = j
  · subst hj
    rw [if_pos rfl, if_pos (by rw [fsV_len]; exact hk), fsV_get hk, hv]
  · rw [if_neg hj]
    by_cases hl : j < zNf c
    · rw [fsV_get hl, fsV_get hl, hm j (fun q => hj q.symm), hr j (fun q => hj q.symm)]
    · rw [List.getElem?_eq_none_iff.mpr (by rw [fsV_len]; omega), List.getElem?_eq_none_iff.mpr (by rw [fsV_len]; omega)]
theorem eV_other {adr : Nat → Nat} {fm : Value} {cI cZ : ClassId} {H H' : XH} {o : Nat} (ht : H'.2.2.1 = H.2.2.1) (hm : H'.2.2.2.2 o = H.2.2.2.2 o) (hr : H'.2.2.2.1 o = H.2.2.2.1 o) : eV adr fm cI cZ H' o = eV adr fm cI cZ H o := by
  unfold eV fsV; rw [ht, hm, hr]
section HP
variable {p : Program} {l : Launch} {e : Env} {R : Room} {s : State} {m : MethodId} {args : Array Value} {below : List Frame} {meth : Method} {c : Code} {mid d : Nat} {fm : Value} {D : va_G} {cI cZ : ClassId} {A : Nat → Prop} {adr0 : Nat → Nat} {n0 s0 nL : Nat} {Q : State → Prop} {z : Option XV × XH}
variable {k : XK} {C : XC} {ls st : List XV} {H : XH} {adr : Nat → Nat} {rls : Array Slot} {Hh : Heap} {locs : List Loc} {pc len : Nat}
theorem Inv.heap {st' : List XV} {H' : XH} {Hh' : Heap} {locs' : List Loc} (V : Inv s fm D cI cZ A adr0 n0 s0 nL adr rls Hh locs ls st H) (hok : okH H') (h1 : H'.1 = H.1) (h2 : H'.2.1 = H.2.1) (hm : H'.2.2.2.2 1 = H.2.2.2.2 1)
    (hP : va_P D zcl (zwV adr fm cI cZ H') Hh') (hD : va_D A (zwV adr fm cI cZ H')) (hS : va_S A s.heap Hh' locs') (hst : ∀ v ∈ st', okV H.1 v) : Inv s fm D cI cZ A adr0 n0 s0 nL adr rls Hh' locs' ls st' H' := by
  obtain ⟨a1, a2, a3, a4, a5, a6, a7, a8, a9, a10, a11, a12, a13, a14⟩ := V
  exact ⟨hok, by rw [h1]; exact a2, by rw [h1]; exact hst, hP, hD, hS, a7, by rw [hm]; exact a8, a9, a10, a11, by rw [h1]; exact a12, by rw [h2]; exact a13, a14⟩
theorem up2_other {m : XM} {o : Nat} {k v : Int} {x : Nat} (h : x ≠ o) : up2 m o k v x = m x := if_neg h
theorem upc_other {m : XM} {ss : Nat} {sp : Int} {o : Nat} {dp n : Int} {x : Nat} (h : x ≠ o) : upc m ss sp o dp n x = m x := if_neg h
theorem upr_other {r : Nat → Nat → Nat} {o k v x : Nat} (h : x ≠ o) : upr r o k v x = r x := if_neg h
/-- an own object's number or reference is read -/
theorem so_getX (X : Ctx p R s m args meth c mid d) (V : Inv s fm D cI cZ A adr0 n0 s0 nL adr rls Hh locs ls st H) {i c' k' o : Nat} {st' : List XV} (hst : st = vR o :: st') (hd : decode (zCodAt mid) pc = .ok (.getfield i, 3)) (hF : fF (zOwAt mid) i = some (c', k')) (hc : c' < 12) (ht : H.2.2.1 o = (1, c')) {v : Value}
    (hv : (if zKkAt c' k' < 2 then Value.int (Int32.ofInt (H.2.2.2.2 o (k' : Int))) else if zKkAt c' k' = 2 then .long (Int64.ofInt (H.2.2.2.2 o (k' : Int))) else cvR adr fm (H.2.2.2.1 o k')) = v)
    (go : W p l e R s m args below meth c Hh locs (H.1 - n0) (H.2.1 - s0) Q (F0 m (pc + 3) rls (v :: st'.map (cV adr fm)))) : GO p l e R s m args below meth c fm n0 s0 Q adr rls Hh locs pc st H := by
  subst hst
  obtain ⟨hk, hw⟩ := fF_ok hF hc
  obtain ⟨q1, q2, q3, q4⟩ := zkind_ok c' hc k' hk
  obtain ⟨i1, i2⟩ := okH_in V.1 (o := o) (by rw [ht]; exact Nat.one_ne_zero)
  obtain ⟨a1, a2, a3, a4, a5, a6, a7, a8, a9, a10, a11, a12, a13, a14⟩ := V
  have ho : cvR adr fm o = .ref (adr o) := cvR_ref (by omega) (by omega)
  show W p l e R s m args below meth c Hh locs (H.1 - n0) (H.2.1 - s0) Q (F0 m pc rls (cvR adr fm o :: st'.map (cV adr fm)))
  rw [ho]
  refine va_get X.1 X.2.1 X.2.2.2.2.1 (zlay_in hc) X.2.2.2.1 a7 a4 (o - 32) (fs := fsV adr fm H o c') (ci := c') ?_ (zcl_at c' hc) k' hk (X.2.2.2.2.1 _ hw) (by rw [q4]; exact fun _ h => h) (v := v) (by rw [fsV_get hk, hv]) hd go
  rw [zwV_get i1 i2, eV_obj ht]
/-- an own object's number or reference is written -/
theorem so_putX (X : Ctx p R s m args meth c mid d) (V : Inv s fm D cI cZ A adr0 n0 s0 nL adr rls Hh locs ls st H) {i c' k' o : Nat} {x : XV} {st' : List XV} {H' : XH} (hst : st = x :: vR o :: st') (hd : decode (zCodAt mid) pc = .ok (.putfield i, 3)) (hF : fF (zOwAt mid) i = some (c', k')) (hc : c' < 12) (ht : H.2.2.1 o = (1, c'))
    (hfin : zFinAt c' k' = 1 → zIsInit mid = true ∧ zOwAt mid = c') (hnar : narrow (zTy c' k') (cV adr fm x) = cV adr fm x) (hfit : fits (zTy c' k') (cV adr fm x) = true)
    (hok : okH H') (h1 : H'.1 = H.1) (h2 : H'.2.1 = H.2.1) (h3 : H'.2.2.1 = H.2.2.1) (hm : ∀ q, q ≠ o → H'.2.2.2.2 q = H.2.2.2.2 q) (hr : ∀ q, q ≠ o → H'.2.2.2.1 q = H.2.2.2.1 q) (hm1 : ∀ j : Nat, j ≠ k' → H'.2.2.2.2 o (j : Int) = H.2.2.2.2 o (j : Int)) (hr1 : ∀ j, j ≠ k' → H'.2.2.2.1 o j = H.2.2.2.1 o j)
    (hv : (if zKkAt c' k' < 2 then Value.int (Int32.ofInt (H'.2.2.2.2 o (k' : Int))) else if zKkAt c' k' = 2 then .long (Int64.ofInt (H'.2.2.2.2 o (k' : Int))) else cvR adr fm (H'.2.2.2.1 o k')) = cV adr fm x)
    (go : ∀ (Hh' : Heap) (locs' : List Loc), Inv s fm D cI cZ A adr0 n0 s0 nL adr rls Hh' locs' ls st' H' → W p l e R s m args below meth c Hh' locs' (H'.1 - n0) (H'.2.1 - s0) Q (F0 m (pc + 3) rls (st'.map (cV adr fm)))) : GO p l e R s m args below meth c fm n0 s0 Q adr rls Hh locs pc st H := by
  subst hst
  obtain ⟨hk, hw⟩ := fF_ok hF hc
  obtain ⟨q1, q2, q3, q4⟩ := zkind_ok c' hc k' hk
  obtain ⟨i1, i2⟩ := okH_in V.1 (o := o) (by rw [ht]; exact Nat.one_ne_zero)
  have V0 := V
  obtain ⟨a1, a2, a3, a4, a5, a6, a7, a8, a9, a10, a11, a12, a13, a14⟩ := V
  have ho : cvR adr fm o = .ref (adr o) := cvR_ref (by omega) (by omega)
  show W p l e R s m args below meth c Hh locs (H.1 - n0) (H.2.1 - s0) Q (F0 m pc rls (cV adr fm x :: cvR adr fm o :: st'.map (cV adr fm)))
  rw [ho]
  have hget : (zwV adr fm cI cZ H)[o - 32]? = some (adr o, .inr (c', fsV adr fm H o c')) := by rw [zwV_get i1 i2, eV_obj ht]
  have hset : (zwV adr fm cI cZ H).set (o - 32) (adr o, .inr (c', (fsV adr fm H o c').set k' (cV adr fm x))) = zwV adr fm cI cZ H' := by
    rw [← zwV_set h1 i1 i2 (fun q hq => eV_other h3 (hm q hq) (hr q hq)), eV_obj (show H'.2.2.1 o = (1, c') from by rw [h3]; exact ht), fsV_set hk hm1 hr1 hv]
  have kk : ∀ (H1 : Heap) (locs1 : List Loc), va_P D zcl ((zwV adr fm cI cZ H).set (o - 32) (adr o, .inr (c', (fsV adr fm H o c').set k' (cV adr fm x)))) H1 → va_D A ((zwV adr fm cI cZ H).set (o - 32) (adr o, .inr (c', (fsV adr fm H o c').set k' (cV adr fm x)))) → va_S A s.heap H1 locs1 → W p l e R s m args below meth c H1 locs1 (H.1 - n0) (H.2.1 - s0) Q (F0 m (pc + 3) rls (st'.map (cV adr fm))) := by
    intro H1 locs1 hP1 hD1 hS1
    rw [hset] at hP1 hD1
    have := go H1 locs1 (V0.heap hok h1 h2 (hm 1 (by omega)) hP1 hD1 hS1 (mem_tail (mem_tail a3).2).2)
    rw [h1, h2] at this
    exact this
  by_cases hf : (zTT c' k').2.2.2 = true
  · obtain ⟨f1, f2⟩ := hfin (q3.mpr hf)
    exact va_putF X.1 X.2.1 X.2.2.2.2.1 (zlay_in hc) (zTy c') (zty_ok c' hc) (znm_ok c' hc) X.2.2.2.1 a7 a4 a5 a6 (o - 32) hget (zcl_at c' hc) k' hk (X.2.2.2.2.1 _ hw) (by rw [q4]; exact fun _ h => h) hf (X.2.2.2.2.2.2.2.1 f1) (by rw [q4, f2]) (zty_ok c' hc k' hk) hnar hfit (by rw [fsV_len]; exact hk) hd kk
  · exact va_put X.1 X.2.1 X.2.2.2.2.1 (zlay_in hc) (zTy c') (zty_ok c' hc) (znm_ok c' hc) X.2.2.2.1 a7 a4 a5 a6 (o - 32) hget (zcl_at c' hc) k' hk (X.2.2.2.2.1 _ hw) (by rw [q4]; exact fun _ h => h) (by simpa using hf) (zty_ok c' hc k' hk) hnar hfit (by rw [fsV_len]; exact hk) hd kk
theorem kind0 {c k : Nat} (h : kindOK c k = true) (h0 : zKkAt c k = 0) : zTy c k = .int := by
  unfold kindOK at h; rw [h0] at h; exact of_decide_eq_true h
theorem kind1 {c k : Nat} (h : kindOK c k = true) (h0 : zKkAt c k = 1) : zTy c k = .boolean := by
  unfold kindOK at h; rw [h0] at h; exact of_decide_eq_true h
theorem kind2 {c k : Nat} (h : kindOK c k = true) (h0 : zKkAt c k = 2) : zTy c k = .long := by
  unfold kindOK at h; rw [h0] at h; exact of_decide_eq_true h
theorem kind3 {c k : Nat} (h : kindOK c k = true) (h0 : zKkAt c k = 3) : isRefTy (zTy c k) = true := by
  unfold kindOK at h; rw [h0] at h; exact h
theorem ref_fit {t : FieldType} (h : isRefTy t = true) (a : Nat) : narrow t (.ref a) = .ref a ∧ fits t (.ref a) = true := by
  cases t <;> first | exact ⟨rfl, rfl⟩ | cases h
theorem boo_nar {x : Int} (h : x = 0 ∨ x = 1) : narrow .boolean (.int (Int32.ofInt x)) = .int (Int32.ofInt x) ∧ fits .boolean (.int (Int32.ofInt x)) = true := by
  rcases h with rfl | rfl <;> exact ⟨by decide, by decide⟩
theorem so_get (X : Ctx p R s m args meth c mid d) (K : KK p l e R s m args below meth c fm D cI cZ A adr0 n0 s0 nL Q z k) (V : Inv s fm D cI cZ A adr0 n0 s0 nL adr rls Hh locs ls st H) {i : Nat} (hd : decode (zCodAt mid) pc = .ok (.getfield i, 3)) (h : zStep (xGet (zOwAt mid) pc i) C k d ls st H = some z)
    (strV : ∀ k', fF (zOwAt mid) i = some (12, k') → Cond.fieldLink (zClsAt (zOwAt mid)) i "java/lang/String" (if k' = 0 then "value" else "coder") (if k' = 0 then "[B" else "B") ∈ lw_good) : GO p l e R s m args below meth c fm n0 s0 Q adr rls Hh locs pc st H := by
  unfold xGet at h
  cases hF : fF (zOwAt mid) i with
  | none => rw [hF] at h; exact absurd h fun q => bad_step q
  | some ck =>
    obtain ⟨c', k'⟩ := ck
    rw [hF] at h
    dsimp only at h
    by_cases h12 : c' = 12
    · subst h12
      rw [if_pos rfl] at h
      have hw := strV k' hF
      by_cases hk0 : k' = 0
      · rw [if_pos hk0] at h hw
        obtain ⟨o, st', rfl, o1, o2, h1⟩ := oStrV_inv (show oStrV (pc + 3) 0 0 0 [] C k d ls st H = some z from h)
        have hro := V.2.2.2.2.2.2.2.1
        have hs := hro.2.2.1.2.2.2.2.2.2.2.2 (o - 6) (by omega)
        rw [show 6 + (o - 6) = o by omega, show 19 + (o - 6) = o + 13 by omega] at hs
        have ho : cvR adr fm o = .ref (adr o) := cvR_ref (by omega) (by omega)
        have ho2 : cvR adr fm (o + 13) = .ref (adr (o + 13)) := cvR_ref (by omega) (by omega)
        have go := K _ _ _ _ h1 adr rls Hh locs (V.st (mem_put (show okV H.1 (vR (o + 13)) from by show o + 13 < 32 + H.1; omega) (mem_tail V.2.2.1).2))
        show W p l e R s m args below meth c Hh locs (H.1 - n0) (H.2.1 - s0) Q (F0 m pc rls (cvR adr fm o :: st'.map (cV adr fm)))
        have go : W p l e R s m args below meth c Hh locs (H.1 - n0) (H.2.1 - s0) Q (F0 m (pc + 3) rls (cvR adr fm (o + 13) :: st'.map (cV adr fm))) := go
        rw [ho2] at go
        rw [ho]
        rw [if_pos hk0] at hw
        exact vk_getf X.1 X.2.1 hs.2.2.1 V.2.2.2.2.2.1 X.2.2.2.1 (X.2.2.2.2.1 _ hw) (fun _ h => h) hd go
      · rw [if_neg hk0] at h hw
        obtain ⟨o, st', rfl, o1, o2, h1⟩ := oStrC_inv (show oStrC (pc + 3) 0 0 0 [] C k d ls st H = some z from h)
        have hro := V.2.2.2.2.2.2.2.1
        have hs := hro.2.2.1.2.2.2.2.2.2.2.2 (o - 6) (by omega)
        rw [show 6 + (o - 6) = o by omega, show 19 + (o - 6) = o + 13 by omega] at hs
        have ho : cvR adr fm o = .ref (adr o) := cvR_ref (by omega) (by omega)
        have go := K _ _ _ _ h1 adr rls Hh locs (V.st (mem_put (show okV H.1 (vI 0) from ⟨by decide, by decide⟩) (mem_tail V.2.2.1).2))
        show W p l e R s m args below meth c Hh locs (H.1 - n0) (H.2.1 - s0) Q (F0 m pc rls (cvR adr fm o :: st'.map (cV adr fm)))
        rw [ho]
        rw [if_neg hk0] at hw
        exact vk_getf X.1 X.2.1 hs.2.1 V.2.2.2.2.2.1 X.2.2.2.1 (X.2.2.2.2.1 _ hw) (fun _ h => h) hd go
    · rw [if_neg h12] at h
      by_cases hk2 : zKkAt c' k' < 2
      · rw [if_pos hk2] at h
        obtain ⟨o, st', rfl, ht, h1⟩ := oGetI_inv (show oGetI (pc + 3) c' k' 0 [] C k d ls st H = some z from h)
        refine so_getX X V rfl hd hF (zKk_lt (c := c') (k := k') (by omega)) ht (by rw [if_pos hk2]; rfl) (K _ _ _ _ h1 adr rls Hh locs (V.st (mem_put (V.1.2.2.2.1 o (k' : Int) fun q => ?_) (mem_tail V.2.2.1).2)))
        rw [ht] at q
        have := q.2
        rw [Int.toNat_natCast] at this
        have : zKkAt c' k' = 2 := this
        omega
      · rw [if_neg hk2] at h
        by_cases hk3 : zKkAt c' k' = 2
        · rw [if_pos hk3] at h
          obtain ⟨o, st', rfl, ht, h1⟩ := oGetL_inv (show oGetL (pc + 3) c' k' 0 [] C k d ls st H = some z from h)
          exact so_getX X V rfl hd hF (zKk_lt (c := c') (k := k') (by omega)) ht (by rw [if_neg hk2, if_pos hk3]; rfl) (K _ _ _ _ h1 adr rls Hh locs (V.st (mem_put (V.1.2.2.1 o (k' : Int)) (mem_tail V.2.2.1).2)))
        · rw [if_neg hk3] at h
          by_cases hk4 : zKkAt c' k' = 3
          · rw [if_pos hk4] at h
            obtain ⟨o, st', rfl, ht, hn, h1⟩ := oGetR_inv (show oGetR (pc + 3) c' k' 0 [] C k d ls st H = some z from h)
            exact so_getX X V rfl hd hF (zKk_lt (c := c') (k := k') (by omega)) ht (by rw [if_neg hk2, if_neg hk3]; rfl) (K _ _ _ _ h1 adr rls Hh locs (V.st (mem_put (V.1.2.2.2.2.2.1 o k') (mem_tail V.2.2.1).2)))
          · rw [if_neg hk4] at h
            exact absurd h fun q => bad_step q
theorem nat_ne_cast {j k : Nat} (h : j ≠ k) : (j : Int) ≠ (k : Int) := fun q => h (Int.ofNat.inj q)
theorem so_put (X : Ctx p R s m args meth c mid d) (K : KK p l e R s m args below meth c fm D cI cZ A adr0 n0 s0 nL Q z k) (V : Inv s fm D cI cZ A adr0 n0 s0 nL adr rls Hh locs ls st H) {i : Nat} (hd : decode (zCodAt mid) pc = .ok (.putfield i, 3)) (h : zStep (xPut mid (zOwAt mid) pc i) C k d ls st H = some z) : GO p l e R s m args below meth c fm n0 s0 Q adr rls Hh locs pc st H := by
  unfold xPut at h
  cases hF : fF (zOwAt mid) i with
  | none => rw [hF] at h; exact absurd h fun q => bad_step q
  | some ck =>
    obtain ⟨c', k'⟩ := ck
    rw [hF] at h
    dsimp only at h
    by_cases hb : 12 ≤ c' ∨ (zFinAt c' k' = 1 ∧ (zIsInit mid = false ∨ zOwAt mid ≠ c'))
    · rw [if_pos hb] at h; exact absurd h fun q => bad_step q
    · rw [if_neg hb] at h
      have hc : c' < 12 := Nat.lt_of_not_le fun q => hb (Or.inl q)
      have hfin : zFinAt c' k' = 1 → zIsInit mid = true ∧ zOwAt mid = c' := by
        intro q
        refine ⟨?_, Classical.byContradiction fun w => hb (Or.inr ⟨q, Or.inr w⟩)⟩
        cases hi : zIsInit mid
        · exact absurd (Or.inr ⟨q, Or.inl hi⟩) hb
        · rfl
      obtain ⟨hk, -⟩ := fF_ok hF hc
      obtain ⟨q1, q2, q3, q4⟩ := zkind_ok c' hc k' hk
      by_cases hk4 : zKkAt c' k' < 4
      · rw [if_pos hk4] at h
        have hcs : zKkAt c' k' = 0 ∨ zKkAt c' k' = 1 ∨ zKkAt c' k' = 2 ∨ zKkAt c' k' = 3 := by omega
        rcases hcs with e0 | e0 | e0 | e0
        · rw [e0] at h
          obtain ⟨x, o, st', rfl, ht, h1⟩ := oPutI_inv (show oPutI (pc + 3) c' k' (zFinAt c' k') [] C k d ls st H = some z from h)
          have hx : in32 x := (mem_tail V.2.2.1).1
          refine so_putX X V rfl hd hF hc ht hfin (by rw [kind0 q1 e0]; rfl) (by rw [kind0 q1 e0]; rfl) (okH_up2 V.1 (by rw [ht]; exact Nat.one_ne_zero) (in32_64 hx) (fun _ => hx) (fun q => by rw [ht] at q; cases q)) rfl rfl rfl (fun q hq => up2_other hq) (fun _ _ => rfl)
            (fun j hj => ?_) (fun _ _ => rfl) ?_ (fun Hh' locs' V' => K _ _ _ _ h1 _ _ _ _ V')
          · show up2 H.2.2.2.2 o (k' : Int) x o (j : Int) = _
            rw [up2_at, if_pos rfl, if_neg (nat_ne_cast hj)]
          · rw [if_pos (by omega)]
            show Value.int (Int32.ofInt (up2 H.2.2.2.2 o (k' : Int) x o (k' : Int))) = _
            rw [up2_at, if_pos rfl, if_pos rfl]; rfl
        · rw [e0] at h
          obtain ⟨x, o, st', rfl, ht, hx01, h1⟩ := oPutZ_inv (show oPutZ (pc + 3) c' k' (zFinAt c' k') [] C k d ls st H = some z from h)
          have hx : in32 x := (mem_tail V.2.2.1).1
          refine so_putX X V rfl hd hF hc ht hfin (by rw [kind1 q1 e0]; exact (boo_nar hx01).1) (by rw [kind1 q1 e0]; exact (boo_nar hx01).2) (okH_up2 V.1 (by rw [ht]; exact Nat.one_ne_zero) (in32_64 hx) (fun _ => hx) (fun q => by rw [ht] at q; cases q)) rfl rfl rfl (fun q hq => up2_other hq) (fun _ _ => rfl)
            (fun j hj => ?_) (fun _ _ => rfl) ?_ (fun Hh' locs' V' => K _ _ _ _ h1 _ _ _ _ V')
          · show up2 H.2.2.2.2 o (k' : Int) x o (j : Int) = _
            rw [up2_at, if_pos rfl, if_neg (nat_ne_cast hj)]
          · rw [if_pos (by omega)]
            show Value.int (Int32.ofInt (up2 H.2.2.2.2 o (k' : Int) x o (k' : Int))) = _
            rw [up2_at, if_pos rfl, if_pos rfl]; rfl
        · rw [e0] at h
          obtain ⟨x, o, st', rfl, ht, h1⟩ := oPutL_inv (show oPutL (pc + 3) c' k' (zFinAt c' k') [] C k d ls st H = some z from h)
          have hx : in64 x := (mem_tail V.2.2.1).1
          refine so_putX X V rfl hd hF hc ht hfin (by rw [kind2 q1 e0]; rfl) (by rw [kind2 q1 e0]; rfl) (okH_up2 V.1 (by rw [ht]; exact Nat.one_ne_zero) hx (fun q => absurd ⟨by rw [ht], by rw [ht, Int.toNat_natCast]; exact e0⟩ q) (fun q => by rw [ht] at q; cases q)) rfl rfl rfl (fun q hq => up2_other hq) (fun _ _ => rfl)
            (fun j hj => ?_) (fun _ _ => rfl) ?_ (fun Hh' locs' V' => K _ _ _ _ h1 _ _ _ _ V')
          · show up2 H.2.2.2.2 o (k' : Int) x o (j : Int) = _
            rw [up2_at, if_pos rfl, if_neg (nat_ne_cast hj)]
          · rw [if_neg (by omega), if_pos e0]
            show Value.long (Int64.ofInt (up2 H.2.2.2.2 o (k' : Int) x o (k' : Int))) = _
            rw [up2_at, if_pos rfl, if_pos rfl]; rfl
        · rw [e0] at h
          obtain ⟨x, o, st', rfl, ht, hx32, h1⟩ := oPutR_inv (show oPutR (pc + 3) c' k' (zFinAt c' k') [] C k d ls st H = some z from h)
          have hx : x < 32 + H.1 := (mem_tail V.2.2.1).1
          have hcv : cV adr fm (vR x) = .ref (adr x) := cvR_ref (by omega) (by omega)
          refine so_putX X V rfl hd hF hc ht hfin (by rw [hcv]; exact (ref_fit (kind3 q1 e0) _).1) (by rw [hcv]; exact (ref_fit (kind3 q1 e0) _).2) (okH_upr V.1 (by rw [ht]; exact Nat.one_ne_zero) hx) rfl rfl rfl (fun _ _ => rfl) (fun q hq => upr_other hq)
            (fun _ _ => rfl) (fun j hj => ?_) ?_ (fun Hh' locs' V' => K _ _ _ _ h1 _ _ _ _ V')
          · show upr H.2.2.2.1 o k' x o j = _
            unfold upr
            rw [if_pos rfl, if_neg hj]
          · rw [if_neg (by omega), if_neg (by omega)]
            show cvR adr fm (upr H.2.2.2.1 o k' x o k') = _
            unfold upr
            rw [if_pos rfl, if_pos rfl]; rfl
      · rw [if_neg hk4] at h
        exact absurd h fun q => bad_step q
end HP
