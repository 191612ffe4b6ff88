-- ===== the rest of the instructions =====
theorem clampN {i : Int} (h0 : 0 ≤ i) (hi : in32 i) : ¬ Int32.ofInt i < 0 ∧ (Int32.ofInt i).toNatClampNeg = i.toNat := by
  refine ⟨fun q => absurd ((of32_lt (y := 0) hi ⟨by decide, by decide⟩).mp q) (by omega), ?_⟩
  show ((Int32.ofInt i).toInt).toNat = i.toNat
  rw [toInt_of32 hi]
theorem lk_tab (f : Int → Nat) : ∀ (l : List Int) (j : Nat) (x lo : Int), ((l.zipIdx j).map (fun q => (lo + (q.2 : Int), f q.1))).lookup x = if lo + j ≤ x then (l[(x - lo - j).toNat]?).map f else none
  | [], j, x, lo => by simp
  | a :: t, j, x, lo => by
    rw [List.zipIdx_cons, List.map_cons, List.lookup_cons]
    have ih := lk_tab f t (j + 1) x lo
    by_cases h : x = lo + j
    · subst h
      have e : (lo + (j : Int) - lo - (j : Int)).toNat = 0 := by omega
      simp [e]
    · have hb : (x == lo + (j : Int)) = false := by simpa using h
      rw [hb, ih]
      dsimp only
      by_cases h2 : lo + (j : Int) ≤ x
      · have h3 : lo + ((j + 1 : Nat) : Int) ≤ x := by omega
        rw [if_pos h2, if_pos h3]
        obtain ⟨i, hi⟩ : ∃ i : Nat, (x - lo - (j : Int)).toNat = i + 1 := ⟨(x - lo - ((j + 1 : Nat) : Int)).toNat, by omega⟩
        have hi2 : (x - lo - ((j + 1 : Nat) : Int)).toNat = i := by omega
        rw [hi, hi2]; rfl
      · rw [if_neg h2, if_neg (by omega)]
theorem lk_pairs (pc : Nat) (df x : Int) : ∀ l : List (Int × Int), ((l.map (fun q => (q.1, tgt pc q.2))).lookup x).getD (tgt pc df) = tgt pc (Op.lookupswitch.offset l df x) ∧ ((Op.lookupswitch.offset l df x) = df ∨ ∃ q ∈ l, q.2 = Op.lookupswitch.offset l df x)
  | [] => ⟨rfl, Or.inl rfl⟩
  | (a, o) :: t => by
    obtain ⟨h1, h2⟩ := lk_pairs pc df x t
    rw [Op.lookupswitch.offset_cons, List.map_cons, List.lookup_cons]
    by_cases h : a = x
    · subst h
      simp
    · have hb : (x == a) = false := by simpa using fun q => h q.symm
      rw [if_neg h, hb]
      refine ⟨h1, ?_⟩
      rcases h2 with h2 | ⟨q, hq, h2⟩
      · exact Or.inl h2
      · exact Or.inr ⟨q, List.mem_cons_of_mem _ hq, h2⟩
theorem zT_ok : ∀ q ∈ zT, 6 ≤ q.2.2 ∧ q.2.2 < 19 ∧ (zSrI (q.2.2 - 6)).1 = zClsAt q.1 ∧ (zSrI (q.2.2 - 6)).2.1 = q.2.1 := by decide +kernel
section RM
variable {p : Program} {l : Launch} {e : Env} {R : Room} {s : State} {m : MethodId} {args : Array Value} {below : List Frame} {meth : Method} {c : Code} {mid d : Nat} {fm : Value} {D : va_G} {cI cZ : ClassId} {A : Nat → Prop} {adr0 : Nat → Nat} {n0 s0 nL : Nat} {Q : State → Prop} {z : Option XV × XH}
variable {k : XK} {C : XC} {ls st : List XV} {H : XH} {adr : Nat → Nat} {rls : Array Slot} {Hh : Heap} {locs : List Loc} {pc len : Nat}
theorem so_dup2 (X : Ctx p R s m args meth c mid d) (K : KK p l e R s m args below meth c fm D cI cZ A adr0 n0 s0 nL Q z k) (V : Inv s fm D cI cZ A adr0 n0 s0 nL adr rls Hh locs ls st H) (hd : decode (zCodAt mid) pc = .ok (.dup2, 1)) (h : oDup2 (pc + 1) 0 0 0 [] C k d ls st H = some z) : GO p l e R s m args below meth c fm n0 s0 Q adr rls Hh locs pc st H := by
  obtain ⟨x, y, st', rfl, hl, hl2, h1⟩ := oDup2_inv h
  obtain ⟨hx, ht⟩ := mem_tail V.2.2.1
  obtain ⟨hy, ht⟩ := mem_tail ht
  exact lv_dup2_11 X.1 X.2.1 hd (by rw [cV_cat V.fm, cat_notLong hl]) (by rw [cV_cat V.fm, cat_notLong hl2]) (K _ _ _ _ h1 _ _ _ _ (V.st (mem_put hx (mem_put hy (mem_put hx (mem_put hy ht))))))
theorem zM_nine {o i y n : Nat} (h : fM o i = some (y, n, 9)) : Cond.methodLink (zClsAt o) i Lib.objectInit ∈ lw_good := by
  obtain ⟨q, hq⟩ := zM_find h
  unfold mOK at hq
  exact lw_good_in (wAt_in hq) (good_ml _ _ _)
theorem zM_eight {o i y n : Nat} (h : fM o i = some (y, n, 8)) : Cond.methodLink (zClsAt o) i arraycopyName ∈ lw_good := by
  obtain ⟨q, hq⟩ := zM_find h
  unfold mOK at hq
  exact lw_good_in (wAt_in hq) (good_ml _ _ _)
theorem zM_ten {o i y n : Nat} (h : fM o i = some (y, n, 10)) : Cond.methodLink (zClsAt o) i Lib.Math.max.name ∈ lw_good := by
  obtain ⟨q, hq⟩ := zM_find h
  unfold mOK at hq
  exact lw_good_in (wAt_in hq) (good_ml _ _ _)
theorem zM_elf {o i y n : Nat} (h : fM o i = some (y, n, 11)) : Cond.methodLink (zClsAt o) i Lib.Math.min.name ∈ lw_good := by
  obtain ⟨q, hq⟩ := zM_find h
  unfold mOK at hq
  exact lw_good_in (wAt_in hq) (good_ml _ _ _)
theorem zM_twl {o i y n : Nat} (h : fM o i = some (y, n, 12)) : Cond.methodLink (zClsAt o) i Lib.MathLoose.max_long.x ∈ lw_good := by
  obtain ⟨q, hq⟩ := zM_find h
  unfold mOK at hq
  exact lw_good_in (wAt_in hq) (good_ml _ _ _)
theorem so_obj (X : Ctx p R s m args meth c mid d) (K : KK p l e R s m args below meth c fm D cI cZ A adr0 n0 s0 nL Q z k) (hnL : nL = zMaxAt mid) (V : Inv s fm D cI cZ A adr0 n0 s0 nL adr rls Hh locs ls st H) {i y n : Nat} (hF : fM (zOwAt mid) i = some (y, n, 9)) (hd : decode (zCodAt mid) pc = .ok (.invokespecial i, 3)) (h : oObj (pc + 3) 0 0 0 [] C k d ls st H = some z) : GO p l e R s m args below meth c fm n0 s0 Q adr rls Hh locs pc st H := by
  obtain ⟨o, st', rfl, hd0, ho, hcat, h1⟩ := oObj_inv h
  obtain ⟨hx, ht⟩ := mem_tail V.2.2.1
  have x1 := X.2.2.2.2.2.2.2.2.1
  have x2 := X.2.2.2.2.2.2.2.2.2
  have go := K _ _ _ _ h1 adr rls Hh locs (V.st ht)
  show W p l e R s m args below meth c Hh locs (H.1 - n0) (H.2.1 - s0) Q (F0 m pc rls (cvR adr fm o :: st'.map (cV adr fm)))
  rw [cvR_ref (by omega) (by omega)]
  exact W.objInit X.1 X.2.1 X.2.2.2.1 (X.2.2.2.2.1 _ (zM_nine hF)) (X.2.2.2.2.1 _ (lw_good_in obj_ok.1 (good_im _))) (X.2.2.2.2.1 _ (lw_good_in obj_ok.2 (good_code _ _ _ _))) rfl (V.lr.1.trans (V.len.trans (hnL.trans X.2.2.1.symm))) rfl hd (by omega) (by show 2 * 0 + _ + 12 ≤ R.locals; rw [cat_sum (hf := V.fm)]; omega) go
theorem so_math (X : Ctx p R s m args meth c mid d) (K : KK p l e R s m args below meth c fm D cI cZ A adr0 n0 s0 nL Q z k) (M : Rm R n0 s0 z k) (hnL : nL = zMaxAt mid) (V : Inv s fm D cI cZ A adr0 n0 s0 nL adr rls Hh locs ls st H) {i y n : Nat} {f : Int → Int → Int}
    (hF : (fM (zOwAt mid) i = some (y, n, 10) ∧ f = iMax) ∨ (fM (zOwAt mid) i = some (y, n, 11) ∧ f = iMin)) (hd : decode (zCodAt mid) pc = .ok (.invokestatic i, 3)) (h : oMath f (pc + 3) 0 0 0 [] C k d ls st H = some z) : GO p l e R s m args below meth c fm n0 s0 Q adr rls Hh locs pc st H := by
  obtain ⟨y', x', st', rfl, hd0, hcat, h1⟩ := oMath_inv h
  obtain ⟨hy, ht⟩ := mem_tail V.2.2.1
  obtain ⟨hx, ht⟩ := mem_tail ht
  have x1 := X.2.2.2.2.2.2.2.2.1
  have x2 := X.2.2.2.2.2.2.2.2.2
  have hml : c.maxLocals = rls.size := (V.lr.1.trans (V.len.trans (hnL.trans X.2.2.1.symm))).symm
  have hz : okV H.1 (vI (f x' y')) := by
    rcases hF with ⟨-, rfl⟩ | ⟨-, rfl⟩
    · show in32 (iMax x' y'); unfold iMax; split; exact hy; exact hx
    · show in32 (iMin x' y'); unfold iMin; split; exact hy; exact hx
  have go := K _ _ _ _ h1 adr rls Hh locs (V.st (mem_put hz ht))
  obtain ⟨m1, m2⟩ := M.1 _ _ _ _ h1
  have r1 := M.2.1
  have r2 := M.2.2
  have hl : ((st'.map (cV adr fm)).map fun v => v.category).sum + 13 ≤ R.locals := by rw [cat_sum (hf := V.fm)]; omega
  rcases hF with ⟨hF, rfl⟩ | ⟨hF, rfl⟩
  · refine va_mmax X.1 X.2.1 hml X.2.2.2.1 (X.2.2.2.2.1 _ (zM_ten hF)) (X.2.2.2.2.1 _ (lw_good_in math_ok.1.1 (good_st _))) (X.2.2.2.2.1 _ (lw_good_in math_ok.2.2.2 (good_ini _))) (X.2.2.2.2.1 _ (lw_good_in math_ok.1.2 (good_code _ _ _ _))) (by omega) hl (by omega) (by omega) hd ?_
    have e1 : (if Int32.ofInt x' < Int32.ofInt y' then Int32.ofInt y' else Int32.ofInt x') = Int32.ofInt (iMax x' y') := by
      unfold iMax
      by_cases q : x' < y'
      · rw [if_pos q, if_pos ((of32_lt hx hy).mpr q)]
      · rw [if_neg q, if_neg (fun w => q ((of32_lt hx hy).mp w))]
    rw [e1]; exact go
  · refine va_mmin X.1 X.2.1 hml X.2.2.2.1 (X.2.2.2.2.1 _ (zM_elf hF)) (X.2.2.2.2.1 _ (lw_good_in math_ok.2.1.1 (good_st _))) (X.2.2.2.2.1 _ (lw_good_in math_ok.2.2.2 (good_ini _))) (X.2.2.2.2.1 _ (lw_good_in math_ok.2.1.2 (good_code _ _ _ _))) (by omega) hl (by omega) (by omega) hd ?_
    have e1 : (if Int32.ofInt y' < Int32.ofInt x' then Int32.ofInt y' else Int32.ofInt x') = Int32.ofInt (iMin x' y') := by
      unfold iMin
      by_cases q : y' < x'
      · rw [if_pos q, if_pos ((of32_lt hy hx).mpr q)]
      · rw [if_neg q, if_neg (fun w => q ((of32_lt hy hx).mp w))]
    rw [e1]; exact go
theorem so_mathL (X : Ctx p R s m args meth c mid d) (K : KK p l e R s m args below meth c fm D cI cZ A adr0 n0 s0 nL Q z k) (M : Rm R n0 s0 z k) (hnL : nL = zMaxAt mid) (V : Inv s fm D cI cZ A adr0 n0 s0 nL adr rls Hh locs ls st H) {i y n : Nat}
    (hF : fM (zOwAt mid) i = some (y, n, 12)) (hd : decode (zCodAt mid) pc = .ok (.invokestatic i, 3)) (h : oMathL lMax (pc + 3) 0 0 0 [] C k d ls st H = some z) : GO p l e R s m args below meth c fm n0 s0 Q adr rls Hh locs pc st H := by
  obtain ⟨y', x', st', rfl, hd0, hcat, h1⟩ := oMathL_inv h
  obtain ⟨hy, ht⟩ := mem_tail V.2.2.1
  obtain ⟨hx, ht⟩ := mem_tail ht
  have x1 := X.2.2.2.2.2.2.2.2.1
  have x2 := X.2.2.2.2.2.2.2.2.2
  have hml : c.maxLocals = rls.size := (V.lr.1.trans (V.len.trans (hnL.trans X.2.2.1.symm))).symm
  have hz : okV H.1 (vL (lMax x' y')) := by show in64 (lMax x' y'); unfold lMax; split; exact hx; exact hy
  have go := K _ _ _ _ h1 adr rls Hh locs (V.st (mem_put hz ht))
  obtain ⟨m1, m2⟩ := M.1 _ _ _ _ h1
  have r1 := M.2.1
  have r2 := M.2.2
  have hl : ((st'.map (cV adr fm)).map fun v => v.category).sum + 15 ≤ R.locals := by rw [cat_sum (hf := V.fm)]; omega
  refine va_mmax_long X.1 X.2.1 hml X.2.2.2.1 (X.2.2.2.2.1 _ (zM_twl hF)) (X.2.2.2.2.1 _ (lw_good_in math_ok.2.2.1.1 (good_st _))) (X.2.2.2.2.1 _ (lw_good_in math_ok.2.2.2 (good_ini _))) (X.2.2.2.2.1 _ (lw_good_in math_ok.2.2.1.2 (good_code _ _ _ _))) (by omega) hl (by omega) (by omega) hd ?_
  have e1 : (if Int64.ofInt y' < Int64.ofInt x' then Int64.ofInt x' else Int64.ofInt y') = Int64.ofInt (lMax x' y') := by
    unfold lMax
    by_cases q : y' < x'
    · rw [if_pos q, if_pos ((of64_lt hy hx).mpr q)]
    · rw [if_neg q, if_neg (fun w => q ((of64_lt hy hx).mp w))]
  rw [e1]; exact go
theorem so_copy (X : Ctx p R s m args meth c mid d) (K : KK p l e R s m args below meth c fm D cI cZ A adr0 n0 s0 nL Q z k) (hnL : nL = zMaxAt mid) (V : Inv s fm D cI cZ A adr0 n0 s0 nL adr rls Hh locs ls st H) {i y' n' : Nat} (hF : fM (zOwAt mid) i = some (y', n', 8)) (hd : decode (zCodAt mid) pc = .ok (.invokestatic i, 3)) (h : oCopy (pc + 3) 0 0 0 [] C k d ls st H = some z) : GO p l e R s m args below meth c fm n0 s0 Q adr rls Hh locs pc st H := by
  obtain ⟨n, dp, dd, sp, ss, rfl, ⟨hd0, hne, hts, htd, hn0, hsp0, hdp0, hsl, hdl⟩, h1⟩ := oCopy_inv h
  have hn32 : in32 n := (mem_tail V.2.2.1).1
  have hdp32 : in32 dp := (mem_tail (mem_tail V.2.2.1).2).1
  have hsp32 : in32 sp := (mem_tail (mem_tail (mem_tail (mem_tail V.2.2.1).2).2).2).1
  have x1 := X.2.2.2.2.2.2.2.2.1
  have x2 := X.2.2.2.2.2.2.2.2.2
  have hml : c.maxLocals = rls.size := (V.lr.1.trans (V.len.trans (hnL.trans X.2.2.1.symm))).symm
  have V0 := V
  obtain ⟨a1, a2, a3, a4, a5, a6, a7, a8, a9, a10, a11, a12, a13, a14⟩ := V
  obtain ⟨s1, s2⟩ := okH_in a1 (o := ss) (by omega)
  obtain ⟨d1, d2⟩ := okH_in a1 (o := dd) (by omega)
  obtain ⟨n1, n2⟩ := clampN hn0 hn32
  obtain ⟨p1, p2⟩ := clampN hsp0 hsp32
  obtain ⟨q1, q2⟩ := clampN hdp0 hdp32
  have hok := okH_upc (sp := sp) (dp := dp) (n := n) a1 hts htd
  have hfun : va_cpy (fun k : Nat => Int32.ofInt (H.2.2.2.2 ss (k : Int))) (fun k : Nat => Int32.ofInt (H.2.2.2.2 dd (k : Int))) sp.toNat dp.toNat n.toNat = fun k : Nat => Int32.ofInt (upc H.2.2.2.2 ss sp dd dp n dd (k : Int)) := by
    funext j
    unfold va_cpy
    rw [upc_at, if_pos rfl]
    by_cases hj : dp.toNat ≤ j ∧ j < dp.toNat + n.toNat
    · rw [if_pos hj, if_pos (by omega)]
      have : ((sp.toNat + (j - dp.toNat) : Nat) : Int) = sp + ((j : Int) - dp) := by omega
      show Int32.ofInt (H.2.2.2.2 ss ((sp.toNat + (j - dp.toNat) : Nat) : Int)) = _
      rw [this]
    · rw [if_neg hj, if_neg (by omega)]
  have hother : ∀ q, q ≠ dd → eV adr fm cI cZ (setM H (upc H.2.2.2.2 ss sp dd dp n)) q = eV adr fm cI cZ H q := fun q hq => eV_other (H := H) (H' := setM H (upc H.2.2.2.2 ss sp dd dp n)) (o := q) rfl (upc_other hq) rfl
  have hnf : nativeFrameWords "java/lang/System" "arraycopy" 5 ≤ 29 := by decide
  have hlo : (([] : List Value).map fun v => v.category).sum + (nativeFrameWords "java/lang/System" "arraycopy" 5 + 11) ≤ R.locals := by show 0 + _ ≤ _; omega
  show W p l e R s m args below meth c Hh locs (H.1 - n0) (H.2.1 - s0) Q (F0 m pc rls [.int (Int32.ofInt n), .int (Int32.ofInt dp), cvR adr fm dd, .int (Int32.ofInt sp), cvR adr fm ss])
  rw [show cvR adr fm dd = .ref (adr dd) from cvR_ref (by omega) (by omega), show cvR adr fm ss = .ref (adr ss) from cvR_ref (by omega) (by omega)]
  have fin : ∀ (H1 : Heap) (locs1 : List Loc), va_P D zcl (zwV adr fm cI cZ (setM H (upc H.2.2.2.2 ss sp dd dp n))) H1 → va_D A (zwV adr fm cI cZ (setM H (upc H.2.2.2.2 ss sp dd dp n))) → va_S A s.heap H1 locs1 → W p l e R s m args below meth c H1 locs1 (H.1 - n0) (H.2.1 - s0) Q (F0 m (pc + 3) rls []) :=
    fun H1 locs1 hP1 hD1 hS1 => K _ _ _ _ h1 adr rls H1 locs1 (V0.heap hok rfl rfl (upc_other (by omega)) hP1 hD1 hS1 (fun v hv => absurd hv List.not_mem_nil))
  rcases hts with hts | hts
  · have htd2 : (H.2.2.1 dd).1 = 2 := htd.trans hts
    refine va_copyi X.1 X.2.1 hml X.2.2.2.1 (X.2.2.2.2.1 _ (zM_eight hF)) (X.2.2.2.2.1 _ (lw_good_in cpy_ok.1 rfl)) (X.2.2.2.2.1 _ (lw_good_in cpy_ok.2.1 (good_st _))) (X.2.2.2.2.1 _ (lw_good_in cpy_ok.2.2 (good_ini _))) a7 a4 a5 a6 (ss - 32) (dd - 32) 0 0 (f := fun k : Nat => Int32.ofInt (H.2.2.2.2 ss (k : Int))) (g := fun k : Nat => Int32.ofInt (H.2.2.2.2 dd (k : Int))) (ty := .int) (by rw [zwV_get s1 s2, eV_int hts]) (by rw [zwV_get d1 d2, eV_int htd2]) rfl rfl rfl p1 q1 n1 (by rw [p2, n2]; omega) (by rw [q2, n2]; omega) (fun _ _ => rfl) (by omega) hlo hd (fun H1 locs1 hP1 hD1 hS1 => ?_)
    have hset : (zwV adr fm cI cZ H).set (dd - 32) (adr dd, .inl (cI, (H.2.2.1 dd).2, .inl (va_cpy (fun k : Nat => Int32.ofInt (H.2.2.2.2 ss (k : Int))) (fun k : Nat => Int32.ofInt (H.2.2.2.2 dd (k : Int))) (Int32.ofInt sp).toNatClampNeg (Int32.ofInt dp).toNatClampNeg (Int32.ofInt n).toNatClampNeg))) = zwV adr fm cI cZ (setM H (upc H.2.2.2.2 ss sp dd dp n)) := by
      rw [← zwV_set (H := H) (H' := setM H (upc H.2.2.2.2 ss sp dd dp n)) rfl d1 d2 hother, eV_int (show ((setM H (upc H.2.2.2.2 ss sp dd dp n)).2.2.1 dd).1 = 2 from htd2), p2, q2, n2, hfun]
      rfl
    rw [hset] at hP1 hD1
    exact fin H1 locs1 hP1 hD1 hS1
  · have htd2 : (H.2.2.1 dd).1 = 3 := htd.trans hts
    refine va_copyi X.1 X.2.1 hml X.2.2.2.1 (X.2.2.2.2.1 _ (zM_eight hF)) (X.2.2.2.2.1 _ (lw_good_in cpy_ok.1 rfl)) (X.2.2.2.2.1 _ (lw_good_in cpy_ok.2.1 (good_st _))) (X.2.2.2.2.1 _ (lw_good_in cpy_ok.2.2 (good_ini _))) a7 a4 a5 a6 (ss - 32) (dd - 32) 1 1 (f := fun k : Nat => Int32.ofInt (H.2.2.2.2 ss (k : Int))) (g := fun k : Nat => Int32.ofInt (H.2.2.2.2 dd (k : Int))) (ty := .boolean) (by rw [zwV_get s1 s2, eV_boo hts]) (by rw [zwV_get d1 d2, eV_boo htd2]) rfl rfl rfl p1 q1 n1 (by rw [p2, n2]; omega) (by rw [q2, n2]; omega) (fun j _ => ?_) (by omega) hlo hd (fun H1 locs1 hP1 hD1 hS1 => ?_)
    · rcases a1.2.2.2.2.1 ss (((Int32.ofInt sp).toNatClampNeg + j : Nat) : Int) hts with q | q <;> (show fits .boolean (.int (Int32.ofInt (H.2.2.2.2 ss _))) = true; rw [q]; decide)
    · have hset : (zwV adr fm cI cZ H).set (dd - 32) (adr dd, .inl (cZ, (H.2.2.1 dd).2, .inl (va_cpy (fun k : Nat => Int32.ofInt (H.2.2.2.2 ss (k : Int))) (fun k : Nat => Int32.ofInt (H.2.2.2.2 dd (k : Int))) (Int32.ofInt sp).toNatClampNeg (Int32.ofInt dp).toNatClampNeg (Int32.ofInt n).toNatClampNeg))) = zwV adr fm cI cZ (setM H (upc H.2.2.2.2 ss sp dd dp n)) := by
        rw [← zwV_set (H := H) (H' := setM H (upc H.2.2.2.2 ss sp dd dp n)) rfl d1 d2 hother, eV_boo (show ((setM H (upc H.2.2.2.2 ss sp dd dp n)).2.2.1 dd).1 = 3 from htd2), p2, q2, n2, hfun]
        rfl
      rw [hset] at hP1 hD1
      exact fin H1 locs1 hP1 hD1 hS1
theorem so_inv {n' : Nat} (hSW : SW n') (X : Ctx p R s m args meth c mid d) (K : KK p l e R s m args below meth c fm D cI cZ A adr0 n0 s0 nL Q z k) (M : Rm R n0 s0 z k) (hnL : nL = zMaxAt mid) (V : Inv s fm D cI cZ A adr0 n0 s0 nL adr rls Hh locs ls st H) {i sp : Nat} {ins : Instr}
    (hsp : (sp = 0 ∧ ins = .invokestatic i) ∨ (sp = 1 ∧ ins = .invokevirtual i) ∨ (sp = 2 ∧ ins = .invokespecial i)) (hd : decode (zCodAt mid) pc = .ok (ins, 3))
    (h : zStep (xInv (zOwAt mid) pc i sp) (fun d' y as H' => ev n' d' y 0 (entryL y as) [] H') k d ls st H = some z) : GO p l e R s m args below meth c fm n0 s0 Q adr rls Hh locs pc st H := by
  unfold xInv at h
  cases hF : fM (zOwAt mid) i with
  | none => rw [hF] at h; exact absurd h fun q => bad_step q
  | some q =>
    obtain ⟨y, b, kd⟩ := q
    rw [hF] at h
    dsimp only at h
    by_cases k10 : kd = 10 ∨ kd = 11 ∨ kd = 12
    · rw [if_pos k10] at h
      by_cases hs : sp = 0
      · rw [if_pos hs] at h
        obtain ⟨-, rfl⟩ : sp = 0 ∧ ins = .invokestatic i := by
          rcases hsp with q | q | q
          · exact q
          · exact absurd (hs.symm.trans q.1) (by decide)
          · exact absurd (hs.symm.trans q.1) (by decide)
        rcases k10 with rfl | rfl | rfl
        · exact so_math (C := fun d' y as H' => ev n' d' y 0 (entryL y as) [] H') X K M hnL V (Or.inl ⟨hF, rfl⟩) hd h
        · exact so_math (C := fun d' y as H' => ev n' d' y 0 (entryL y as) [] H') X K M hnL V (Or.inr ⟨hF, rfl⟩) hd h
        · exact so_mathL (C := fun d' y as H' => ev n' d' y 0 (entryL y as) [] H') X K M hnL V hF hd h
      · rw [if_neg hs] at h; exact absurd h fun q => bad_step q
    · rw [if_neg k10] at h
      by_cases k9 : kd = 9
      · subst k9
        rw [if_pos rfl] at h
        by_cases hs : sp = 2
        · rw [if_pos hs] at h
          obtain ⟨-, rfl⟩ : sp = 2 ∧ ins = .invokespecial i := by
            rcases hsp with q | q | q
            · exact absurd (hs.symm.trans q.1) (by decide)
            · exact absurd (hs.symm.trans q.1) (by decide)
            · exact q
          exact so_obj (C := fun d' y as H' => ev n' d' y 0 (entryL y as) [] H') X K hnL V hF hd h
        · rw [if_neg hs] at h; exact absurd h fun q => bad_step q
      · rw [if_neg k9] at h
        by_cases k8 : kd = 8
        · subst k8
          rw [if_pos rfl] at h
          by_cases hs : sp = 0
          · rw [if_pos hs] at h
            obtain ⟨-, rfl⟩ : sp = 0 ∧ ins = .invokestatic i := by
              rcases hsp with q | q | q
              · exact q
              · exact absurd (hs.symm.trans q.1) (by decide)
              · exact absurd (hs.symm.trans q.1) (by decide)
            exact so_copy (C := fun d' y as H' => ev n' d' y 0 (entryL y as) [] H') X K hnL V hF hd h
          · rw [if_neg hs] at h; exact absurd h fun q => bad_step q
        · rw [if_neg k8] at h
          by_cases k3 : kd = 3
          · subst k3
            rw [if_pos rfl] at h
            by_cases hs : sp = 2
            · rw [if_pos hs] at h
              obtain ⟨-, rfl⟩ : sp = 2 ∧ ins = .invokespecial i := by
                rcases hsp with q | q | q
                · exact absurd (hs.symm.trans q.1) (by decide)
                · exact absurd (hs.symm.trans q.1) (by decide)
                · exact q
              exact so_call hSW X K M hnL V hF (sp := 2) (Or.inr (Or.inr (Or.inr ⟨rfl, rfl, rfl⟩))) hd h
            · rw [if_neg hs] at h; exact absurd h fun q => bad_step q
          · rw [if_neg k3] at h
            by_cases hs : kd = (sp : Int)
            · rw [if_pos hs] at h
              refine so_call hSW X K M hnL V hF (sp := sp) ?_ hd h
              rcases hsp with ⟨rfl, rfl⟩ | ⟨rfl, rfl⟩ | ⟨rfl, rfl⟩
              · exact Or.inl ⟨rfl, hs, rfl⟩
              · exact Or.inr (Or.inl ⟨rfl, hs, rfl⟩)
              · exact Or.inr (Or.inr (Or.inl ⟨rfl, hs, rfl⟩))
            · rw [if_neg hs] at h; exact absurd h fun q => bad_step q
theorem so_ldc (X : Ctx p R s m args meth c mid d) (K : KK p l e R s m args below meth c fm D cI cZ A adr0 n0 s0 nL Q z k) (V : Inv s fm D cI cZ A adr0 n0 s0 nL adr rls Hh locs ls st H) {i : Nat} (hd : decode (zCodAt mid) pc = .ok (.ldc i, 2)) (h : zStep (xLdc (zOwAt mid) pc i) C k d ls st H = some z) : GO p l e R s m args below meth c fm n0 s0 Q adr rls Hh locs pc st H := by
  unfold xLdc at h
  cases hT : f3 zT (zOwAt mid) i with
  | some r =>
    rw [hT] at h
    have h1 : k (pc + 2) ls (vR r :: st) H = some z := h
    obtain ⟨t1, t2, t3, t4⟩ := zT_ok _ (find3 hT)
    dsimp only at t1 t2 t3 t4
    have go := K _ _ _ _ h1 adr rls Hh locs (V.st (mem_put (show r < 32 + H.1 by omega) V.2.2.1))
    have go : W p l e R s m args below meth c Hh locs (H.1 - n0) (H.2.1 - s0) Q (F0 m (pc + 2) rls (cvR adr fm r :: st.map (cV adr fm))) := go
    rw [cvR_ref (by omega) (by omega)] at go
    have hro := V.2.2.2.2.2.2.2.1.2.2.2.1 (r - 6) (by omega)
    rw [t3, t4, show 6 + (r - 6) = r by omega] at hro
    exact va_ldcS X.1 X.2.1 X.2.2.2.1 hro hd go
  | none =>
    rw [hT] at h
    dsimp only at h
    cases hK : f3 zK (zOwAt mid) i with
    | some v =>
      rw [hK] at h
      obtain ⟨w1, w2⟩ := zK_ok _ (find3 hK)
      exact so_pushI X K V w2 h (fun go => lv_ldc X.1 X.2.1 X.2.2.2.1 (X.2.2.2.2.1 _ (lw_good_in w1 (good_k _ _ _))) hd go)
    | none => rw [hK] at h; exact absurd h fun q => bad_step q
theorem zS_ok : ∀ q ∈ zS, q = (0, 40, 4) ∨ q = (0, 43, 2) ∨ q = (8, 41, 3) ∨ q = (10, 188, 3) ∨ q = (10, 290, 2) ∨ q = (12, 38, 0) ∨ q = (12, 1053, 5) := by decide
theorem zsw : Cond.fieldLink (zClsAt 0) 40 "FortyGates$Acts" "BODY" "[I" ∈ lw_good ∧ (Cond.fieldLink (zClsAt 10) 188 "FortyGates" "OF_CHANCES" "[J" ∈ lw_good ∧ Cond.fieldLink (zClsAt 10) 290 "FortyGates" "ABOVE" "[I" ∈ lw_good) ∧ Cond.fieldLink (zClsAt 12) 38 "java/lang/String" "COMPACT_STRINGS" "Z" ∈ lw_good ∧ Cond.fieldLink (zClsAt 12) 1053 "jdk/internal/util/Preconditions" "SIOOBE_FORMATTER" "Ljava/util/function/BiFunction;" ∈ lw_good :=
  ⟨lw_good_in (wAt_in (n := 974) (by decide +kernel)) rfl, ⟨lw_good_in (wAt_in (n := 798) (by decide +kernel)) rfl, lw_good_in (wAt_in (n := 991) (by decide +kernel)) rfl⟩, lw_good_in (wAt_in (n := 507) (by decide +kernel)) rfl, lw_good_in (wAt_in (n := 523) (by decide +kernel)) rfl⟩
theorem so_stat (X : Ctx p R s m args meth c mid d) (K : KK p l e R s m args below meth c fm D cI cZ A adr0 n0 s0 nL Q z k) (V : Inv s fm D cI cZ A adr0 n0 s0 nL adr rls Hh locs ls st H) {i : Nat} (hd : decode (zCodAt mid) pc = .ok (.getstatic i, 3)) (h : zStep (xSt (zOwAt mid) pc i) C k d ls st H = some z) : GO p l e R s m args below meth c fm n0 s0 Q adr rls Hh locs pc st H := by
  unfold xSt at h
  cases hT : f3 zS (zOwAt mid) i with
  | none => rw [hT] at h; exact absurd h fun q => bad_step q
  | some r =>
    rw [hT] at h
    dsimp only at h
    have hro := V.2.2.2.2.2.2.2.1
    have hS := V.2.2.2.2.2.1
    have hown := X.2.2.2.1
    have push : r ≠ 0 → r < 6 → W p l e R s m args below meth c Hh locs (H.1 - n0) (H.2.1 - s0) Q (F0 m (pc + 3) rls (cvR adr fm r :: st.map (cV adr fm))) := by
      intro h0 h6
      rw [if_neg h0] at h
      have h1 : k (pc + 3) ls (vR r :: st) H = some z := h
      exact K _ _ _ _ h1 adr rls Hh locs (V.st (mem_put (show r < 32 + H.1 by omega) V.2.2.1))
    rcases zS_ok _ (find3 hT) with q | q | q | q | q | q | q <;> (obtain ⟨q1, q2⟩ := Prod.mk.inj q; obtain ⟨rfl, rfl⟩ := Prod.mk.inj q2; rw [q1] at hown)
    · have go := push (by decide) (by decide)
      rw [cvR_ref (by decide) (by decide)] at go
      exact va_gets X.1 X.2.1 hro.2.2.1.2.2.2.2.1 hS hown (X.2.2.2.2.1 _ zsw.1) (fun _ h => h) hd go
    · have go := push (by decide) (by decide)
      rw [cvR_ref (by decide) (by decide)] at go
      exact va_getsN X.1 X.2.1 hro.2.2.1.1 hS hown (va_Nw.use rfl hro.2.2.2.2.2.1) (fun _ h => h) hd go
    · have go := push (by decide) (by decide)
      rw [cvR_ref (by decide) (by decide)] at go
      exact va_getsN X.1 X.2.1 hro.2.2.1.2.2.1 hS hown (va_Nw.use rfl hro.2.2.2.2.2.2) (fun _ h => h) hd go
    · have go := push (by decide) (by decide)
      rw [cvR_ref (by decide) (by decide)] at go
      exact va_gets X.1 X.2.1 hro.2.2.1.2.2.1 hS hown (X.2.2.2.2.1 _ zsw.2.1.1) (fun _ h => h) hd go
    · have go := push (by decide) (by decide)
      rw [cvR_ref (by decide) (by decide)] at go
      exact va_gets X.1 X.2.1 hro.2.2.1.1 hS hown (X.2.2.2.2.1 _ zsw.2.1.2) (fun _ h => h) hd go
    · rw [if_pos rfl] at h
      exact so_pushI X K V ⟨by decide, by decide⟩ h (fun go => va_gets X.1 X.2.1 hro.2.2.1.2.2.2.2.2.2.2.1 hS hown (X.2.2.2.2.1 _ zsw.2.2.1) (fun _ h => h) hd go)
    · have go := push (by decide) (by decide)
      have e5 : cvR adr fm 5 = fm := rfl
      rw [e5] at go
      exact va_gets X.1 X.2.1 hro.2.2.1.2.2.2.2.2.2.1 hS hown (X.2.2.2.2.1 _ zsw.2.2.2) (fun _ h => h) hd go
theorem so_table (X : Ctx p R s m args meth c mid d) (K : KK p l e R s m args below meth c fm D cI cZ A adr0 n0 s0 nL Q z k) (V : Inv s fm D cI cZ A adr0 n0 s0 nL adr rls Hh locs ls st H) {dflt lo hi : Int} {offs : Array Int} (hd : decode (zCodAt mid) pc = .ok (.tableswitch dflt lo hi offs, len))
    (h : zStep (xIf (decide (0 ≤ (pc : Int) + dflt) && offs.toList.all (fun f => decide (0 ≤ (pc : Int) + f)) && decide ((offs.size : Int) = hi - lo + 1)) (71, 0, tgt pc dflt, len, 0, offs.toList.zipIdx.map (fun q => (lo + (q.2 : Int), tgt pc q.1)))) C k d ls st H = some z) : GO p l e R s m args below meth c fm n0 s0 Q adr rls Hh locs pc st H := by
  obtain ⟨hb, h⟩ := xIf_step h
  simp only [Bool.and_eq_true] at hb
  obtain ⟨⟨b1, b2⟩, b3⟩ := hb
  have b1 := of_decide_eq_true b1
  have b3 := of_decide_eq_true b3
  obtain ⟨x, st', rfl, h1⟩ := oSwitch_inv (show oSwitch 0 (tgt pc dflt) len 0 _ C k d ls st H = some z from h)
  obtain ⟨hx, ht⟩ := mem_tail V.2.2.1
  have hxi : (Int32.ofInt x).toInt = x := toInt_of32 hx
  rw [show offs.toList.zipIdx = offs.toList.zipIdx 0 from rfl, lk_tab (fun f => tgt pc f) offs.toList 0 x lo] at h1
  show W p l e R s m args below meth c Hh locs (H.1 - n0) (H.2.1 - s0) Q (F0 m pc rls (.int (Int32.ofInt x) :: st'.map (cV adr fm)))
  by_cases hout : x < lo ∨ hi < x
  · have e1 : (if lo + ((0 : Nat) : Int) ≤ x then (offs.toList[(x - lo - ((0 : Nat) : Int)).toNat]?).map (fun f => tgt pc f) else none) = none := by
      rcases hout with q | q
      · rw [if_neg (by omega)]
      · split
        · rw [List.getElem?_eq_none_iff.mpr (by rw [Array.length_toList]; omega)]; rfl
        · rfl
    rw [e1] at h1
    have h1 : k (tgt pc dflt) ls st' H = some z := h1
    exact lv_tableOut X.1 X.2.1 hd (by rw [hxi]; exact hout) (by unfold tgt; omega) (K _ _ _ _ h1 adr rls Hh locs (V.st ht))
  · have hlt : (x - lo).toNat < offs.size := by omega
    have e1 : (if lo + ((0 : Nat) : Int) ≤ x then (offs.toList[(x - lo - ((0 : Nat) : Int)).toNat]?).map (fun f => tgt pc f) else none) = some (tgt pc offs[(x - lo).toNat]) := by
      rw [if_pos (by omega), show (x - lo - ((0 : Nat) : Int)).toNat = (x - lo).toNat by omega, Array.getElem?_toList, Array.getElem?_eq_getElem hlt]
      rfl
    rw [e1] at h1
    have h1 : k (tgt pc offs[(x - lo).toNat]) ls st' H = some z := h1
    have hof : offs[(x - lo).toNat]? = some offs[(x - lo).toNat] := Array.getElem?_eq_getElem hlt
    have hpos := of_decide_eq_true (List.all_eq_true.mp b2 offs[(x - lo).toNat] (Array.getElem_mem_toList hlt))
    exact lv_tableIn X.1 X.2.1 hd (by rw [hxi]; omega) (by rw [hxi]; omega) (by rw [hxi]; exact hof) (by unfold tgt; omega) (K _ _ _ _ h1 adr rls Hh locs (V.st ht))
theorem so_lookup (X : Ctx p R s m args meth c mid d) (K : KK p l e R s m args below meth c fm D cI cZ A adr0 n0 s0 nL Q z k) (V : Inv s fm D cI cZ A adr0 n0 s0 nL adr rls Hh locs ls st H) {dflt : Int} {ps : Array (Int × Int)} (hd : decode (zCodAt mid) pc = .ok (.lookupswitch dflt ps, len))
    (h : zStep (xIf (decide (0 ≤ (pc : Int) + dflt) && ps.toList.all (fun f => decide (0 ≤ (pc : Int) + f.2)) && (ps.toList.zip (ps.toList.drop 1)).all (fun (a, next) => a.1 < next.1)) (71, 0, tgt pc dflt, len, 0, ps.toList.map (fun q => (q.1, tgt pc q.2)))) C k d ls st H = some z) : GO p l e R s m args below meth c fm n0 s0 Q adr rls Hh locs pc st H := by
  obtain ⟨hb, h⟩ := xIf_step h
  rw [Bool.and_eq_true, Bool.and_eq_true] at hb
  obtain ⟨⟨b1, b2⟩, b3⟩ := hb
  have b1 := of_decide_eq_true b1
  obtain ⟨x, st', rfl, h1⟩ := oSwitch_inv (show oSwitch 0 (tgt pc dflt) len 0 _ C k d ls st H = some z from h)
  obtain ⟨hx, ht⟩ := mem_tail V.2.2.1
  have hxi : (Int32.ofInt x).toInt = x := toInt_of32 hx
  obtain ⟨e1, e2⟩ := lk_pairs pc dflt x ps.toList
  rw [e1] at h1
  refine lv_lookup X.1 X.2.1 hd b3 (off := Op.lookupswitch.offset ps.toList dflt x) (by rw [hxi]) (tgt := tgt pc (Op.lookupswitch.offset ps.toList dflt x)) ?_ (K _ _ _ _ h1 adr rls Hh locs (V.st ht))
  have hpos : 0 ≤ (pc : Int) + Op.lookupswitch.offset ps.toList dflt x := by
    rcases e2 with q | ⟨q, hq, q2⟩
    · rw [q]; exact b1
    · rw [← q2]; exact of_decide_eq_true (List.all_eq_true.mp b2 q hq)
  unfold tgt; omega
theorem nar_byte {x : Int} (h1 : -128 ≤ x) (h2 : x < 128) : (Int32.ofInt x).toInt8.toInt32 = Int32.ofInt x := by
  rw [← Int32.toInt_inj, Int8.toInt_toInt32, Int32.toInt_toInt8, toInt_of32 ⟨by omega, by omega⟩]
  show Int.bmod x 256 = x
  rw [Int.bmod_def]; split <;> omega
theorem so_retI (X : Ctx p R s m args meth c mid d) (hmid : mid < 222) (V : Inv s fm D cI cZ A adr0 n0 s0 nL adr rls Hh locs ls st H) {r : Option XV} {H' : XH} {b : Nat} (hb : zRcAt mid = b) (hd : decode (zCodAt mid) pc = .ok (.ireturn, 1)) (h : oRetI 0 0 b 0 [] C k d ls st H = some (r, H')) :
    GO p l e R s m args below meth c fm n0 s0 (MQ below (QM fm D cI cZ A adr0 n0 r H') args s (H'.1 - n0) (H'.2.1 - s0) A) adr rls Hh locs pc st H := by
  obtain ⟨x, rfl, hbx, hz⟩ := oRetI_inv h
  obtain ⟨rfl, rfl⟩ := Prod.mk.inj hz
  have hx : in32 x := (mem_tail V.2.2.1).1
  obtain ⟨a1, a2, a3, a4, a5, a6, a7, a8, a9, a10, a11, a12, a13, a14⟩ := V
  have hq : ∀ t : State, t.heap = Hh → s.WarmedH t.vm → QM fm D cI cZ A adr0 n0 (some (vI x)) H' args s (.returned (some (.int (Int32.ofInt x)))) t := fun t ht hW =>
    ⟨⟨Int32.ofInt x, adr, rfl, rfl, a1, hx, a11, by rw [ht]; exact a4, va_K.moved hW.alike a7, a5⟩, a6.F ht⟩
  have hret := X.2.2.2.2.2.1
  have hrc := zret_rc mid hmid
  have hlk := X.2.2.2.2.2.2.1
  rcases hbx with q | ⟨q, hx01⟩ | ⟨q, hx0, hx1⟩ | ⟨q, hx0, hx1⟩ <;> (rw [q] at hb; rw [hb] at hrc; have hrc := of_decide_eq_true hrc; rw [hrc] at hret)
  · exact W.iret X.1 X.2.1 hret hq a6.2.2 hd hlk
  · exact W.zret X.1 X.2.1 hret (by rcases hx01 with rfl | rfl <;> decide) hq a6.2.2 hd hlk
  · have e1 : Int32.ofInt x = nI x.toNat := by
      show _ = Int32.ofNat x.toNat
      rw [← Int32.ofInt_eq_ofNat, Int.toNat_of_nonneg hx0]
    exact W.zret X.1 X.2.1 hret (by rw [e1]; exact (pk_charN (by omega)).1) hq a6.2.2 hd hlk
  · exact W.zret X.1 X.2.1 hret (by show Value.int _ = _; rw [nar_byte hx0 hx1]) hq a6.2.2 hd hlk
theorem so_retL (X : Ctx p R s m args meth c mid d) (hret : meth.sig.returnType = some .long) (V : Inv s fm D cI cZ A adr0 n0 s0 nL adr rls Hh locs ls st H) {r : Option XV} {H' : XH} (hd : decode (zCodAt mid) pc = .ok (.lreturn, 1)) (h : oRetL (pc + 1) 0 0 0 [] C k d ls st H = some (r, H')) :
    GO p l e R s m args below meth c fm n0 s0 (MQ below (QM fm D cI cZ A adr0 n0 r H') args s (H'.1 - n0) (H'.2.1 - s0) A) adr rls Hh locs pc st H := by
  obtain ⟨x, rfl, hz⟩ := oRetL_inv h
  obtain ⟨rfl, rfl⟩ := Prod.mk.inj hz
  have hx : in64 x := (mem_tail V.2.2.1).1
  obtain ⟨a1, a2, a3, a4, a5, a6, a7, a8, a9, a10, a11, a12, a13, a14⟩ := V
  exact W.lret X.1 X.2.1 hret (fun t ht hW => ⟨⟨Int64.ofInt x, adr, rfl, rfl, a1, hx, a11, by rw [ht]; exact a4, va_K.moved hW.alike a7, a5⟩, a6.F ht⟩) a6.2.2 hd X.2.2.2.2.2.2.1
theorem so_retV (X : Ctx p R s m args meth c mid d) (hret : meth.sig.returnType = none) (V : Inv s fm D cI cZ A adr0 n0 s0 nL adr rls Hh locs ls st H) {r : Option XV} {H' : XH} (hd : decode (zCodAt mid) pc = .ok (.return_, 1)) (h : oRetV (pc + 1) 0 0 0 [] C k d ls st H = some (r, H')) :
    GO p l e R s m args below meth c fm n0 s0 (MQ below (QM fm D cI cZ A adr0 n0 r H') args s (H'.1 - n0) (H'.2.1 - s0) A) adr rls Hh locs pc st H := by
  obtain ⟨rfl, hz⟩ := oRetV_inv h
  obtain ⟨rfl, rfl⟩ := Prod.mk.inj hz
  obtain ⟨a1, a2, a3, a4, a5, a6, a7, a8, a9, a10, a11, a12, a13, a14⟩ := V
  exact W.vret X.1 X.2.1 hret (fun t ht hW => ⟨⟨adr, rfl, trivial, a1, trivial, a11, by rw [ht]; exact a4, va_K.moved hW.alike a7, a5⟩, a6.F ht⟩) a6.2.2 hd X.2.2.2.2.2.2.1
end RM
