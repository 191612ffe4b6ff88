-- ===== what runs on the plain machine, the machine runs =====
section VV
variable {p : Program} {l : Launch} {e : Env} {R : Room} {s : State} {m : MethodId} {args : Array Value} {below : List Frame} {meth : Method} {c : Code} {H : Heap} {locs : List Loc} {cells slots : Nat} {Q : State → Prop} {cc : ByteArray} {pc : Nat} {ls : Array Slot} {rest : List Value}
theorem lv_aload_nV (hexec : p.tables.exec = Jvm.exec) (hb : c.code = cc) {v : Value} (hv : isRf v) {k : Fin 4} {i : Nat} (hdg : decode cc pc = .ok (.aload_n k, 1)) (hi : (k : Nat) = i) (hl : ls[i]? = some (.val v))
    (k : W p l e R s m args below meth c H locs cells slots Q (F0 m (pc + 1) ls (v :: rest))) : W p l e R s m args below meth c H locs cells slots Q (F0 m pc ls (rest)) := by
  subst hi
  intro T hT X
  obtain ⟨t, a, b⟩ := k T hT X
  refine ⟨t, ?_, b⟩
  rcases hv with rfl | ⟨x, rfl⟩ <;> (jvm_step X.here [X.here.top, hexec, hb, hdg, hl, Value.isRef]; exact a)
theorem lv_aloadV (hexec : p.tables.exec = Jvm.exec) (hb : c.code = cc) {v : Value} (hv : isRf v) {i : Nat} (hdg : decode cc pc = .ok (.aload i, 2)) (hl : ls[i]? = some (.val v))
    (k : W p l e R s m args below meth c H locs cells slots Q (F0 m (pc + 2) ls (v :: rest))) : W p l e R s m args below meth c H locs cells slots Q (F0 m pc ls (rest)) := by
  intro T hT X
  obtain ⟨t, a, b⟩ := k T hT X
  refine ⟨t, ?_, b⟩
  rcases hv with rfl | ⟨x, rfl⟩ <;> (jvm_step X.here [X.here.top, hexec, hb, hdg, hl, Value.isRef]; exact a)
theorem lv_astore_nV (hexec : p.tables.exec = Jvm.exec) (hb : c.code = cc) {v : Value} (hv : isRf v) {k : Fin 4} {i nL : Nat} {lv : List (Nat × Value)} (hdg : decode cc pc = .ok (.astore_n k, 1)) (hi : (k : Nat) = i) (h : lv_has ls nL lv) (hn : i < nL)
    (kk : ∀ ls' : Array Slot, lv_has ls' nL ((i, v) :: lv.filter (fun q => !(q.1 == i) && !(q.1 + 1 == i && q.2.category == 2))) → W p l e R s m args below meth c H locs cells slots Q (F0 m (pc + 1) ls' rest)) : W p l e R s m args below meth c H locs cells slots Q (F0 m pc ls (v :: rest)) := by
  rcases hv with rfl | ⟨x, rfl⟩
  · subst hi
    obtain ⟨ls', e', h'⟩ := lv_store1 (v := .null) h hn rfl
    intro T hT X
    obtain ⟨t, a, b⟩ := kk ls' h' T hT X
    refine ⟨t, ?_, b⟩
    jvm_step X.here [X.here.top, ↓top_set X.here.top, hexec, hb, hdg, e', Value.isRef]
    exact a
  · exact lv_astore_n hexec hb hdg hi h hn rfl kk
theorem lv_astoreV (hexec : p.tables.exec = Jvm.exec) (hb : c.code = cc) {v : Value} (hv : isRf v) {i nL : Nat} {lv : List (Nat × Value)} (hdg : decode cc pc = .ok (.astore i, 2)) (h : lv_has ls nL lv) (hn : i < nL)
    (kk : ∀ ls' : Array Slot, lv_has ls' nL ((i, v) :: lv.filter (fun q => !(q.1 == i) && !(q.1 + 1 == i && q.2.category == 2))) → W p l e R s m args below meth c H locs cells slots Q (F0 m (pc + 2) ls' rest)) : W p l e R s m args below meth c H locs cells slots Q (F0 m pc ls (v :: rest)) := by
  rcases hv with rfl | ⟨x, rfl⟩
  · obtain ⟨ls', e', h'⟩ := lv_store1 (v := .null) h hn rfl
    intro T hT X
    obtain ⟨t, a, b⟩ := kk ls' h' T hT X
    refine ⟨t, ?_, b⟩
    jvm_step X.here [X.here.top, ↓top_set X.here.top, hexec, hb, hdg, e', Value.isRef]
    exact a
  · exact lv_astore hexec hb hdg h hn rfl kk
end VV
theorem in8_32 (x : Int8) : in32 x.toInt := ⟨by have := x.le_toInt; omega, by have := x.toInt_lt; omega⟩
theorem in16_32 (x : Int16) : in32 x.toInt := ⟨by have := x.le_toInt; omega, by have := x.toInt_lt; omega⟩
theorem of8 (x : Int8) : x.toInt32 = Int32.ofInt x.toInt := by rw [← Int32.toInt_inj, Int8.toInt_toInt32, toInt_of32 (in8_32 x)]
theorem of16 (x : Int16) : x.toInt32 = Int32.ofInt x.toInt := by rw [← Int32.toInt_inj, Int16.toInt_toInt32, toInt_of32 (in16_32 x)]
theorem zi : in32 0 := ⟨by decide, by decide⟩
set_option maxHeartbeats 4000000 in
theorem SW_succ {n : Nat} (ih : SW n) : SW (n + 1) := by
  intro d mid pc ls st H H' r hmid h p l e R s m args below meth c fm D cI cZ A adr0 n0 s0 adr rls Hh locs X hR1 hR2 V
  have h : zStep (zA mid pc) (fun d' y as H' => ev n d' y 0 (entryL y as) [] H') (fun pc' ls' st' H' => ev n d mid pc' ls' st' H') d ls st H = some (r, H') := h
  have K : KK p l e R s m args below meth c fm D cI cZ A adr0 n0 s0 (zMaxAt mid) (MQ below (QM fm D cI cZ A adr0 n0 r H') args s (H'.1 - n0) (H'.2.1 - s0) A) (r, H') (fun pc' ls' st' H1 => ev n d mid pc' ls' st' H1) :=
    fun pc' ls' st' H1 hk adr' rls' Hh' locs' V' => ih d mid pc' ls' st' H1 H' r hmid hk p l e R s m args below meth c fm D cI cZ A adr0 n0 s0 adr' rls' Hh' locs' X hR1 hR2 V'
  have M : Rm R n0 s0 (r, H') (fun pc' ls' st' H1 => ev n d mid pc' ls' st' H1) :=
    ⟨fun pc' ls' st' H1 hk => ⟨(ev_mono _ _ _ _ _ _ _ _ _ hk).1, (ev_mono _ _ _ _ _ _ _ _ _ hk).2.1⟩, hR1, hR2⟩
  cases hd : decode (zCodAt mid) pc with
  | error er =>
    have e1 : zA mid pc = xBad := by unfold zA; rw [hd]
    rw [e1] at h
    exact absurd h fun q => bad_step q
  | ok q =>
    obtain ⟨ins, len⟩ := q
    rw [zA_of hd] at h
    cases ins
    case iconst v =>
      change zStep (xv 1 pc 1 len (Int32.ofInt v).toInt) _ _ _ _ _ _ = _ at h
      obtain ⟨rfl, h2⟩ := xv_step h
      exact so_pushI X K V (in32_t _) h2 (fun go => lv_iconst X.1 X.2.1 hd (by rw [Int32.ofInt_toInt]) go)
    case bipush v =>
      change zStep (xv 1 pc 2 len (Int8.ofInt v).toInt) _ _ _ _ _ _ = _ at h
      obtain ⟨rfl, h2⟩ := xv_step h
      exact so_pushI X K V (in8_32 _) h2 (fun go => lv_bipush X.1 X.2.1 hd (of8 _) go)
    case sipush v =>
      change zStep (xv 1 pc 3 len (Int16.ofInt v).toInt) _ _ _ _ _ _ = _ at h
      obtain ⟨rfl, h2⟩ := xv_step h
      exact so_pushI X K V (in16_32 _) h2 (fun go => lv_sipush X.1 X.2.1 hd (of16 _) go)
    case lconst v =>
      change zStep (xv 2 pc 1 len (v.val : Int)) _ _ _ _ _ _ = _ at h
      obtain ⟨rfl, h2⟩ := xv_step h
      exact so_pushL X K V ⟨by have := v.isLt; omega, by have := v.isLt; omega⟩ h2 (fun go => lv_lconst X.1 X.2.1 hd Int64.ofInt_eq_ofNat.symm go)
    case ldc i =>
      change zStep (xIf (decide (len = 2)) (xLdc (zOwAt mid) pc i)) _ _ _ _ _ _ = _ at h
      obtain ⟨e1, h2⟩ := xIf_step h
      obtain rfl := of_decide_eq_true e1
      exact so_ldc X K V hd h2
    case ldc_w i =>
      change zStep (match f3 zK (zOwAt mid) i with | some v => xv 1 pc 3 len v | none => xBad) _ _ _ _ _ _ = _ at h
      cases hK : f3 zK (zOwAt mid) i with
      | none => rw [hK] at h; exact absurd h fun q => bad_step q
      | some v =>
        rw [hK] at h
        obtain ⟨rfl, h2⟩ := xv_step h
        obtain ⟨w1, w2⟩ := zK_ok _ (find3 hK)
        exact so_pushI X K V w2 h2 (fun go => lv_ldcw X.1 X.2.1 X.2.2.2.1 (X.2.2.2.2.1 _ (lw_good_in w1 (good_k _ _ _))) hd go)
    case ldc2_w i =>
      change zStep (match f3 zL (zOwAt mid) i with | some v => xv 2 pc 3 len v | none => xBad) _ _ _ _ _ _ = _ at h
      cases hK : f3 zL (zOwAt mid) i with
      | none => rw [hK] at h; exact absurd h fun q => bad_step q
      | some v =>
        rw [hK] at h
        obtain ⟨rfl, h2⟩ := xv_step h
        obtain ⟨w1, w2⟩ := zL_ok _ (find3 hK)
        exact so_pushL X K V w2 h2 (fun go => lv_ldc2 X.1 X.2.1 X.2.2.2.1 (X.2.2.2.2.1 _ (lw_good_in w1 (good_kl _ _ _))) hd go)
    case iload i =>
      change zStep (xa 3 pc 2 len i) _ _ _ _ _ _ = _ at h
      obtain ⟨rfl, h2⟩ := xa_step h
      exact so_loadI X K V h2 (fun x hx go => lv_iload X.1 X.2.1 hd hx go)
    case iload_n i =>
      change zStep (xa 3 pc 1 len i.val) _ _ _ _ _ _ = _ at h
      obtain ⟨rfl, h2⟩ := xa_step h
      exact so_loadI X K V h2 (fun x hx go => lv_iload_n X.1 X.2.1 hd rfl hx go)
    case lload i =>
      change zStep (xa 5 pc 2 len i) _ _ _ _ _ _ = _ at h
      obtain ⟨rfl, h2⟩ := xa_step h
      exact so_loadL X K V h2 (fun x hx go => lv_lload X.1 X.2.1 hd hx go)
    case lload_n i =>
      change zStep (xa 5 pc 1 len i.val) _ _ _ _ _ _ = _ at h
      obtain ⟨rfl, h2⟩ := xa_step h
      exact so_loadL X K V h2 (fun x hx go => lv_lload_n X.1 X.2.1 hd rfl hx go)
    case aload i =>
      change zStep (xa 4 pc 2 len i) _ _ _ _ _ _ = _ at h
      obtain ⟨rfl, h2⟩ := xa_step h
      exact so_loadA X K V h2 (fun x hr hx go => lv_aloadV X.1 X.2.1 hr hd hx go)
    case aload_n i =>
      change zStep (xa 4 pc 1 len i.val) _ _ _ _ _ _ = _ at h
      obtain ⟨rfl, h2⟩ := xa_step h
      exact so_loadA X K V h2 (fun x hr hx go => lv_aload_nV X.1 X.2.1 hr hd rfl hx go)
    case istore i =>
      change zStep (xa 6 pc 2 len i) _ _ _ _ _ _ = _ at h
      obtain ⟨rfl, h2⟩ := xa_step h
      exact so_storeI X K V h2 (fun x rest e hi go => by unfold GO; rw [e]; exact lv_istore X.1 X.2.1 hd V.lr hi rfl go)
    case istore_n i =>
      change zStep (xa 6 pc 1 len i.val) _ _ _ _ _ _ = _ at h
      obtain ⟨rfl, h2⟩ := xa_step h
      exact so_storeI X K V h2 (fun x rest e hi go => by unfold GO; rw [e]; exact lv_istore_n X.1 X.2.1 hd rfl V.lr hi rfl go)
    case lstore i =>
      change zStep (xa 8 pc 2 len i) _ _ _ _ _ _ = _ at h
      obtain ⟨rfl, h2⟩ := xa_step h
      exact so_storeL X K V h2 (fun x rest e hi go => by unfold GO; rw [e]; exact lv_lstore X.1 X.2.1 hd V.lr hi rfl go)
    case lstore_n i =>
      change zStep (xa 8 pc 1 len i.val) _ _ _ _ _ _ = _ at h
      obtain ⟨rfl, h2⟩ := xa_step h
      exact so_storeL X K V h2 (fun x rest e hi go => by unfold GO; rw [e]; exact lv_lstore_n X.1 X.2.1 hd rfl V.lr hi rfl go)
    case astore i =>
      change zStep (xa 7 pc 2 len i) _ _ _ _ _ _ = _ at h
      obtain ⟨rfl, h2⟩ := xa_step h
      exact so_storeA X K V h2 (fun x rest hr e hi go => by unfold GO; rw [e]; exact lv_astoreV X.1 X.2.1 hr hd V.lr hi go)
    case astore_n i =>
      change zStep (xa 7 pc 1 len i.val) _ _ _ _ _ _ = _ at h
      obtain ⟨rfl, h2⟩ := xa_step h
      exact so_storeA X K V h2 (fun x rest hr e hi go => by unfold GO; rw [e]; exact lv_astore_nV X.1 X.2.1 hr hd rfl V.lr hi go)
    case iinc i v =>
      change zStep (xIf (decide (len = 3)) (9, pc + 3, i, 0, v, [])) _ _ _ _ _ _ = _ at h
      obtain ⟨e1, h2⟩ := xIf_step h
      obtain rfl := of_decide_eq_true e1
      exact so_iinc X K V h2 (fun x j hj hi go => lv_iinc X.1 X.2.1 hd V.lr hj rfl hi rfl go)
    case iadd =>
      change zStep (x0 10 pc 1 len) _ _ _ _ _ _ = _ at h
      obtain ⟨rfl, h2⟩ := x0_step h
      exact so_bin (C := fun d' y as H' => ev n d' y 0 (entryL y as) [] H') X K V (f := fun x y => w32 (x + y)) (fun _ _ => in32_w _) h2 (fun x y rest e go => by
        unfold GO; rw [e]; refine lv_iadd X.1 X.2.1 hd ?_; rw [ofInt_w32, Int32.ofInt_add] at go; exact go)
    case isub =>
      change zStep (x0 11 pc 1 len) _ _ _ _ _ _ = _ at h
      obtain ⟨rfl, h2⟩ := x0_step h
      exact so_bin (C := fun d' y as H' => ev n d' y 0 (entryL y as) [] H') X K V (f := fun x y => w32 (x - y)) (fun _ _ => in32_w _) h2 (fun x y rest e go => by
        unfold GO; rw [e]; refine lv_isub X.1 X.2.1 hd ?_; rw [ofInt_w32, Int32.ofInt_sub] at go; exact go)
    case imul =>
      change zStep (x0 12 pc 1 len) _ _ _ _ _ _ = _ at h
      obtain ⟨rfl, h2⟩ := x0_step h
      exact so_bin (C := fun d' y as H' => ev n d' y 0 (entryL y as) [] H') X K V (f := fun x y => w32 (x * y)) (fun _ _ => in32_w _) h2 (fun x y rest e go => by
        unfold GO; rw [e]; refine lv_imul X.1 X.2.1 hd ?_; rw [ofInt_w32, Int32.ofInt_mul] at go; exact go)
    case iand =>
      change zStep (x0 16 pc 1 len) _ _ _ _ _ _ = _ at h
      obtain ⟨rfl, h2⟩ := x0_step h
      exact so_bin (C := fun d' y as H' => ev n d' y 0 (entryL y as) [] H') X K V (f := iAnd) (fun _ _ => in32_t _) h2 (fun x y rest e go => by
        unfold GO; rw [e]; refine lv_iand X.1 X.2.1 hd ?_; unfold iAnd at go; rw [Int32.ofInt_toInt] at go; exact go)
    case ior =>
      change zStep (x0 17 pc 1 len) _ _ _ _ _ _ = _ at h
      obtain ⟨rfl, h2⟩ := x0_step h
      exact so_bin (C := fun d' y as H' => ev n d' y 0 (entryL y as) [] H') X K V (f := iOr) (fun _ _ => in32_t _) h2 (fun x y rest e go => by
        unfold GO; rw [e]; refine lv_ior X.1 X.2.1 hd ?_; unfold iOr at go; rw [Int32.ofInt_toInt] at go; exact go)
    case ixor =>
      change zStep (x0 18 pc 1 len) _ _ _ _ _ _ = _ at h
      obtain ⟨rfl, h2⟩ := x0_step h
      exact so_bin (C := fun d' y as H' => ev n d' y 0 (entryL y as) [] H') X K V (f := iXor) (fun _ _ => in32_t _) h2 (fun x y rest e go => by
        unfold GO; rw [e]; refine lv_ixor X.1 X.2.1 hd ?_; unfold iXor at go; rw [Int32.ofInt_toInt] at go; exact go)
    case ishl =>
      change zStep (x0 19 pc 1 len) _ _ _ _ _ _ = _ at h
      obtain ⟨rfl, h2⟩ := x0_step h
      exact so_bin (C := fun d' y as H' => ev n d' y 0 (entryL y as) [] H') X K V (f := iShl) (fun _ _ => in32_t _) h2 (fun x y rest e go => by
        unfold GO; rw [e]; refine lv_ishl X.1 X.2.1 hd ?_; unfold iShl at go; rw [Int32.ofInt_toInt] at go; exact go)
    case ishr =>
      change zStep (x0 20 pc 1 len) _ _ _ _ _ _ = _ at h
      obtain ⟨rfl, h2⟩ := x0_step h
      exact so_bin (C := fun d' y as H' => ev n d' y 0 (entryL y as) [] H') X K V (f := iShr) (fun _ _ => in32_t _) h2 (fun x y rest e go => by
        unfold GO; rw [e]; refine lv_ishr X.1 X.2.1 hd ?_; unfold iShr at go; rw [Int32.ofInt_toInt] at go; exact go)
    case idiv =>
      change zStep (x0 13 pc 1 len) _ _ _ _ _ _ = _ at h
      obtain ⟨rfl, h2⟩ := x0_step h
      exact so_divI (C := fun d' y as H' => ev n d' y 0 (entryL y as) [] H') X K V (f := iDiv) (fun _ _ => in32_t _) h2 (fun x y rest e hy go => by
        unfold GO; rw [e]; refine lv_idiv X.1 X.2.1 hd hy ?_; unfold iDiv at go; rw [Int32.ofInt_toInt] at go; exact go)
    case irem =>
      change zStep (x0 14 pc 1 len) _ _ _ _ _ _ = _ at h
      obtain ⟨rfl, h2⟩ := x0_step h
      exact so_divI (C := fun d' y as H' => ev n d' y 0 (entryL y as) [] H') X K V (f := iRem) (fun _ _ => in32_t _) h2 (fun x y rest e hy go => by
        unfold GO; rw [e]; refine lv_irem X.1 X.2.1 hd hy ?_; unfold iRem at go; rw [Int32.ofInt_toInt] at go; exact go)
    case ineg =>
      change zStep (x0 15 pc 1 len) _ _ _ _ _ _ = _ at h
      obtain ⟨rfl, h2⟩ := x0_step h
      exact so_un (C := fun d' y as H' => ev n d' y 0 (entryL y as) [] H') X K V (f := fun x => w32 (-x)) (fun _ => in32_w _) h2 (fun x rest e go => by
        unfold GO; rw [e]; refine lv_ineg X.1 X.2.1 hd ?_; rw [ofInt_w32, Int32.ofInt_neg] at go; exact go)
    case i2c =>
      change zStep (x0 28 pc 1 len) _ _ _ _ _ _ = _ at h
      obtain ⟨rfl, h2⟩ := x0_step h
      exact so_un (C := fun d' y as H' => ev n d' y 0 (entryL y as) [] H') X K V (f := i2C) (fun _ => in32_t _) h2 (fun x rest e go => by
        unfold GO; rw [e]; refine lv_i2c X.1 X.2.1 hd rfl ?_; unfold i2C at go; rw [Int32.ofInt_toInt] at go; exact go)
    case i2b =>
      change zStep (x0 29 pc 1 len) _ _ _ _ _ _ = _ at h
      obtain ⟨rfl, h2⟩ := x0_step h
      exact so_un (C := fun d' y as H' => ev n d' y 0 (entryL y as) [] H') X K V (f := i2B) (fun _ => in32_t _) h2 (fun x rest e go => by
        unfold GO; rw [e]; refine lv_i2b X.1 X.2.1 hd rfl ?_; unfold i2B at go; rw [Int32.ofInt_toInt] at go; exact go)
    case ladd =>
      change zStep (x0 21 pc 1 len) _ _ _ _ _ _ = _ at h
      obtain ⟨rfl, h2⟩ := x0_step h
      exact so_binL (C := fun d' y as H' => ev n d' y 0 (entryL y as) [] H') X K V (f := fun x y => w64 (x + y)) (fun _ _ => in64_w _) h2 (fun x y rest e go => by
        unfold GO; rw [e]; refine lv_ladd X.1 X.2.1 hd ?_; rw [ofInt_w64, Int64.ofInt_add] at go; exact go)
    case lsub =>
      change zStep (x0 22 pc 1 len) _ _ _ _ _ _ = _ at h
      obtain ⟨rfl, h2⟩ := x0_step h
      exact so_binL (C := fun d' y as H' => ev n d' y 0 (entryL y as) [] H') X K V (f := fun x y => w64 (x - y)) (fun _ _ => in64_w _) h2 (fun x y rest e go => by
        unfold GO; rw [e]; refine lv_lsub X.1 X.2.1 hd ?_; rw [ofInt_w64, Int64.ofInt_sub] at go; exact go)
    case lmul =>
      change zStep (x0 23 pc 1 len) _ _ _ _ _ _ = _ at h
      obtain ⟨rfl, h2⟩ := x0_step h
      exact so_binL (C := fun d' y as H' => ev n d' y 0 (entryL y as) [] H') X K V (f := fun x y => w64 (x * y)) (fun _ _ => in64_w _) h2 (fun x y rest e go => by
        unfold GO; rw [e]; refine lv_lmul X.1 X.2.1 hd ?_; rw [ofInt_w64, Int64.ofInt_mul] at go; exact go)
    case ldiv =>
      change zStep (x0 24 pc 1 len) _ _ _ _ _ _ = _ at h
      obtain ⟨rfl, h2⟩ := x0_step h
      exact so_divL (C := fun d' y as H' => ev n d' y 0 (entryL y as) [] H') X K V (f := lDiv) (fun _ _ => in64_t _) h2 (fun x y rest e hy go => by
        unfold GO; rw [e]; refine lv_ldiv X.1 X.2.1 hd hy ?_; unfold lDiv at go; rw [Int64.ofInt_toInt] at go; exact go)
    case lrem =>
      change zStep (x0 25 pc 1 len) _ _ _ _ _ _ = _ at h
      obtain ⟨rfl, h2⟩ := x0_step h
      exact so_divL (C := fun d' y as H' => ev n d' y 0 (entryL y as) [] H') X K V (f := lRem) (fun _ _ => in64_t _) h2 (fun x y rest e hy go => by
        unfold GO; rw [e]; refine lv_lrem X.1 X.2.1 hd hy ?_; unfold lRem at go; rw [Int64.ofInt_toInt] at go; exact go)
    case lcmp =>
      change zStep (x0 26 pc 1 len) _ _ _ _ _ _ = _ at h
      obtain ⟨rfl, h2⟩ := x0_step h
      exact so_lcmp (C := fun d' y as H' => ev n d' y 0 (entryL y as) [] H') X K V hd h2
    case i2l =>
      change zStep (x0 27 pc 1 len) _ _ _ _ _ _ = _ at h
      obtain ⟨rfl, h2⟩ := x0_step h
      exact so_i2l (C := fun d' y as H' => ev n d' y 0 (entryL y as) [] H') X K V hd h2
    case goto off =>
      change zStep (xJ 30 pc 3 len off) _ _ _ _ _ _ = _ at h
      obtain ⟨rfl, ht, h2⟩ := xJ_step h
      exact so_goto (C := fun d' y as H' => ev n d' y 0 (entryL y as) [] H') K X V ht hd h2
    case ifCond cd off =>
      cases cd
      case eq =>
        change zStep (xJ 31 pc 3 len off) _ _ _ _ _ _ = _ at h
        obtain ⟨rfl, ht, h2⟩ := xJ_step h
        exact so_if (C := fun d' y as H' => ev n d' y 0 (entryL y as) [] H') X K V (f := fun x => decide (x = 0)) h2 (fun x rest hx e g1 g2 => by
          unfold GO; rw [e]; exact lv_if_eq X.1 X.2.1 hd ht (fun q => g1 (decide_eq_true ((of32_eq hx zi).mp q))) (fun q => g2 (decide_eq_false (fun w => q ((of32_eq hx zi).mpr w)))))
      case ne =>
        change zStep (xJ 32 pc 3 len off) _ _ _ _ _ _ = _ at h
        obtain ⟨rfl, ht, h2⟩ := xJ_step h
        exact so_if (C := fun d' y as H' => ev n d' y 0 (entryL y as) [] H') X K V (f := fun x => decide (x ≠ 0)) h2 (fun x rest hx e g1 g2 => by
          unfold GO; rw [e]; exact lv_if_ne X.1 X.2.1 hd ht (fun q => g1 (decide_eq_true (fun w => q ((of32_eq hx zi).mpr w)))) (fun q => g2 (decide_eq_false (fun w => w ((of32_eq hx zi).mp q)))))
      case lt =>
        change zStep (xJ 33 pc 3 len off) _ _ _ _ _ _ = _ at h
        obtain ⟨rfl, ht, h2⟩ := xJ_step h
        exact so_if (C := fun d' y as H' => ev n d' y 0 (entryL y as) [] H') X K V (f := fun x => decide (x < 0)) h2 (fun x rest hx e g1 g2 => by
          unfold GO; rw [e]; exact lv_if_lt X.1 X.2.1 hd ht (fun q => g1 (decide_eq_true ((of32_lt hx zi).mp q))) (fun q => g2 (decide_eq_false (fun w => q ((of32_lt hx zi).mpr w)))))
      case ge =>
        change zStep (xJ 34 pc 3 len off) _ _ _ _ _ _ = _ at h
        obtain ⟨rfl, ht, h2⟩ := xJ_step h
        exact so_if (C := fun d' y as H' => ev n d' y 0 (entryL y as) [] H') X K V (f := fun x => decide (0 ≤ x)) h2 (fun x rest hx e g1 g2 => by
          unfold GO; rw [e]; exact lv_if_ge X.1 X.2.1 hd ht (fun q => g1 (decide_eq_true ((of32_le zi hx).mp q))) (fun q => g2 (decide_eq_false (fun w => q ((of32_le zi hx).mpr w)))))
      case gt =>
        change zStep (xJ 35 pc 3 len off) _ _ _ _ _ _ = _ at h
        obtain ⟨rfl, ht, h2⟩ := xJ_step h
        exact so_if (C := fun d' y as H' => ev n d' y 0 (entryL y as) [] H') X K V (f := fun x => decide (0 < x)) h2 (fun x rest hx e g1 g2 => by
          unfold GO; rw [e]; exact lv_if_gt X.1 X.2.1 hd ht (fun q => g1 (decide_eq_true ((of32_lt zi hx).mp q))) (fun q => g2 (decide_eq_false (fun w => q ((of32_lt zi hx).mpr w)))))
      case le =>
        change zStep (xJ 36 pc 3 len off) _ _ _ _ _ _ = _ at h
        obtain ⟨rfl, ht, h2⟩ := xJ_step h
        exact so_if (C := fun d' y as H' => ev n d' y 0 (entryL y as) [] H') X K V (f := fun x => decide (x ≤ 0)) h2 (fun x rest hx e g1 g2 => by
          unfold GO; rw [e]; exact lv_if_le X.1 X.2.1 hd ht (fun q => g1 (decide_eq_true ((of32_le hx zi).mp q))) (fun q => g2 (decide_eq_false (fun w => q ((of32_le hx zi).mpr w)))))
    case if_icmp cd off =>
      cases cd
      case eq =>
        change zStep (xJ 37 pc 3 len off) _ _ _ _ _ _ = _ at h
        obtain ⟨rfl, ht, h2⟩ := xJ_step h
        exact so_ifc (C := fun d' y as H' => ev n d' y 0 (entryL y as) [] H') X K V (f := fun x y => decide (x = y)) h2 (fun x y rest hx hy e g1 g2 => by
          unfold GO; rw [e]; exact lv_icmp_eq X.1 X.2.1 hd ht (fun q => g1 (decide_eq_true ((of32_eq hx hy).mp q))) (fun q => g2 (decide_eq_false (fun w => q ((of32_eq hx hy).mpr w)))))
      case ne =>
        change zStep (xJ 38 pc 3 len off) _ _ _ _ _ _ = _ at h
        obtain ⟨rfl, ht, h2⟩ := xJ_step h
        exact so_ifc (C := fun d' y as H' => ev n d' y 0 (entryL y as) [] H') X K V (f := fun x y => decide (x ≠ y)) h2 (fun x y rest hx hy e g1 g2 => by
          unfold GO; rw [e]; exact lv_icmp_ne X.1 X.2.1 hd ht (fun q => g1 (decide_eq_true (fun w => q ((of32_eq hx hy).mpr w)))) (fun q => g2 (decide_eq_false (fun w => w ((of32_eq hx hy).mp q)))))
      case lt =>
        change zStep (xJ 39 pc 3 len off) _ _ _ _ _ _ = _ at h
        obtain ⟨rfl, ht, h2⟩ := xJ_step h
        exact so_ifc (C := fun d' y as H' => ev n d' y 0 (entryL y as) [] H') X K V (f := fun x y => decide (x < y)) h2 (fun x y rest hx hy e g1 g2 => by
          unfold GO; rw [e]; exact lv_icmp_lt X.1 X.2.1 hd ht (fun q => g1 (decide_eq_true ((of32_lt hx hy).mp q))) (fun q => g2 (decide_eq_false (fun w => q ((of32_lt hx hy).mpr w)))))
      case ge =>
        change zStep (xJ 40 pc 3 len off) _ _ _ _ _ _ = _ at h
        obtain ⟨rfl, ht, h2⟩ := xJ_step h
        exact so_ifc (C := fun d' y as H' => ev n d' y 0 (entryL y as) [] H') X K V (f := fun x y => decide (y ≤ x)) h2 (fun x y rest hx hy e g1 g2 => by
          unfold GO; rw [e]; exact lv_icmp_ge X.1 X.2.1 hd ht (fun q => g1 (decide_eq_true ((of32_le hy hx).mp q))) (fun q => g2 (decide_eq_false (fun w => q ((of32_le hy hx).mpr w)))))
      case gt =>
        change zStep (xJ 41 pc 3 len off) _ _ _ _ _ _ = _ at h
        obtain ⟨rfl, ht, h2⟩ := xJ_step h
        exact so_ifc (C := fun d' y as H' => ev n d' y 0 (entryL y as) [] H') X K V (f := fun x y => decide (y < x)) h2 (fun x y rest hx hy e g1 g2 => by
          unfold GO; rw [e]; exact lv_icmp_gt X.1 X.2.1 hd ht (fun q => g1 (decide_eq_true ((of32_lt hy hx).mp q))) (fun q => g2 (decide_eq_false (fun w => q ((of32_lt hy hx).mpr w)))))
      case le =>
        change zStep (xJ 42 pc 3 len off) _ _ _ _ _ _ = _ at h
        obtain ⟨rfl, ht, h2⟩ := xJ_step h
        exact so_ifc (C := fun d' y as H' => ev n d' y 0 (entryL y as) [] H') X K V (f := fun x y => decide (x ≤ y)) h2 (fun x y rest hx hy e g1 g2 => by
          unfold GO; rw [e]; exact lv_icmp_le X.1 X.2.1 hd ht (fun q => g1 (decide_eq_true ((of32_le hx hy).mp q))) (fun q => g2 (decide_eq_false (fun w => q ((of32_le hx hy).mpr w)))))
    case dup =>
      change zStep (x0 43 pc 1 len) _ _ _ _ _ _ = _ at h
      obtain ⟨rfl, h2⟩ := x0_step h
      exact so_dup (C := fun d' y as H' => ev n d' y 0 (entryL y as) [] H') X K V hd h2
    case dup_x1 =>
      change zStep (x0 44 pc 1 len) _ _ _ _ _ _ = _ at h
      obtain ⟨rfl, h2⟩ := x0_step h
      exact so_dupx1 (C := fun d' y as H' => ev n d' y 0 (entryL y as) [] H') X K V hd h2
    case dup2 =>
      change zStep (x0 45 pc 1 len) _ _ _ _ _ _ = _ at h
      obtain ⟨rfl, h2⟩ := x0_step h
      exact so_dup2 (C := fun d' y as H' => ev n d' y 0 (entryL y as) [] H') X K V hd h2
    case pop =>
      change zStep (x0 46 pc 1 len) _ _ _ _ _ _ = _ at h
      obtain ⟨rfl, h2⟩ := x0_step h
      exact so_pop (C := fun d' y as H' => ev n d' y 0 (entryL y as) [] H') X K V hd h2
    case iaload =>
      change zStep (x0 56 pc 1 len) _ _ _ _ _ _ = _ at h
      obtain ⟨rfl, h2⟩ := x0_step h
      exact so_iald (C := fun d' y as H' => ev n d' y 0 (entryL y as) [] H') X K V hd h2
    case laload =>
      change zStep (x0 57 pc 1 len) _ _ _ _ _ _ = _ at h
      obtain ⟨rfl, h2⟩ := x0_step h
      exact so_lald (C := fun d' y as H' => ev n d' y 0 (entryL y as) [] H') X K V hd h2
    case baload =>
      change zStep (x0 58 pc 1 len) _ _ _ _ _ _ = _ at h
      obtain ⟨rfl, h2⟩ := x0_step h
      exact so_bald (C := fun d' y as H' => ev n d' y 0 (entryL y as) [] H') X K V hd h2
    case iastore =>
      change zStep (x0 59 pc 1 len) _ _ _ _ _ _ = _ at h
      obtain ⟨rfl, h2⟩ := x0_step h
      exact so_iast (C := fun d' y as H' => ev n d' y 0 (entryL y as) [] H') X K V hd h2
    case bastore =>
      change zStep (x0 60 pc 1 len) _ _ _ _ _ _ = _ at h
      obtain ⟨rfl, h2⟩ := x0_step h
      exact so_bast (C := fun d' y as H' => ev n d' y 0 (entryL y as) [] H') X K V hd h2
    case arraylength =>
      change zStep (x0 61 pc 1 len) _ _ _ _ _ _ = _ at h
      obtain ⟨rfl, h2⟩ := x0_step h
      exact so_alen (C := fun d' y as H' => ev n d' y 0 (entryL y as) [] H') X K V hd h2
    case getfield i =>
      change zStep (xIf (decide (len = 3)) (xGet (zOwAt mid) pc i)) _ _ _ _ _ _ = _ at h
      obtain ⟨e1, h2⟩ := xIf_step h
      obtain rfl := of_decide_eq_true e1
      refine so_get X K V hd h2 (fun k' hF => ?_)
      obtain ⟨w1, w2⟩ := zstr_ok _ (find3 hF) rfl
      dsimp only at w1 w2
      rw [w1]
      rcases w2 with ⟨rfl, rfl⟩ | ⟨rfl, rfl⟩
      · exact zstr_v
      · exact zstr_c
    case putfield i =>
      change zStep (xIf (decide (len = 3)) (xPut mid (zOwAt mid) pc i)) _ _ _ _ _ _ = _ at h
      obtain ⟨e1, h2⟩ := xIf_step h
      obtain rfl := of_decide_eq_true e1
      exact so_put X K V hd h2
    case newarray t =>
      cases t
      case int =>
        change zStep (xa 62 pc 2 len 2) _ _ _ _ _ _ = _ at h
        obtain ⟨rfl, h2⟩ := xa_step h
        exact so_newI (C := fun d' y as H' => ev n d' y 0 (entryL y as) [] H') X K M V hd h2
      case boolean =>
        change zStep (xa 62 pc 2 len 3) _ _ _ _ _ _ = _ at h
        obtain ⟨rfl, h2⟩ := xa_step h
        exact so_newZ (C := fun d' y as H' => ev n d' y 0 (entryL y as) [] H') X K M V hd h2
      all_goals exact absurd h fun q => bad_step q
    case new i =>
      change zStep (match f3 zC (zOwAt mid) i with | some c => xa 63 pc 3 len c | none => xBad) _ _ _ _ _ _ = _ at h
      cases hC : f3 zC (zOwAt mid) i with
      | none => rw [hC] at h; exact absurd h fun q => bad_step q
      | some v =>
        rw [hC] at h
        obtain ⟨rfl, h2⟩ := xa_step h
        exact so_new (C := fun d' y as H' => ev n d' y 0 (entryL y as) [] H') X K M V hC hd h2
    case getstatic i =>
      change zStep (xIf (decide (len = 3)) (xSt (zOwAt mid) pc i)) _ _ _ _ _ _ = _ at h
      obtain ⟨e1, h2⟩ := xIf_step h
      obtain rfl := of_decide_eq_true e1
      exact so_stat X K V hd h2
    case invokestatic i =>
      change zStep (xIf (decide (len = 3)) (xInv (zOwAt mid) pc i 0)) _ _ _ _ _ _ = _ at h
      obtain ⟨e1, h2⟩ := xIf_step h
      obtain rfl := of_decide_eq_true e1
      exact so_inv ih X K M rfl V (Or.inl ⟨rfl, rfl⟩) hd h2
    case invokevirtual i =>
      change zStep (xIf (decide (len = 3)) (xInv (zOwAt mid) pc i 1)) _ _ _ _ _ _ = _ at h
      obtain ⟨e1, h2⟩ := xIf_step h
      obtain rfl := of_decide_eq_true e1
      exact so_inv ih X K M rfl V (Or.inr (Or.inl ⟨rfl, rfl⟩)) hd h2
    case invokespecial i =>
      change zStep (xIf (decide (len = 3)) (xInv (zOwAt mid) pc i 2)) _ _ _ _ _ _ = _ at h
      obtain ⟨e1, h2⟩ := xIf_step h
      obtain rfl := of_decide_eq_true e1
      exact so_inv ih X K M rfl V (Or.inr (Or.inr ⟨rfl, rfl⟩)) hd h2
    case ireturn =>
      change zStep (xIf (decide (len = 1)) (68, 0, 0, zRcAt mid, 0, [])) _ _ _ _ _ _ = _ at h
      obtain ⟨e1, h2⟩ := xIf_step h
      obtain rfl := of_decide_eq_true e1
      exact so_retI (C := fun d' y as H' => ev n d' y 0 (entryL y as) [] H') (k := fun pc' ls' st' H' => ev n d mid pc' ls' st' H') X hmid V rfl hd h2
    case lreturn =>
      change zStep (xIf (decide (len = 1) && decide (zRcAt mid = 8)) (69, pc + 1, 0, 0, 0, [])) _ _ _ _ _ _ = _ at h
      obtain ⟨e1, h2⟩ := xIf_step h
      rw [Bool.and_eq_true] at e1
      obtain rfl := of_decide_eq_true e1.1
      have hrc := zret_rc mid hmid
      rw [of_decide_eq_true e1.2] at hrc
      exact so_retL (C := fun d' y as H' => ev n d' y 0 (entryL y as) [] H') (k := fun pc' ls' st' H' => ev n d mid pc' ls' st' H') X (X.2.2.2.2.2.1.trans (of_decide_eq_true hrc)) V hd h2
    case return_ =>
      change zStep (xIf (decide (len = 1) && decide (zRcAt mid = 9)) (70, pc + 1, 0, 0, 0, [])) _ _ _ _ _ _ = _ at h
      obtain ⟨e1, h2⟩ := xIf_step h
      rw [Bool.and_eq_true] at e1
      obtain rfl := of_decide_eq_true e1.1
      have hrc := zret_rc mid hmid
      rw [of_decide_eq_true e1.2] at hrc
      exact so_retV (C := fun d' y as H' => ev n d' y 0 (entryL y as) [] H') (k := fun pc' ls' st' H' => ev n d mid pc' ls' st' H') X (X.2.2.2.2.2.1.trans (of_decide_eq_true hrc)) V hd h2
    case tableswitch dflt lo hi offs => exact so_table X K V hd h
    case lookupswitch dflt ps => exact so_lookup X K V hd h
    all_goals exact absurd h fun q => bad_step q
theorem SW_all : ∀ n, SW n
  | 0 => fun _ _ _ _ _ _ _ _ _ h => by cases h
  | n + 1 => SW_succ (SW_all n)
