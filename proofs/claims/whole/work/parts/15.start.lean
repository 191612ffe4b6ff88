/-! THE CLAIM OUT OF ONE WALK OF THE LAW'S BODY. Your part is whole_start (and what it stands on); all else here is the same for every law, but numbers. -/
def R_law : String := "FortyGatesLaw"
def lw_P (b : Addr) (xs : List Int32) (args : Array Value) (s : State) : Prop := args = #[.ref b] ∧ s.IntsAt b xs ∧ xs.length ≤ 2560 ∧ (Jvm.Cond.and given_1 narrow_1).before args s = true
def lw_Q (_ : Array Value) (s : State) (o : Outcome) (t : State) : Prop := o = .returned (some (.int 1)) ∧ Framed s o t [] 600000 7302250
def lw_Z (below : List Frame) (a : Array Value) (s : State) : State → Prop := fun t => ∃ o, t.status = .running ∧ Ended t below o ∧ lw_Q a s o t
/-- the law's own end, with 1 on the stack, nothing written that was there before, its room as the claim has it -/
theorem lw_ret {p : Program} {l : Launch} {e : Env} {s : State} {m : MethodId} {below : List Frame} {meth : Method} {c : Code} {b : Nat} (hx : p.tables.exec = Jvm.exec) (hb : c.code = code) (hr : meth.sig.returnType = ret) (hlocks : meth.locks = false) {pc : Nat} {H : Heap} {ls : Array Slot} (hdg : decode code pc = .ok (.ireturn, 1)) : W p l e room_1 s m #[Value.ref b] below meth c H [] 600000 7302250 (lw_Z below #[Value.ref b] s) (F0 m pc ls [.int 1]) := by
  intro T hT X
  obtain ⟨fs, hret, hrun, hended, hW, hframe⟩ := X.leave (v := some (.int 1)) (hlocks := hlocks) (fun h => by rw [hr] at h; cases h)
  have hmeth' : T.vm.method? m = some meth := X.method'
  refine ⟨T.setFrames fs, ?_, .returned (some (.int 1)), hrun, hended, rfl, ⟨_, rfl⟩, hW, hframe⟩
  jvm_step X.here [X.here.top, hx, hb, hdg, hmeth', hr, ret, narrow_b1]
  (try refine ⟨rfl, ?_⟩); (try refine ⟨rfl, ?_⟩)
  first | (intro acts; rw [hret _ acts rfl rfl rfl]) | rw [hret _ _ rfl rfl rfl]
  exact Steps.refl _
/-- what holds at the law's entry: the machine, the code, the tables' words (any of lw_tbl by 'hts w (by decide +kernel)'), the script of L ints xs at the cell b, what the Statement gives of the start (any of its parts by flat_of_before) -/
def lw_At (p : Program) (s : State) (m : MethodId) (meth : Method) (c : Code) (b L : Nat) (xs : Nat → Int32) : Prop :=
  p.tables.exec = Jvm.exec ∧ c.code = code ∧ meth.sig.returnType = ret ∧ c.maxLocals = 4 ∧ s.vm.findClass R_law = some m.cls ∧ (∀ w ∈ lw_tbl, w.before #[Value.ref b] s = true) ∧ va_X b L xs s s.heap ∧ b < s.heap.size ∧ meth.locks = false ∧ (Jvm.Cond.and given_1 narrow_1).before #[Value.ref b] s = true
-- ===== from the law's entry =====
def h0 (L : Nat) (xs : Int → Int) : XH := (0, 0, fun _ => (0, 0), fun _ _ => 0, fun c k => if c = 1 then (if k = -1 then (L : Int) else if 0 ≤ k then xs k else 0) else 0)
theorem okH_h0 {L : Nat} {xs : Int → Int} (hL : L ≤ 2560) (hx : ∀ k, in32 (xs k)) : okH (h0 L xs) := by
  have hb : ∀ c k, in32 ((h0 L xs).2.2.2.2 c k) := by
    intro c k
    show in32 (if c = 1 then (if k = -1 then (L : Int) else if 0 ≤ k then xs k else 0) else 0)
    split
    · split
      · exact ⟨by omega, by omega⟩
      · split
        · exact hx k
        · exact ⟨by decide, by decide⟩
    · exact ⟨by decide, by decide⟩
  refine ⟨fun c hc => ⟨rfl, fun k => ?_, fun _ => rfl⟩, fun _ _ => rfl, fun c k => in32_64 (hb c k), fun c k _ => hb c k, (fun c k q => by cases q), (fun c k => by show 0 < 32 + 0; omega), fun c h1 h2 => ?_, ?_, fun c => by show 0 < 100000; omega⟩
  · show (if c = 1 then _ else (0 : Int)) = 0
    rw [if_neg (by have : 32 + 0 ≤ c := hc; omega)]
  · have : c < 32 + 0 := h2
    omega
  · show (0 : Int) ≤ (L : Int)
    omega
def tmS (i : Nat) : Term := Term.string (zSrI i).1 (zSrI i).2.1
theorem nw_exact : ∀ i, i < 13 → Cond.exactly (tmS i) "java/lang/String" ∈ flatC (Jvm.Cond.and given_1 narrow_1) := by decide +kernel
theorem nw_coder : ∀ i, i < 13 → Cond.eq (.field (tmS i) "java/lang/String" "coder" "B") (.int 0) ∈ flatC (Jvm.Cond.and given_1 narrow_1) := by decide +kernel
theorem nw_arr : ∀ i, i < 13 → Cond.arrayOf (.field (tmS i) "java/lang/String" "value" "[B") .byte ∈ flatC (Jvm.Cond.and given_1 narrow_1) := by decide +kernel
theorem nw_len : ∀ i, i < 13 → Cond.eq (.length (.field (tmS i) "java/lang/String" "value" "[B")) (.int (Int32.ofNat (zLen (19 + i)))) ∈ flatC (Jvm.Cond.and given_1 narrow_1) := by decide +kernel
theorem nw_el : ∀ i, i < 13 → ∀ j, j < zLen (19 + i) → Cond.eq (.elem (.field (tmS i) "java/lang/String" "value" "[B") (.int (Int32.ofNat j))) (.int (Int32.ofInt (zTab (19 + i) (j : Int)))) ∈ flatC (Jvm.Cond.and given_1 narrow_1) := by decide +kernel
theorem nw_above : Cond.arrayOf (.static "FortyGates" "ABOVE" "[I") .int ∈ flatC (Jvm.Cond.and given_1 narrow_1) ∧ Cond.eq (.length (.static "FortyGates" "ABOVE" "[I")) (.int (Int32.ofNat 7)) ∈ flatC (Jvm.Cond.and given_1 narrow_1) ∧ ∀ j, j < 7 → Cond.eq (.elem (.static "FortyGates" "ABOVE" "[I") (.int (Int32.ofNat j))) (.int (Int32.ofInt (zTab 2 (j : Int)))) ∈ flatC (Jvm.Cond.and given_1 narrow_1) := by decide +kernel
theorem nw_of : Cond.arrayOf (.static "FortyGates" "OF_CHANCES" "[J") .long ∈ flatC (Jvm.Cond.and given_1 narrow_1) ∧ Cond.eq (.length (.static "FortyGates" "OF_CHANCES" "[J")) (.int (Int32.ofNat 8)) ∈ flatC (Jvm.Cond.and given_1 narrow_1) ∧ ∀ j, j < 8 → Cond.eq (.elem (.static "FortyGates" "OF_CHANCES" "[J") (.int (Int32.ofNat j))) (.long (Int64.ofInt (zTab 3 (j : Int)))) ∈ flatC (Jvm.Cond.and given_1 narrow_1) := by decide +kernel
theorem nw_body : Cond.arrayOf (.static "FortyGates$Acts" "BODY" "[I") .int ∈ flatC (Jvm.Cond.and given_1 narrow_1) ∧ Cond.eq (.length (.static "FortyGates$Acts" "BODY" "[I")) (.int (Int32.ofNat 21)) ∈ flatC (Jvm.Cond.and given_1 narrow_1) ∧ ∀ j, j < 21 → Cond.eq (.elem (.static "FortyGates$Acts" "BODY" "[I") (.int (Int32.ofNat j))) (.int (Int32.ofInt (zTab 4 (j : Int)))) ∈ flatC (Jvm.Cond.and given_1 narrow_1) := by decide +kernel
theorem nw_jdk : Cond.eq (.static "java/lang/String" "COMPACT_STRINGS" "Z") (.int 1) ∈ flatC (Jvm.Cond.and given_1 narrow_1) ∧ Cond.isRef (.static "jdk/internal/util/Preconditions" "SIOOBE_FORMATTER" "Ljava/util/function/BiFunction;") ∈ flatC (Jvm.Cond.and given_1 narrow_1) := by decide +kernel
def strW (i : Nat) : Cond := Cond.stringRef (zSrI i).1 (zSrI i).2.1 (zSrI i).2.2
def strP : List Nat := [493, 494, 555, 617, 618, 639, 640, 1192, 1211, 1212, 1233, 1238, 1239]
theorem str_ok : ∀ i, i < 13 → wAt (strW i) (strP[i]?.getD 0) = true := by decide +kernel
theorem nest_ok : ∀ q ∈ zM, q.2.2.2.2 = 3 → Cond.methodLinkNest (zClsAt q.1) q.2.1 (zNamAt q.2.2.1) "FortyGates" ∈ lw_tbl := by
  intro q hq h3
  obtain ⟨n, h⟩ := zM_ok q hq
  obtain ⟨a, b, c, d, e⟩ := q
  dsimp only at h3
  subst h3
  unfold mOK at h
  have h : mBase (a, b, c, d, 3) n = true ∧ mKind (a, b, c, d, 3) n = true := by simpa using h
  have h2 := h.2
  unfold mKind at h2
  rw [if_neg (show ¬ ((3 : Int) = 0) by decide), if_neg (show ¬ ((3 : Int) = 1) by decide), if_neg (show ¬ ((3 : Int) = 2) by decide), if_pos rfl, Bool.and_eq_true] at h2
  exact wAt_in h2.1
theorem stat_ok : Cond.laysStatic "FortyGates" "ABOVE" "[I" ∈ lw_tbl ∧ Cond.laysStatic "FortyGates" "OF_CHANCES" "[J" ∈ lw_tbl ∧ Cond.laysStatic "FortyGates$Acts" "BODY" "[I" ∈ lw_tbl ∧ Cond.laysStatic "java/lang/String" "COMPACT_STRINGS" "Z" ∈ lw_tbl ∧ Cond.laysStatic "jdk/internal/util/Preconditions" "SIOOBE_FORMATTER" "Ljava/util/function/BiFunction;" ∈ lw_tbl :=
  ⟨wAt_in (n := 977) (by decide +kernel), wAt_in (n := 799) (by decide +kernel), wAt_in (n := 975) (by decide +kernel), wAt_in (n := 508) (by decide +kernel), wAt_in (n := 524) (by decide +kernel)⟩
theorem inis_ok : Cond.initialized "FortyGates" ∈ lw_tbl ∧ Cond.initialized "FortyGates$Acts" ∈ lw_tbl ∧ Cond.initialized "java/lang/String" ∈ lw_tbl ∧ Cond.initialized "jdk/internal/util/Preconditions" ∈ lw_tbl :=
  ⟨wAt_in (n := 77) (by decide +kernel), wAt_in (n := 87) (by decide +kernel), wAt_in (n := 90) (by decide +kernel), wAt_in (n := 92) (by decide +kernel)⟩
theorem fnest_ok : Cond.fieldLinkNest (zClsAt 0) 43 "FortyGates" "ABOVE" "[I" "FortyGates" ∈ lw_tbl ∧ Cond.fieldLinkNest (zClsAt 8) 41 "FortyGates" "OF_CHANCES" "[J" "FortyGates" ∈ lw_tbl :=
  ⟨wAt_in (n := 976) (by decide +kernel), wAt_in (n := 825) (by decide +kernel)⟩
theorem inst_ok : ∀ c, c < 12 → Cond.instantiable (zClsAt c) (zNf c) ∈ lw_tbl := by
  have h : ∀ c, c < 12 → wAt (Cond.instantiable (zClsAt c) (zNf c)) (([405, 167, 111, 105, 385, 211, 296, 273, 364, 150, 97, 1027] : List Nat)[c]?.getD 0) = true := by decide +kernel
  exact fun c hc => wAt_in (h c hc)
/-- what the kit says of the start, in the words of the relation -/
theorem start_env {args : Array Value} {s : State} (hts : ∀ w ∈ lw_tbl, w.before args s = true) (hgv : (Jvm.Cond.and given_1 narrow_1).before args s = true) {b L : Nat} {xs : Nat → Int32} (hX : va_X b L xs s s.heap) (hbl : b < s.heap.size) :
    ∃ (adr : Nat → Nat) (fm : Value), adr 1 = b ∧ roW adr fm ((h0 L (fun k => (xs k.toNat).toInt)).2.2.2.2 1) (fun q => s.heap.size ≤ q) s s.heap := by
  have hs := flat_of_before _ hgv
  have hA : ∀ a : Nat, a < s.heap.size → ¬ (fun q => s.heap.size ≤ q) a := fun a h q => absurd q (Nat.not_le.mpr h)
  obtain ⟨t2, e2, T2⟩ := va_Tof (f := fun j => .int (Int32.ofInt (zTab 2 (j : Int)))) (A := fun q => s.heap.size ≤ q) (N := 7) (by decide) (hs _ nw_above.1) (va_eqt (hs _ nw_above.2.1)) (fun j hj => va_eqt (hs _ (nw_above.2.2 j hj))) hA
  obtain ⟨t3, e3, T3⟩ := va_Tof (f := fun j => .long (Int64.ofInt (zTab 3 (j : Int)))) (A := fun q => s.heap.size ≤ q) (N := 8) (by decide) (hs _ nw_of.1) (va_eqt (hs _ nw_of.2.1)) (fun j hj => va_eqtl (hs _ (nw_of.2.2 j hj))) hA
  obtain ⟨t4, e4, T4⟩ := va_Tof (f := fun j => .int (Int32.ofInt (zTab 4 (j : Int)))) (A := fun q => s.heap.size ≤ q) (N := 21) (by decide) (hs _ nw_body.1) (va_eqt (hs _ nw_body.2.1)) (fun j hj => va_eqt (hs _ (nw_body.2.2 j hj))) hA
  have Z2 := va_Zref (A := fun q => s.heap.size ≤ q) (hts _ stat_ok.1) (hts _ inis_ok.1) e2 hA
  have Z3 := va_Zref (A := fun q => s.heap.size ≤ q) (hts _ stat_ok.2.1) (hts _ inis_ok.1) e3 hA
  have Z4 := va_Zref (A := fun q => s.heap.size ≤ q) (hts _ stat_ok.2.2.1) (hts _ inis_ok.2.1) e4 hA
  have ZC := va_Zof (A := fun q => s.heap.size ≤ q) (hts _ stat_ok.2.2.2.1) (hts _ inis_ok.2.2.1) (va_eqt (hs _ nw_jdk.1)) hA
  obtain ⟨fm, hfm, ZF⟩ : ∃ fm : Value, isRf fm ∧ va_Z "jdk/internal/util/Preconditions" "SIOOBE_FORMATTER" "Ljava/util/function/BiFunction;" fm (fun q => s.heap.size ≤ q) s s.heap := by
    rcases va_Zqof (A := fun q => s.heap.size ≤ q) (hts _ stat_ok.2.2.2.2) (hts _ inis_ok.2.2.2) (hs _ nw_jdk.2) hA with q | ⟨t, q⟩
    · exact ⟨_, Or.inl rfl, q⟩
    · exact ⟨_, Or.inr ⟨t, rfl⟩, q⟩
  have hstr : ∀ i : Nat, ∃ q : Nat × Nat, i < 13 → (va_O "java/lang/String" q.1 (fun q => s.heap.size ≤ q) s s.heap ∧ va_OF "java/lang/String" "coder" "B" (.int 0) q.1 (fun q => s.heap.size ≤ q) s s.heap ∧ va_OF "java/lang/String" "value" "[B" (.ref q.2) q.1 (fun q => s.heap.size ≤ q) s s.heap ∧ va_T .byte q.2 (zLen (19 + i)) (fun j => .int (Int32.ofInt (zTab (19 + i) (j : Int)))) (fun q => s.heap.size ≤ q) s s.heap) ∧ vk_R (zSrI i).1 (zSrI i).2.1 (zSrI i).2.2 q.1 s := by
    intro i
    by_cases hi : i < 13
    · obtain ⟨a, c, cA, kA, q1, q2, q3, q4, q5, q6, -⟩ := Cond.exactly_spec (args := args) (first := s) (o := none) (s := s) (idx := []) (t := tmS i) (cls := "java/lang/String") (hs _ (nw_exact i hi))
      obtain ⟨t, ht, hT⟩ := va_Tof (f := fun j => .int (Int32.ofInt (zTab (19 + i) (j : Int)))) (A := fun q => s.heap.size ≤ q) (N := zLen (19 + i)) (Nat.lt_trans (zLen_lt _) (by decide)) (hs _ (nw_arr i hi)) (va_eqt (hs _ (nw_len i hi))) (fun j hj => va_eqt (hs _ (nw_el i hi j hj))) hA
      refine ⟨(a, t), fun _ => ⟨⟨⟨cA, q3, q5, by rw [q6]; exact q2, hA a (Array.getElem?_eq_some_iff.mp q3).1⟩, vk_OFof q1 (va_eqt (hs _ (nw_coder i hi))) hA, vk_OFof q1 ht hA, hT⟩, ?_⟩⟩
      have w1 := hts _ (wAt_in (str_ok i hi))
      exact vk_R.of w1 q1
    · exact ⟨(0, 0), fun h => absurd h hi⟩
  obtain ⟨ad, had⟩ := Classical.axiomOfChoice hstr
  refine ⟨fun i => if i = 1 then b else if i = 2 then t2 else if i = 3 then t3 else if i = 4 then t4 else if i < 19 then (ad (i - 6)).1 else (ad (i - 19)).2, fm, rfl, hfm, ⟨?_, hbl, hA b hbl⟩, ⟨Z2, T2, Z3, T3, Z4, T4, ZF, ZC, fun i hi => ?_⟩, fun i hi => ?_, fun q hq h3 => va_Nw.of rfl (hts _ (nest_ok q hq h3)), va_Nw.of rfl (hts _ fnest_ok.1), va_Nw.of rfl (hts _ fnest_ok.2)⟩
  · obtain ⟨scr, h1, h2, h3, h4, h5⟩ := hX
    refine ⟨scr, h1, h2, h3, ?_, fun j hj => ?_⟩
    · show scr.slots.size = ((L : Nat) : Int).toNat
      rw [h4]; rfl
    · have hj' : j < L := by
        have : j < ((L : Nat) : Int).toNat := hj
        rw [Int.toNat_natCast] at this
        exact this
      rw [h5 j hj']
      show some (Value.int (xs j)) = some (.int (Int32.ofInt (if ((j : Nat) : Int) = -1 then (L : Int) else if 0 ≤ ((j : Nat) : Int) then (xs ((j : Nat) : Int).toNat).toInt else 0)))
      rw [if_neg (by omega), if_pos (by omega), Int.toNat_natCast, Int32.ofInt_toInt]
  · have h := (had i hi).1
    have f1 : (fun i => if i = 1 then b else if i = 2 then t2 else if i = 3 then t3 else if i = 4 then t4 else if i < 19 then (ad (i - 6)).1 else (ad (i - 19)).2) (6 + i) = (ad i).1 := by
      dsimp only
      rw [if_neg (by omega), if_neg (by omega), if_neg (by omega), if_neg (by omega), if_pos (by omega), show 6 + i - 6 = i by omega]
    have f2 : (fun i => if i = 1 then b else if i = 2 then t2 else if i = 3 then t3 else if i = 4 then t4 else if i < 19 then (ad (i - 6)).1 else (ad (i - 19)).2) (19 + i) = (ad i).2 := by
      dsimp only
      rw [if_neg (by omega), if_neg (by omega), if_neg (by omega), if_neg (by omega), if_neg (by omega), show 19 + i - 19 = i by omega]
    rw [f1, f2]
    exact h
  · have h := (had i hi).2
    have f1 : (fun i => if i = 1 then b else if i = 2 then t2 else if i = 3 then t3 else if i = 4 then t4 else if i < 19 then (ad (i - 6)).1 else (ad (i - 19)).2) (6 + i) = (ad i).1 := by
      dsimp only
      rw [if_neg (by omega), if_neg (by omega), if_neg (by omega), if_neg (by omega), if_pos (by omega), show 6 + i - 6 = i by omega]
    rw [f1]
    exact h
theorem same_forget {s s' : State} {L : List Loc} {k n k' n' : Nat} (h : s.sameButNew s' L k n) (hL : ∀ q ∈ L, s.heap.size ≤ q.base) (hk : k ≤ k') (hn : n ≤ n') : s.sameButNew s' [] k' n' := by
  obtain ⟨h1, h2, h3, h4, h5, h6⟩ := h
  refine ⟨h1, h2, by omega, h4, by omega, fun a c hc => ?_⟩
  obtain ⟨c', g1, g2, g3, g4⟩ := h6 a c hc
  refine ⟨c', g1, g2, g3, fun i _ => g4 i (fun q => ?_)⟩
  have := hL _ q
  have hlt : a < s.heap.size := (Array.getElem?_eq_some_iff.mp hc).1
  exact Nat.not_le.mpr hlt this
/-- the claim's walk, out of the plain run of the law -/
theorem whole_of {p : Program} {e : Env} {s : State} {m : MethodId} {below : List Frame} {meth : Method} {c : Code} (l : Launch) {b L : Nat} {xs : Nat → Int32} (hL : L ≤ 2560) (C0 : lw_At p s m meth c b L xs)
    (hrun : ∃ (n : Nat) (H' : XH), ev n 2000 k_La_law 0 (entryL k_La_law [vR 1]) [] (h0 L (fun k => (xs k.toNat).toInt)) = some (some (vI 1), H') ∧ H'.1 ≤ 600000 ∧ H'.2.1 ≤ 7302250) :
    W p l e room_1 s m #[Value.ref b] below meth c s.heap [] 0 0 (lw_Z below #[Value.ref b] s) (entryFrame m ([Value.ref b] : List Value).toArray 4) := by
  obtain ⟨hx, hb, hr, hml, hown, hts, hX, hbl, hlocks, hgv⟩ := id C0
  obtain ⟨n, H', hev, hc1, hc2⟩ := hrun
  obtain ⟨adr, fm, ha1, hro⟩ := start_env hts hgv hX hbl
  have hkn : ∀ c : Nat, ∃ (q : ClassId × (Nat → Nat)), c < 12 → u_Kn s (zClsAt c) (zTT c) (zNf c) q.1 q.2 := by
    intro c
    by_cases h : c < 12
    · obtain ⟨cC, iS, hk⟩ := u_known (C := zClsAt c) (T := zTT c) (N := zNf c) (n := zNf c) hts (fun w hw => (zlay_ok c h w hw).1) (hts _ (inst_ok c h))
      exact ⟨(cC, iS), fun _ => hk⟩
    · exact ⟨(0, fun _ => 0), fun q => absurd q h⟩
  obtain ⟨dd, hdd⟩ := Classical.axiomOfChoice hkn
  obtain ⟨cI, kI, pI, i1, i2, i3⟩ := Cond.arrayClass_spec (args := #[Value.ref b]) (first := s) (o := none) (s := s) (idx := []) (type := .int) (hts _ arr_ok.1)
  obtain ⟨cZ, kZ, pZ, z1, z2, z3⟩ := Cond.arrayClass_spec (args := #[Value.ref b]) (first := s) (o := none) (s := s) (idx := []) (type := .boolean) (hts _ arr_ok.2)
  have hK : va_K (fun c => (dd c).1, fun c => (dd c).2) zcl [(cI, .int), (cZ, .boolean)] s := by
    refine ⟨fun c q hq => ?_, fun k q hq => ?_⟩
    · have hc : c < 12 := (List.getElem?_eq_some_iff.mp hq).1
      have := hdd c hc
      rw [zcl_at c hc] at hq
      obtain rfl := Option.some.inj hq
      exact this
    · match k, hq with
      | 0, hq =>
        obtain rfl := Option.some.inj hq
        exact ⟨fun n z => ⟨fun k h => (by cases h), kI, i2, pI, i3⟩, i1⟩
      | 1, hq =>
        obtain rfl := Option.some.inj hq
        exact ⟨fun n z => ⟨fun k h => (by cases h), kZ, z2, pZ, z3⟩, z1⟩
      | k + 2, hq => simp at hq
  have X : Ctx p room_1 s m #[Value.ref b] meth c k_La_law 2000 := ⟨hx, hb, hml, hown, fun w hw => hts w (lw_good_tbl hw), hr, hlocks, fun q => absurd q (by decide +kernel), by decide, by decide⟩
  have hz : zwV adr fm cI cZ (h0 L (fun k => (xs k.toNat).toInt)) = [] := rfl
  have V : Inv s fm (fun c => (dd c).1, fun c => (dd c).2) cI cZ (fun q => s.heap.size ≤ q) adr 0 0 (zMaxAt k_La_law) adr ((lg_sl (([vR 1] : List XV).map (cV adr fm)) ++ List.replicate (zMaxAt k_La_law - (lg_sl (([vR 1] : List XV).map (cV adr fm))).length) Slot.unset).toArray) s.heap [] (entryL k_La_law [vR 1]) [] (h0 L (fun k => (xs k.toNat).toInt)) := by
    refine ⟨okH_h0 hL (fun k => in32_t _), entryL_ok (fun v hv => ?_), fun v hv => absurd hv List.not_mem_nil, ?_, ?_, va_S.rf, hK, hro, LR_entry hro.1 (by decide +kernel), entryL_len (by decide +kernel), fun _ _ => rfl, Nat.le_refl _, Nat.le_refl _, fun q hq => hq⟩
    · rw [List.mem_singleton.mp hv]
      show 1 < 32 + 0; omega
    · rw [hz]; exact fun k q h => by simp at h
    · rw [hz]; exact ⟨fun i j p q h => by simp at h, fun k q h => by simp at h⟩
  have go := SW_all n 2000 k_La_law 0 (entryL k_La_law [vR 1]) [] _ H' _ (by decide) hev p l e room_1 s m #[Value.ref b] below meth c fm _ cI cZ (fun q => s.heap.size ≤ q) adr 0 0 adr _ s.heap [] X (by show H'.1 - 0 ≤ 600000; omega) (by show H'.2.1 - 0 ≤ 7302250; omega) V
  have e1 : ([vR 1] : List XV).map (cV adr fm) = [Value.ref b] := by
    show [cvR adr fm 1] = _
    rw [cvR_ref (by decide) (by decide), ha1]
  unfold GO at go
  rw [e1] at go
  rw [lg_entry_eq]
  intro T hT X2
  obtain ⟨t, st, o, g1, g2, g3, L', g4, g5⟩ := go T hT X2
  refine ⟨t, st, o, g1, g2, ?_, ?_⟩
  · obtain ⟨⟨r, u, h1, h2, -⟩, -⟩ := g3
    rw [h1, h2]; rfl
  · obtain ⟨f1, f2, f3⟩ := g4
    exact ⟨f1, f2, same_forget f3 g5 (by show H'.1 - 0 ≤ 600000; omega) (by show H'.2.1 - 0 ≤ 7302250; omega)⟩
