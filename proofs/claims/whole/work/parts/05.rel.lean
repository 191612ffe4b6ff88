-- ===== what a plain heap says of the machine's =====
def cvR (adr : Nat → Nat) (fm : Value) (n : Nat) : Value := if n = 0 then .null else if n = 5 then fm else .ref (adr n)
def cV (adr : Nat → Nat) (fm : Value) : XV → Value
  | .inl x => .int (Int32.ofInt x)
  | .inr (.inl x) => .long (Int64.ofInt x)
  | .inr (.inr n) => cvR adr fm n
def isRf (fm : Value) : Prop := fm = .null ∨ ∃ t : Nat, fm = .ref t
theorem cvR_cat {adr : Nat → Nat} {fm : Value} (hf : isRf fm) (n : Nat) : (cvR adr fm n).category = 1 := by
  unfold cvR
  split
  · rfl
  · split
    · rcases hf with rfl | ⟨t, rfl⟩ <;> rfl
    · rfl
theorem cV_cat {adr : Nat → Nat} {fm : Value} (hf : isRf fm) (v : XV) : (cV adr fm v).category = catOf v := by
  match v with
  | .inl x => rfl
  | .inr (.inl x) => rfl
  | .inr (.inr n) => exact cvR_cat hf n
theorem cat_notLong {v : XV} (h : isLong (some v) = false) : catOf v = 1 := by
  match v, h with
  | .inl x, _ => rfl
  | .inr (.inl x), h => cases h
  | .inr (.inr n), _ => rfl
theorem cvR_ref {adr : Nat → Nat} {fm : Value} {n : Nat} (h0 : n ≠ 0) (h5 : n ≠ 5) : cvR adr fm n = .ref (adr n) := by
  unfold cvR
  rw [if_neg h0, if_neg h5]
def okV (n : Nat) : XV → Prop
  | .inl x => in32 x
  | .inr (.inl x) => in64 x
  | .inr (.inr r) => r < 32 + n
theorem okV_mono {n n' : Nat} (h : n ≤ n') {v : XV} (hv : okV n v) : okV n' v := by
  match v, hv with
  | .inl x, hv => exact hv
  | .inr (.inl x), hv => exact hv
  | .inr (.inr r), hv => exact Nat.lt_of_lt_of_le (show r < 32 + n from hv) (by omega)
def okH (H : XH) : Prop :=
  (∀ c, 32 + H.1 ≤ c → H.2.2.1 c = (0, 0) ∧ (∀ k, H.2.2.2.2 c k = 0) ∧ ∀ k, H.2.2.2.1 c k = 0) ∧
  (∀ c, c < 32 → H.2.2.1 c = (0, 0)) ∧
  (∀ c k, in64 (H.2.2.2.2 c k)) ∧
  (∀ c k, ¬ ((H.2.2.1 c).1 = 1 ∧ zKkAt (H.2.2.1 c).2 k.toNat = 2) → in32 (H.2.2.2.2 c k)) ∧
  (∀ c k, (H.2.2.1 c).1 = 3 → H.2.2.2.2 c k = 0 ∨ H.2.2.2.2 c k = 1) ∧
  (∀ c k, H.2.2.2.1 c k < 32 + H.1) ∧
  (∀ c, 32 ≤ c → c < 32 + H.1 → (H.2.2.1 c).1 = 2 ∨ (H.2.2.1 c).1 = 3 ∨ ((H.2.2.1 c).1 = 1 ∧ (H.2.2.1 c).2 < 12)) ∧
  0 ≤ H.2.2.2.2 1 (-1) ∧ ∀ c, (H.2.2.1 c).2 < 100000
/-- a cell that has a kind lies among the made ones -/
theorem okH_in {H : XH} (h : okH H) {o : Nat} (ht : (H.2.2.1 o).1 ≠ 0) : 32 ≤ o ∧ o < 32 + H.1 := by
  obtain ⟨h1, h2, -⟩ := h
  refine ⟨Nat.le_of_not_lt fun q => ht (by rw [h2 o q]), Nat.lt_of_not_le fun q => ht (by rw [(h1 o q).1])⟩
theorem in32_64 {x : Int} (h : in32 x) : in64 x := by unfold in32 at h; unfold in64; omega
theorem up2_at (m : XM) (c : Nat) (k v : Int) (x : Nat) (y : Int) : up2 m c k v x y = if x = c then (if y = k then v else m c y) else m x y := by
  unfold up2
  by_cases h : x = c
  · rw [if_pos h, if_pos h]; rfl
  · rw [if_neg h, if_neg h]
theorem okH_up2 {H : XH} (h : okH H) {o : Nat} {k v : Int} (ht : (H.2.2.1 o).1 ≠ 0) (h64 : in64 v)
    (h32 : ¬ ((H.2.2.1 o).1 = 1 ∧ zKkAt (H.2.2.1 o).2 k.toNat = 2) → in32 v) (h01 : (H.2.2.1 o).1 = 3 → v = 0 ∨ v = 1) : okH (setM H (up2 H.2.2.2.2 o k v)) := by
  obtain ⟨hi1, hi2⟩ := okH_in h ht
  obtain ⟨h1, h2, h3, h4, h5, h6, h7, h8, h9⟩ := h
  refine ⟨fun c hc => ⟨(h1 c hc).1, fun y => ?_, (h1 c hc).2.2⟩, h2, fun c y => ?_, fun c y hy => ?_, fun c y hy => ?_, h6, h7, ?_, h9⟩
  · show up2 H.2.2.2.2 o k v c y = 0
    rw [up2_at, if_neg (by have : 32 + H.1 ≤ c := hc; omega)]
    exact (h1 c hc).2.1 y
  · show in64 (up2 H.2.2.2.2 o k v c y)
    rw [up2_at]
    split
    · split
      · exact h64
      · exact h3 o y
    · exact h3 c y
  · show in32 (up2 H.2.2.2.2 o k v c y)
    have hy' : ¬ ((H.2.2.1 c).1 = 1 ∧ zKkAt (H.2.2.1 c).2 y.toNat = 2) := hy
    rw [up2_at]
    split
    · rename_i e; subst e
      split
      · rename_i e; subst e; exact h32 hy'
      · exact h4 c y hy'
    · exact h4 c y hy'
  · show up2 H.2.2.2.2 o k v c y = 0 ∨ up2 H.2.2.2.2 o k v c y = 1
    have hy' : (H.2.2.1 c).1 = 3 := hy
    rw [up2_at]
    split
    · rename_i e; subst e
      split
      · exact h01 hy'
      · exact h5 c y hy'
    · exact h5 c y hy'
  · show 0 ≤ up2 H.2.2.2.2 o k v 1 (-1)
    rw [up2_at, if_neg (by omega)]
    exact h8
theorem okH_upr {H : XH} (h : okH H) {o b q : Nat} (ht : (H.2.2.1 o).1 ≠ 0) (hq : q < 32 + H.1) : okH (setR H (upr H.2.2.2.1 o b q)) := by
  obtain ⟨hi1, hi2⟩ := okH_in h ht
  obtain ⟨h1, h2, h3, h4, h5, h6, h7, h8, h9⟩ := h
  refine ⟨fun c hc => ⟨(h1 c hc).1, (h1 c hc).2.1, fun y => ?_⟩, h2, h3, h4, h5, fun c y => ?_, h7, h8, h9⟩
  · show upr H.2.2.2.1 o b q c y = 0
    unfold upr
    rw [if_neg (by have : 32 + H.1 ≤ c := hc; omega)]
    exact (h1 c hc).2.2 y
  · show upr H.2.2.2.1 o b q c y < 32 + H.1
    unfold upr
    split
    · show (if y = b then q else H.2.2.2.1 o y) < _
      split
      · exact hq
      · exact h6 o y
    · exact h6 c y
theorem up1_at {α : Type} (f : Nat → α) (c : Nat) (v : α) (x : Nat) : up1 f c v x = if x = c then v else f x := rfl
theorem okH_new {H : XH} (h : okH H) {t : Nat × Nat} {sl : Nat} (ht : t.1 = 2 ∨ t.1 = 3 ∨ (t.1 = 1 ∧ t.2 < 12)) (ht2 : t.2 < 100000) : okH (newC H t sl) := by
  obtain ⟨h1, h2, h3, h4, h5, h6, h7, h8, h9⟩ := h
  have e : ∀ c, (newC H t sl).2.2.1 c = if c = 32 + H.1 then t else H.2.2.1 c := fun c => rfl
  have e1 : (newC H t sl).1 = H.1 + 1 := rfl
  refine ⟨fun c hc => ?_, fun c hc => ?_, h3, fun c k hk => ?_, fun c k hk => ?_, fun c k => ?_, fun c hc hc2 => ?_, h8, fun c => ?_⟩
  · rw [e1] at hc
    refine ⟨?_, (h1 c (by omega)).2⟩
    rw [e, if_neg (by omega)]
    exact (h1 c (by omega)).1
  · rw [e, if_neg (by omega)]
    exact h2 c hc
  · rw [e] at hk
    by_cases hc : c = 32 + H.1
    · subst hc
      have := (h1 (32 + H.1) (Nat.le_refl _)).2.1 k
      show in32 (H.2.2.2.2 (32 + H.1) k)
      rw [this]
      exact ⟨by decide, by decide⟩
    · rw [if_neg hc] at hk
      exact h4 c k hk
  · rw [e] at hk
    by_cases hc : c = 32 + H.1
    · subst hc
      exact Or.inl ((h1 (32 + H.1) (Nat.le_refl _)).2.1 k)
    · rw [if_neg hc] at hk
      exact h5 c k hk
  · exact Nat.lt_of_lt_of_le (h6 c k) (by rw [e1]; omega)
  · rw [e1] at hc2
    rw [e]
    by_cases hc' : c = 32 + H.1
    · rw [if_pos hc']; exact ht
    · rw [if_neg hc']; exact h7 c hc (by omega)
  · rw [e]
    split
    · exact ht2
    · exact h9 c
theorem upc_at (m : XM) (s : Nat) (sp : Int) (d : Nat) (dp n : Int) (x : Nat) (y : Int) : upc m s sp d dp n x y = if x = d then (if dp ≤ y ∧ y < dp + n then m s (sp + (y - dp)) else m d y) else m x y := by
  unfold upc
  by_cases h : x = d
  · rw [if_pos h, if_pos h]
  · rw [if_neg h, if_neg h]
theorem okH_upc {H : XH} (h : okH H) {ss dd : Nat} {sp dp n : Int} (h1s : (H.2.2.1 ss).1 = 2 ∨ (H.2.2.1 ss).1 = 3) (h1d : (H.2.2.1 dd).1 = (H.2.2.1 ss).1) : okH (setM H (upc H.2.2.2.2 ss sp dd dp n)) := by
  have hd0 : (H.2.2.1 dd).1 ≠ 0 := by rw [h1d]; omega
  obtain ⟨hi1, hi2⟩ := okH_in h hd0
  obtain ⟨h1, h2, h3, h4, h5, h6, h7, h8, h9⟩ := h
  have hs4 : ∀ y, in32 (H.2.2.2.2 ss y) := fun y => h4 ss y (fun q => by omega)
  refine ⟨fun c hc => ⟨(h1 c hc).1, fun y => ?_, (h1 c hc).2.2⟩, h2, fun c y => ?_, fun c y hy => ?_, fun c y hy => ?_, h6, h7, ?_, h9⟩
  · show upc H.2.2.2.2 ss sp dd dp n c y = 0
    rw [upc_at, if_neg (by have : 32 + H.1 ≤ c := hc; omega)]
    exact (h1 c hc).2.1 y
  · show in64 (upc H.2.2.2.2 ss sp dd dp n c y)
    rw [upc_at]
    split
    · split
      · exact h3 ss _
      · exact h3 dd y
    · exact h3 c y
  · show in32 (upc H.2.2.2.2 ss sp dd dp n c y)
    have hy' : ¬ ((H.2.2.1 c).1 = 1 ∧ zKkAt (H.2.2.1 c).2 y.toNat = 2) := hy
    rw [upc_at]
    split
    · rename_i e; subst e
      split
      · exact hs4 _
      · exact h4 c y hy'
    · exact h4 c y hy'
  · show upc H.2.2.2.2 ss sp dd dp n c y = 0 ∨ upc H.2.2.2.2 ss sp dd dp n c y = 1
    have hy' : (H.2.2.1 c).1 = 3 := hy
    rw [upc_at]
    split
    · rename_i e; subst e
      split
      · exact h5 ss _ (by rw [← h1d]; exact hy')
      · exact h5 c y hy'
    · exact h5 c y hy'
  · show 0 ≤ upc H.2.2.2.2 ss sp dd dp n 1 (-1)
    rw [upc_at, if_neg (by omega)]
    exact h8
-- the cells, as the kit lists them
def fsV (adr : Nat → Nat) (fm : Value) (H : XH) (o ci : Nat) : List Value := (List.range (zNf ci)).map (fun k => if zKkAt ci k < 2 then .int (Int32.ofInt (H.2.2.2.2 o (k : Int))) else if zKkAt ci k = 2 then .long (Int64.ofInt (H.2.2.2.2 o (k : Int))) else cvR adr fm (H.2.2.2.1 o k))
def eV (adr : Nat → Nat) (fm : Value) (cI cZ : ClassId) (H : XH) (o : Nat) : va_E :=
  if (H.2.2.1 o).1 = 1 then .inr ((H.2.2.1 o).2, fsV adr fm H o (H.2.2.1 o).2)
  else if (H.2.2.1 o).1 = 2 then .inl (cI, (H.2.2.1 o).2, .inl (fun k => Int32.ofInt (H.2.2.2.2 o (k : Int))))
  else .inl (cZ, (H.2.2.1 o).2, .inl (fun k => Int32.ofInt (H.2.2.2.2 o (k : Int))))
def zwV (adr : Nat → Nat) (fm : Value) (cI cZ : ClassId) (H : XH) : va_W := (List.range H.1).map (fun i => (adr (32 + i), eV adr fm cI cZ H (32 + i)))
theorem zwV_get {adr : Nat → Nat} {fm : Value} {cI cZ : ClassId} {H : XH} {o : Nat} (h1 : 32 ≤ o) (h2 : o < 32 + H.1) : (zwV adr fm cI cZ H)[o - 32]? = some (adr o, eV adr fm cI cZ H o) := by
  unfold zwV
  rw [List.getElem?_map, List.getElem?_range (by omega)]
  have : 32 + (o - 32) = o := by omega
  simp only [Option.map_some, this]
theorem zwV_len {adr : Nat → Nat} {fm : Value} {cI cZ : ClassId} {H : XH} : (zwV adr fm cI cZ H).length = H.1 := by
  unfold zwV; rw [List.length_map, List.length_range]
theorem zwV_set {adr : Nat → Nat} {fm : Value} {cI cZ : ClassId} {H H' : XH} {o : Nat} (hn : H'.1 = H.1) (h1 : 32 ≤ o) (h2 : o < 32 + H.1) (he : ∀ c, c ≠ o → eV adr fm cI cZ H' c = eV adr fm cI cZ H c) :
    (zwV adr fm cI cZ H).set (o - 32) (adr o, eV adr fm cI cZ H' o) = zwV adr fm cI cZ H' := by
  apply List.ext_getElem?
  intro i
  rw [List.getElem?_set]
  by_cases hi : o - 32 = i
  · subst hi
    rw [if_pos rfl, if_pos (by rw [zwV_len]; omega), zwV_get h1 (by omega)]
  · rw [if_neg hi]
    unfold zwV
    rw [List.getElem?_map, List.getElem?_map, hn]
    cases hr : (List.range H.1)[i]? with
    | none => rfl
    | some j =>
      have hj : j = i := by
        have := List.getElem?_eq_some_iff.mp hr
        obtain ⟨a, b⟩ := this
        simpa using b.symm
      subst hj
      simp only [Option.map_some]
      rw [he (32 + j) (by omega)]
theorem zwV_get' {adr : Nat → Nat} {fm : Value} {cI cZ : ClassId} {H : XH} {i : Nat} {q : Nat × va_E} (h : (zwV adr fm cI cZ H)[i]? = some q) : i < H.1 ∧ q = (adr (32 + i), eV adr fm cI cZ H (32 + i)) := by
  have hl := (List.getElem?_eq_some_iff.mp h).1
  rw [zwV_len] at hl
  have := zwV_get (adr := adr) (fm := fm) (cI := cI) (cZ := cZ) (H := H) (o := 32 + i) (by omega) (by omega)
  rw [show 32 + i - 32 = i by omega, h] at this
  exact ⟨hl, Option.some.inj this⟩
/-- the addresses of new cells are added: what was there reads alike -/
theorem cvR_congr {adr adr' : Nat → Nat} {fm : Value} {N r : Nat} (ha : ∀ i, i < N → adr' i = adr i) (hr : r < N) : cvR adr' fm r = cvR adr fm r := by
  unfold cvR; rw [ha r hr]
theorem cV_congr {adr adr' : Nat → Nat} {fm : Value} {n : Nat} {v : XV} (ha : ∀ i, i < 32 + n → adr' i = adr i) (hv : okV n v) : cV adr' fm v = cV adr fm v := by
  match v, hv with
  | .inl x, _ => rfl
  | .inr (.inl x), _ => rfl
  | .inr (.inr r), hv => exact cvR_congr ha hv
theorem map_congr {adr adr' : Nat → Nat} {fm : Value} {n : Nat} {st : List XV} (ha : ∀ i, i < 32 + n → adr' i = adr i) (hv : ∀ v ∈ st, okV n v) : st.map (cV adr' fm) = st.map (cV adr fm) :=
  List.map_congr_left fun v h => cV_congr ha (hv v h)
theorem eV_congr {adr adr' : Nat → Nat} {fm : Value} {cI cZ : ClassId} {H : XH} (hok : okH H) (ha : ∀ i, i < 32 + H.1 → adr' i = adr i) (o : Nat) : eV adr' fm cI cZ H o = eV adr fm cI cZ H o := by
  unfold eV
  have hf : fsV adr' fm H o (H.2.2.1 o).2 = fsV adr fm H o (H.2.2.1 o).2 := by
    unfold fsV
    refine List.map_congr_left fun k _ => ?_
    rw [cvR_congr ha (hok.2.2.2.2.2.1 o k)]
  rw [hf]
theorem zwV_congr {adr adr' : Nat → Nat} {fm : Value} {cI cZ : ClassId} {H : XH} (hok : okH H) (ha : ∀ i, i < 32 + H.1 → adr' i = adr i) : zwV adr' fm cI cZ H = zwV adr fm cI cZ H := by
  unfold zwV
  refine List.map_congr_left fun i hi => ?_
  have := List.mem_range.mp hi
  rw [eV_congr hok ha, ha (32 + i) (by omega)]
theorem zwV_new {adr : Nat → Nat} {fm : Value} {cI cZ : ClassId} {H : XH} {t : Nat × Nat} {sl q : Nat} (hok : okH H) :
    zwV (up1 adr (32 + H.1) q) fm cI cZ (newC H t sl) = zwV adr fm cI cZ H ++ [(q, eV adr fm cI cZ (newC H t sl) (32 + H.1))] := by
  have ha : ∀ i, i < 32 + H.1 → up1 adr (32 + H.1) q i = adr i := fun i hi => if_neg (by omega)
  have e1 : ∀ o, o ≠ 32 + H.1 → eV (up1 adr (32 + H.1) q) fm cI cZ (newC H t sl) o = eV adr fm cI cZ H o := by
    intro o ho
    rw [← eV_congr hok ha]
    unfold eV
    have : (newC H t sl).2.2.1 o = H.2.2.1 o := if_neg ho
    rw [this]
    rfl
  unfold zwV
  rw [show (newC H t sl).1 = H.1 + 1 from rfl, List.range_succ, List.map_append, List.map_singleton]
  congr 1
  · refine List.map_congr_left fun i hi => ?_
    have := List.mem_range.mp hi
    rw [e1 (32 + i) (by omega), ha (32 + i) (by omega)]
  · have : up1 adr (32 + H.1) q (32 + H.1) = q := if_pos rfl
    rw [this]
    congr 2
    unfold eV
    have hf : ∀ ci, fsV (up1 adr (32 + H.1) q) fm (newC H t sl) (32 + H.1) ci = fsV adr fm (newC H t sl) (32 + H.1) ci := by
      intro ci
      unfold fsV
      refine List.map_congr_left fun k _ => ?_
      rw [show (newC H t sl).2.2.2.1 (32 + H.1) k = 0 from (hok.1 (32 + H.1) (Nat.le_refl _)).2.2 k]
      rfl
    rw [hf]
-- ===== locals =====
def lvL (adr : Nat → Nat) (fm : Value) (ls : List XV) : List (Nat × Value) := (List.range ls.length).filterMap (fun i => match ls[i]? with
  | some v => if v = vR 0 then none else some (i, cV adr fm v)
  | none => none)
theorem lvL_mem {adr : Nat → Nat} {fm : Value} {ls : List XV} {q : Nat × Value} : q ∈ lvL adr fm ls ↔ ∃ v, ls[q.1]? = some v ∧ v ≠ vR 0 ∧ q.2 = cV adr fm v := by
  unfold lvL
  rw [List.mem_filterMap]
  constructor
  · rintro ⟨i, -, h⟩
    cases hv : ls[i]? with
    | none => rw [hv] at h; cases h
    | some v =>
      rw [hv] at h
      by_cases h0 : v = vR 0
      · simp [h0] at h
      · simp only [if_neg h0, Option.some.injEq] at h
        subst h
        exact ⟨v, hv, h0, rfl⟩
  · rintro ⟨v, hv, h0, h2⟩
    refine ⟨q.1, List.mem_range.mpr (List.getElem?_eq_some_iff.mp hv).1, ?_⟩
    rw [hv]
    simp only [if_neg h0, Option.some.injEq]
    rw [← h2]
def LR (adr : Nat → Nat) (fm : Value) (rls : Array Slot) (ls : List XV) : Prop := lv_has rls ls.length (lvL adr fm ls)
theorem LR_at {adr : Nat → Nat} {fm : Value} {rls : Array Slot} {ls : List XV} (h : LR adr fm rls ls) {i : Nat} {v : XV} (hv : ls[i]? = some v) (h0 : v ≠ vR 0) : rls[i]? = some (.val (cV adr fm v)) :=
  h.2.2 (i, cV adr fm v) (lvL_mem.mpr ⟨v, hv, h0, rfl⟩)
theorem prevLong_not {ls : List XV} {a i : Nat} (h : prevLong ls a = false) (hi : i + 1 = a) {v : XV} (hv : ls[i]? = some v) : isLong (some v) = false := by
  subst hi
  have h : isLong ls[i]? = false := h
  rw [hv] at h
  exact h
theorem LR_store1 {adr : Nat → Nat} {fm : Value} (hf : isRf fm) {rls' : Array Slot} {ls : List XV} {a : Nat} {v : XV} (hp : prevLong ls a = false) (ha : a < ls.length)
    (h : lv_has rls' ls.length ((a, cV adr fm v) :: (lvL adr fm ls).filter (fun q => !(q.1 == a) && !(q.1 + 1 == a && q.2.category == 2)))) : LR adr fm rls' (ls.set a v) := by
  refine ⟨by rw [List.length_set]; exact h.1, h.2.1, fun q hq => ?_⟩
  obtain ⟨w, hw, h0, h2⟩ := lvL_mem.mp hq
  rw [List.getElem?_set] at hw
  by_cases hi : a = q.1
  · rw [if_pos hi, if_pos ha] at hw
    cases hw
    have := h.2.2 _ (List.mem_cons_self)
    rw [← hi, h2]
    exact this
  · rw [if_neg hi] at hw
    refine h.2.2 q (List.mem_cons_of_mem _ (List.mem_filter.mpr ⟨lvL_mem.mpr ⟨w, hw, h0, h2⟩, ?_⟩))
    have e1 : (q.1 == a) = false := by simpa using fun z => hi z.symm
    rw [e1]
    by_cases hj : q.1 + 1 = a
    · have := cat_notLong (prevLong_not hp hj hw)
      have e2 : (q.2.category == 2) = false := by rw [h2, cV_cat hf, this]; rfl
      rw [e2]; simp
    · have e2 : (q.1 + 1 == a) = false := by simpa using hj
      rw [e2]; simp
theorem LR_store2 {adr : Nat → Nat} {fm : Value} (hf : isRf fm) {rls' : Array Slot} {ls : List XV} {a : Nat} {v : XV} (hp : prevLong ls a = false) (ha : a + 1 < ls.length)
    (h : lv_has rls' ls.length ((a, cV adr fm v) :: (lvL adr fm ls).filter (fun q => !(q.1 == a) && (!(q.1 == a + 1) && !(q.1 + 1 == a && q.2.category == 2))))) : LR adr fm rls' ((ls.set a v).set (a + 1) (vR 0)) := by
  refine ⟨by rw [List.length_set, List.length_set]; exact h.1, h.2.1, fun q hq => ?_⟩
  obtain ⟨w, hw, h0, h2⟩ := lvL_mem.mp hq
  rw [List.getElem?_set] at hw
  by_cases hi1 : a + 1 = q.1
  · rw [if_pos hi1, if_pos (by rw [List.length_set]; exact ha)] at hw
    cases hw
    exact absurd rfl h0
  · rw [if_neg hi1, List.getElem?_set] at hw
    by_cases hi : a = q.1
    · rw [if_pos hi, if_pos (by omega)] at hw
      cases hw
      have := h.2.2 _ (List.mem_cons_self)
      rw [← hi, h2]
      exact this
    · rw [if_neg hi] at hw
      refine h.2.2 q (List.mem_cons_of_mem _ (List.mem_filter.mpr ⟨lvL_mem.mpr ⟨w, hw, h0, h2⟩, ?_⟩))
      have e1 : (q.1 == a) = false := by simpa using fun z => hi z.symm
      have e3 : (q.1 == a + 1) = false := by simpa using fun z => hi1 z.symm
      rw [e1, e3]
      by_cases hj : q.1 + 1 = a
      · have := cat_notLong (prevLong_not hp hj hw)
        have e2 : (q.2.category == 2) = false := by rw [h2, cV_cat hf, this]; rfl
        rw [e2]; simp
      · have e2 : (q.1 + 1 == a) = false := by simpa using hj
        rw [e2]; simp
theorem LR_congr {adr adr' : Nat → Nat} {fm : Value} {n : Nat} {rls : Array Slot} {ls : List XV} (ha : ∀ i, i < 32 + n → adr' i = adr i) (hv : ∀ v ∈ ls, okV n v) (h : LR adr fm rls ls) : LR adr' fm rls ls := by
  refine ⟨h.1, h.2.1, fun q hq => ?_⟩
  obtain ⟨w, hw, h0, h2⟩ := lvL_mem.mp hq
  rw [h2, cV_congr ha (hv w (List.mem_of_getElem? hw))]
  exact LR_at h hw h0
