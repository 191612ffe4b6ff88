-- ===== the reading of a slope, by definition =====
abbrev PRes : Type := Int × Option (List Int)
def atP (f : Int → Int) (E p : Int) : Int := if p < E then f p else -1
def pNum (f : Int → Int) (E p : Int) : Option (Int × Int) :=
  if ixD (atP f E p) = -1 then none
  else if ixD (atP f E p) = 0 then some (0, p + 1)
  else if ixD (atP f E (p + 1)) = -1 then some (ixD (atP f E p), p + 1)
  else some (10 * ixD (atP f E p) + ixD (atP f E (p + 1)), p + 2)
def pTest (f : Int → Int) (E p : Int) : PRes :=
  if ixW (atP f E p) = -1 then (p, none)
  else if ixH (atP f E (p + 1)) = -1 then (p + 1, none)
  else match pNum f E (p + 2) with
    | some (v, q) => (q, some [ixW (atP f E p) + 8 * ixH (atP f E (p + 1)) + 32 * v])
    | none => (p + 2, none)
def bnd (r : PRes) (g : Int → List Int → PRes) : PRes := match r with
  | (q, some t) => g q t
  | (q, none) => (q, none)
def lpP (F : Int → PRes) (f : Int → Int) (E sep op : Int) : Nat → Int → List Int → PRes
  | 0, p, acc => (p, some acc)
  | n + 1, p, acc => if atP f E p = sep then bnd (F (p + 1)) (fun q t => lpP F f E sep op n q (acc ++ t ++ [op])) else (p, some acc)
def evP (F : Int → PRes) (f : Int → Int) (E p : Int) : PRes := bnd (F p) (fun q t => lpP F f E 38 (-2) 101 q t)
def soP (F : Int → PRes) (f : Int → Int) (E p : Int) : PRes := bnd (evP F f E p) (fun q t => lpP (evP F f E) f E 124 (-3) 101 q t)
def faP (f : Int → Int) (E : Int) : Nat → Int → PRes
  | 0, p => if atP f E p = 33 ∨ atP f E p = 40 then (p, none) else pTest f E p
  | k + 1, p => if atP f E p = 33 then bnd (faP f E k (p + 1)) (fun q t => (q, some (t ++ [-1])))
    else if atP f E p = 40 then bnd (soP (faP f E k) f E (p + 1)) (fun q t => if atP f E q = 41 then (q + 1, some t) else (q, none))
    else pTest f E p
theorem ixD_r (c : Int) : -1 ≤ ixD c ∧ ixD c ≤ 9 ∧ (c = -1 → ixD c = -1) := by unfold ixD; split <;> omega
theorem ixW_r (c : Int) : -1 ≤ ixW c ∧ ixW c ≤ 5 ∧ (c = -1 → ixW c = -1) := by unfold ixW; (repeat' split) <;> omega
theorem ixH_r (c : Int) : -1 ≤ ixH c ∧ ixH c ≤ 2 ∧ (c = -1 → ixH c = -1) := by unfold ixH; (repeat' split) <;> omega
theorem atP_lt {f : Int → Int} {E p : Int} (h : atP f E p ≠ -1) : p < E := by
  unfold atP at h
  by_cases q : p < E
  · exact q
  · rw [if_neg q] at h; exact absurd rfl h
theorem pNum_r {f : Int → Int} {E p v q : Int} (h : pNum f E p = some (v, q)) : p < q ∧ q ≤ E ∧ 0 ≤ v ∧ v ≤ 99 := by
  have d1 := ixD_r (atP f E p)
  have d2 := ixD_r (atP f E (p + 1))
  have l1 := @atP_lt f E p
  have l2 := @atP_lt f E (p + 1)
  unfold pNum at h
  by_cases q1 : ixD (atP f E p) = -1
  · rw [if_pos q1] at h; exact absurd h (by simp)
  · have hp := l1 (fun w => q1 (d1.2.2 w))
    rw [if_neg q1] at h
    by_cases q2 : ixD (atP f E p) = 0
    · rw [if_pos q2] at h
      simp only [Option.some.injEq, Prod.mk.injEq] at h
      omega
    · rw [if_neg q2] at h
      by_cases q3 : ixD (atP f E (p + 1)) = -1
      · rw [if_pos q3] at h
        simp only [Option.some.injEq, Prod.mk.injEq] at h
        omega
      · have hp2 := l2 (fun w => q3 (d2.2.2 w))
        rw [if_neg q3] at h
        simp only [Option.some.injEq, Prod.mk.injEq] at h
        omega
/-- a reader of parts keeps its bounds -/
def GoodF (F : Int → PRes) (E : Int) (A : Nat) : Prop := ∀ p, 0 ≤ p → p ≤ E →
  (∀ q t, F p = (q, some t) → p < q ∧ q ≤ E ∧ (t.length : Int) ≤ q - p ∧ ∀ a, a ≤ A → wfR t a (a + 1)) ∧ (∀ q, F p = (q, none) → p ≤ q ∧ q ≤ E)
theorem GoodF_mono {F : Int → PRes} {E : Int} {A B : Nat} (h : GoodF F E A) (hB : B ≤ A) : GoodF F E B := fun p p0 p1 => ⟨fun q t e => by
  obtain ⟨a, b, c, d⟩ := (h p p0 p1).1 q t e
  exact ⟨a, b, c, fun x hx => d x (by omega)⟩, (h p p0 p1).2⟩
theorem wfR_one {t : Int} (h0 : 0 ≤ t) (hk : okTok t) {a : Nat} (ha : a < 13) : wfR [t] a (a + 1) := by
  refine ⟨hk, ?_⟩
  rw [if_pos h0]; exact ⟨ha, rfl⟩
theorem wfR_not {a : Nat} (ha : 1 ≤ a) : wfR [-1] a a := by
  refine ⟨⟨by omega, fun h => by omega⟩, ?_⟩
  rw [if_neg (by omega), if_pos rfl]; exact ⟨ha, rfl⟩
theorem wfR_op {t : Int} (ht : t = -2 ∨ t = -3) {a : Nat} (ha : 1 ≤ a) : wfR [t] (a + 1) a := by
  refine ⟨⟨by omega, fun h => by omega⟩, ?_⟩
  rw [if_neg (by omega), if_neg (by omega)]; exact ⟨by omega, by show a + 1 - 1 = a; omega⟩
theorem bnd_cases (r : PRes) (g : Int → List Int → PRes) : (∃ q t, r = (q, some t) ∧ bnd r g = g q t) ∨ (∃ q, r = (q, none) ∧ bnd r g = (q, none)) := by
  obtain ⟨q, t⟩ := r
  cases t with
  | none => exact Or.inr ⟨q, rfl, rfl⟩
  | some t => exact Or.inl ⟨q, t, rfl, rfl⟩
theorem pTest_good (f : Int → Int) (E : Int) : GoodF (pTest f E) E 12 := by
  intro p p0 p1
  have w1 := ixW_r (atP f E p)
  have w2 := ixH_r (atP f E (p + 1))
  have l1 := @atP_lt f E p
  have l2 := @atP_lt f E (p + 1)
  have e : pTest f E p = if ixW (atP f E p) = -1 then (p, none) else if ixH (atP f E (p + 1)) = -1 then (p + 1, none) else match pNum f E (p + 2) with
    | some (v, q) => (q, some [ixW (atP f E p) + 8 * ixH (atP f E (p + 1)) + 32 * v])
    | none => (p + 2, none) := rfl
  rw [e]
  by_cases q1 : ixW (atP f E p) = -1
  · rw [if_pos q1]
    exact ⟨fun q t h => by simp at h, fun q h => by simp only [Prod.mk.injEq] at h; omega⟩
  · have hp := l1 (fun w => q1 (w1.2.2 w))
    rw [if_neg q1]
    by_cases q2 : ixH (atP f E (p + 1)) = -1
    · rw [if_pos q2]
      exact ⟨fun q t h => by simp at h, fun q h => by simp only [Prod.mk.injEq] at h; omega⟩
    · have hp2 := l2 (fun w => q2 (w2.2.2 w))
      rw [if_neg q2]
      cases hn : pNum f E (p + 2) with
      | none => exact ⟨fun q t h => by simp at h, fun q h => by simp only [Prod.mk.injEq] at h; omega⟩
      | some x =>
        obtain ⟨v, q0⟩ := x
        obtain ⟨n1, n2, n3, n4⟩ := pNum_r hn
        refine ⟨fun q t h => ?_, fun q h => by simp at h⟩
        simp only [Prod.mk.injEq, Option.some.injEq] at h
        obtain ⟨h1, h2⟩ := h
        rw [← h2, ← h1]
        refine ⟨by omega, n2, by show ((1 : Nat) : Int) ≤ _; omega, fun a ha => wfR_one (by omega) ⟨by omega, fun _ => ⟨by omega, by omega, by omega⟩⟩ (by omega)⟩
theorem lpP_good {F : Int → PRes} {f : Int → Int} {E sep op : Int} {A : Nat} (hF : GoodF F E A) (hs : sep ≠ -1) (hop : op = -2 ∨ op = -3) : ∀ (n : Nat) (p p0 : Int) (acc : List Int), 0 ≤ p → p ≤ E → (acc.length : Int) ≤ p - p0 →
    (∀ q t, lpP F f E sep op n p acc = (q, some t) → p ≤ q ∧ q ≤ E ∧ (t.length : Int) ≤ q - p0 ∧ ∀ a, a + 1 ≤ A → wfR acc a (a + 1) → wfR t a (a + 1)) ∧ (∀ q, lpP F f E sep op n p acc = (q, none) → p ≤ q ∧ q ≤ E) := by
  intro n
  induction n with
  | zero =>
    intro p p0 acc h0 h1 hl
    have e : lpP F f E sep op 0 p acc = (p, some acc) := rfl
    rw [e]
    refine ⟨fun q t h => ?_, fun q h => by simp at h⟩
    simp only [Prod.mk.injEq, Option.some.injEq] at h
    obtain ⟨a, b⟩ := h
    rw [← a, ← b]
    exact ⟨by omega, h1, hl, fun _ _ w => w⟩
  | succ n ih =>
    intro p p0 acc h0 h1 hl
    have e : lpP F f E sep op (n + 1) p acc = if atP f E p = sep then bnd (F (p + 1)) (fun q t => lpP F f E sep op n q (acc ++ t ++ [op])) else (p, some acc) := rfl
    rw [e]
    by_cases hc : atP f E p = sep
    · rw [if_pos hc]
      have hp := @atP_lt f E p (by rw [hc]; exact hs)
      have g := hF (p + 1) (by omega) (by omega)
      rcases bnd_cases (F (p + 1)) (fun q t => lpP F f E sep op n q (acc ++ t ++ [op])) with ⟨q1, t1, e1, e2⟩ | ⟨q1, e1, e2⟩
      · rw [e2]
        obtain ⟨g1, g2, g3, g4⟩ := g.1 q1 t1 e1
        have r := ih q1 p0 (acc ++ t1 ++ [op]) (by omega) g2 (by rw [List.length_append, List.length_append]; push_cast; show (acc.length : Int) + t1.length + ((1 : Nat) : Int) ≤ _; omega)
        refine ⟨fun q t h => ?_, fun q h => by have := r.2 q h; omega⟩
        obtain ⟨r1, r2, r3, r4⟩ := r.1 q t h
        refine ⟨by omega, r2, r3, fun a ha hw => r4 a ha ?_⟩
        exact wfR_app _ _ a (a + 1 + 1) (a + 1) (wfR_app _ _ a (a + 1) (a + 1 + 1) hw (g4 (a + 1) ha)) (wfR_op hop (by omega))
      · rw [e2]
        exact ⟨fun q t h => by simp at h, fun q h => by
          simp only [Prod.mk.injEq] at h
          have := g.2 q1 e1
          omega⟩
    · rw [if_neg hc]
      refine ⟨fun q t h => ?_, fun q h => by simp at h⟩
      simp only [Prod.mk.injEq, Option.some.injEq] at h
      obtain ⟨a, b⟩ := h
      rw [← a, ← b]
      exact ⟨by omega, h1, hl, fun _ _ w => w⟩
theorem chain_good {F G : Int → PRes} {f : Int → Int} {E sep op : Int} {A : Nat} (hF : GoodF F E (A + 1)) (hs : sep ≠ -1) (hop : op = -2 ∨ op = -3) (hG : ∀ p, G p = bnd (F p) (fun q t => lpP F f E sep op 101 q t)) : GoodF G E A := by
  intro p p0 p1
  rw [hG]
  have g := hF p p0 p1
  rcases bnd_cases (F p) (fun q t => lpP F f E sep op 101 q t) with ⟨q1, t1, e1, e2⟩ | ⟨q1, e1, e2⟩
  · rw [e2]
    obtain ⟨g1, g2, g3, g4⟩ := g.1 q1 t1 e1
    have r := lpP_good hF hs hop (f := f) 101 q1 p t1 (by omega) g2 g3
    refine ⟨fun q t h => ?_, fun q h => by have := r.2 q h; omega⟩
    obtain ⟨r1, r2, r3, r4⟩ := r.1 q t h
    exact ⟨by omega, r2, r3, fun a ha => r4 a (by omega) (g4 a (by omega))⟩
  · rw [e2]
    exact ⟨fun q t h => by simp at h, fun q h => by
      simp only [Prod.mk.injEq] at h
      have := g.2 q1 e1
      omega⟩
theorem evP_good {F : Int → PRes} {f : Int → Int} {E : Int} {A : Nat} (hF : GoodF F E (A + 1)) : GoodF (evP F f E) E A := chain_good hF (by decide) (Or.inl rfl) (fun _ => rfl)
theorem soP_good {F : Int → PRes} {f : Int → Int} {E : Int} {A : Nat} (hF : GoodF F E (A + 2)) : GoodF (soP F f E) E A := chain_good (evP_good hF) (by decide) (Or.inr rfl) (fun _ => rfl)
theorem faP_good (f : Int → Int) (E : Int) : ∀ k : Nat, k ≤ 5 → GoodF (faP f E k) E (12 - 2 * k) := by
  intro k
  induction k with
  | zero =>
    intro _ p p0 p1
    have e : faP f E 0 p = if atP f E p = 33 ∨ atP f E p = 40 then (p, none) else pTest f E p := rfl
    rw [e]
    by_cases h : atP f E p = 33 ∨ atP f E p = 40
    · rw [if_pos h]
      exact ⟨fun q t h => by simp at h, fun q h => by simp only [Prod.mk.injEq] at h; omega⟩
    · rw [if_neg h]; exact pTest_good f E p p0 p1
  | succ k ih =>
    intro hk p p0 p1
    have hF := ih (by omega)
    have e : faP f E (k + 1) p = if atP f E p = 33 then bnd (faP f E k (p + 1)) (fun q t => (q, some (t ++ [-1])))
      else if atP f E p = 40 then bnd (soP (faP f E k) f E (p + 1)) (fun q t => if atP f E q = 41 then (q + 1, some t) else (q, none))
      else pTest f E p := rfl
    rw [e]
    by_cases h33 : atP f E p = 33
    · rw [if_pos h33]
      have hp := @atP_lt f E p (by omega)
      have g := hF (p + 1) (by omega) (by omega)
      rcases bnd_cases (faP f E k (p + 1)) (fun q t => (q, some (t ++ [-1]))) with ⟨q1, t1, e1, e2⟩ | ⟨q1, e1, e2⟩
      · rw [e2]
        obtain ⟨g1, g2, g3, g4⟩ := g.1 q1 t1 e1
        refine ⟨fun q t h => ?_, fun q h => by simp at h⟩
        simp only [Prod.mk.injEq, Option.some.injEq] at h
        obtain ⟨a, b⟩ := h
        rw [← a, ← b]
        refine ⟨by omega, g2, by rw [List.length_append]; push_cast; show (t1.length : Int) + ((1 : Nat) : Int) ≤ _; omega, fun a ha => wfR_app _ _ a (a + 1) (a + 1) (g4 a (by omega)) (wfR_not (by omega))⟩
      · rw [e2]
        exact ⟨fun q t h => by simp at h, fun q h => by
          simp only [Prod.mk.injEq] at h
          have := g.2 q1 e1
          omega⟩
    · rw [if_neg h33]
      by_cases h40 : atP f E p = 40
      · rw [if_pos h40]
        have hp := @atP_lt f E p (by omega)
        have g := (soP_good (f := f) (A := 12 - 2 * (k + 1)) (GoodF_mono hF (by omega))) (p + 1) (by omega) (by omega)
        rcases bnd_cases (soP (faP f E k) f E (p + 1)) (fun q t => if atP f E q = 41 then (q + 1, some t) else (q, none)) with ⟨q1, t1, e1, e2⟩ | ⟨q1, e1, e2⟩
        · rw [e2]
          obtain ⟨g1, g2, g3, g4⟩ := g.1 q1 t1 e1
          by_cases h41 : atP f E q1 = 41
          · rw [if_pos h41]
            have hq := @atP_lt f E q1 (by omega)
            refine ⟨fun q t h => ?_, fun q h => by simp at h⟩
            simp only [Prod.mk.injEq, Option.some.injEq] at h
            obtain ⟨a, b⟩ := h
            rw [← a, ← b]
            exact ⟨by omega, by omega, by omega, g4⟩
          · rw [if_neg h41]
            exact ⟨fun q t h => by simp at h, fun q h => by simp only [Prod.mk.injEq] at h; omega⟩
        · rw [e2]
          exact ⟨fun q t h => by simp at h, fun q h => by
            simp only [Prod.mk.injEq] at h
            have := g.2 q1 e1
            omega⟩
      · rw [if_neg h40]
        exact GoodF_mono (pTest_good f E) (by omega) p p0 p1
theorem Seg_app {f : Int → Int} : ∀ {x y : List Int} {j : Int}, Seg f j (x ++ y) ↔ (Seg f j x ∧ Seg f (j + x.length) y) := by
  intro x
  induction x with
  | nil => intro y j; show Seg f j y ↔ (True ∧ Seg f (j + ((0 : Nat) : Int)) y); rw [show j + ((0 : Nat) : Int) = j by omega]; exact ⟨fun h => ⟨trivial, h⟩, fun h => h.2⟩
  | cons t ts ih =>
    intro y j
    show (f j = t ∧ Seg f (j + 1) (ts ++ y)) ↔ ((f j = t ∧ Seg f (j + 1) ts) ∧ Seg f (j + ((ts.length + 1 : Nat) : Int)) y)
    rw [ih, show j + ((ts.length + 1 : Nat) : Int) = j + 1 + ts.length by push_cast; omega]
    exact ⟨fun ⟨a, b, c⟩ => ⟨⟨a, b⟩, c⟩, fun ⟨⟨a, b⟩, c⟩ => ⟨a, b, c⟩⟩
