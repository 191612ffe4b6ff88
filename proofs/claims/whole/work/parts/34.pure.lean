-- ===== what a slope says =====
/-- a test of the reference's numbers holds of what stands in `by` -/
def tkH (t : Int) (b : Int → Int) : Bool :=
  if t / 8 % 4 = 0 then decide (b (t % 8) < t / 32) else if t / 8 % 4 = 1 then decide (b (t % 8) = t / 32) else decide (b (t % 8) > t / 32)
def dgH (how v : Int) (d : Nat) : Bool :=
  if how = 0 then decide ((d : Int) < v) else if how = 1 then decide ((d : Int) = v) else decide ((d : Int) > v)
/-- the class's number of a step -/
def cTok (t : Int) : Int :=
  if 0 ≤ t then 3 + (t % 8) * 1024 + MK (dgH (t / 8 % 4) (t / 32)) else if t = -1 then 2 else if t = -2 then 0 else 1
def okTok (t : Int) : Prop := -3 ≤ t ∧ (0 ≤ t → t % 8 ≤ 5 ∧ t / 8 % 4 ≤ 2 ∧ t / 32 ≤ 99)
/-- the steps, over any truths -/
def evG {α : Type} (tst : Int → α) (nt : α → α) (an ro : α → α → α) : List Int → List α → List α
  | [], st => st
  | t :: ts, st =>
    evG tst nt an ro ts (if 0 ≤ t then tst t :: st
      else if t = -1 then (match st with | a :: r => nt a :: r | [] => [])
      else (match st with | b :: a :: r => (if t = -2 then an a b else ro a b) :: r | r => r))
/-- from a depth to a depth, never above 13 -/
def wfR : List Int → Nat → Nat → Prop
  | [], a, b => a = b
  | t :: ts, a, b => okTok t ∧ (if 0 ≤ t then a < 13 ∧ wfR ts (a + 1) b else if t = -1 then 1 ≤ a ∧ wfR ts a b else 2 ≤ a ∧ wfR ts (a - 1) b)
theorem wfR_app : ∀ (x y : List Int) (a b c : Nat), wfR x a b → wfR y b c → wfR (x ++ y) a c := by
  intro x
  induction x with
  | nil => intro y a b c h1 h2; have e : a = b := h1; subst e; exact h2
  | cons t ts ih =>
    intro y a b c h1 h2
    obtain ⟨k, h1⟩ := h1
    refine ⟨k, ?_⟩
    by_cases h : 0 ≤ t
    · rw [if_pos h] at h1 ⊢; exact ⟨h1.1, ih y _ b c h1.2 h2⟩
    · rw [if_neg h] at h1 ⊢
      by_cases h' : t = -1
      · rw [if_pos h'] at h1 ⊢; exact ⟨h1.1, ih y _ b c h1.2 h2⟩
      · rw [if_neg h'] at h1 ⊢; exact ⟨h1.1, ih y _ b c h1.2 h2⟩
/-- truths over ten paces at once, and over one -/
def evF (v : Int → Nat → Bool) : List Int → List (Nat → Bool) → List (Nat → Bool) :=
  evG v (fun a p => !a p) (fun a b p => a p && b p) (fun a b p => a p || b p)
def evB (v : Int → Bool) : List Int → List Bool → List Bool :=
  evG v (fun a => !a) (fun a b => a && b) (fun a b => a || b)
theorem evF_at (v : Int → Nat → Bool) (p : Nat) : ∀ (ts : List Int) (st : List (Nat → Bool)),
    (evF v ts st).map (fun f => f p) = evB (fun t => v t p) ts (st.map (fun f => f p)) := by
  intro ts
  induction ts with
  | nil => intro st; rfl
  | cons t ts ih =>
    intro st
    show (evF v ts _).map (fun f => f p) = evB (fun t => v t p) ts _
    rw [ih]
    congr 1
    by_cases h : 0 ≤ t
    · rw [if_pos h, if_pos h]; rfl
    · rw [if_neg h, if_neg h]
      by_cases h' : t = -1
      · rw [if_pos h', if_pos h']; cases st <;> rfl
      · rw [if_neg h', if_neg h']
        match st with
        | [] => rfl
        | [a] => rfl
        | b :: a :: r =>
          show (if t = -2 then _ else _ : Nat → Bool) p :: _ = (if t = -2 then _ else _) :: _
          by_cases h2 : t = -2
          · rw [if_pos h2, if_pos h2]
          · rw [if_neg h2, if_neg h2]
theorem evG_len {α : Type} (tst : Int → α) (nt : α → α) (an ro : α → α → α) : ∀ (ts : List Int) (st : List α) (b : Nat), wfR ts st.length b → (evG tst nt an ro ts st).length = b := by
  intro ts
  induction ts with
  | nil => intro st b h; exact h
  | cons t ts ih =>
    intro st b ⟨_, h⟩
    show (evG tst nt an ro ts _).length = b
    apply ih
    by_cases h0 : 0 ≤ t
    · rw [if_pos h0] at h ⊢; exact h.2
    · rw [if_neg h0] at h ⊢
      by_cases h1 : t = -1
      · rw [if_pos h1] at h ⊢
        match st with
        | [] => exact absurd (show 1 ≤ 0 from h.1) (by decide)
        | a :: r => exact h.2
      · rw [if_neg h1] at h ⊢
        match st with
        | [] => exact absurd (show 2 ≤ 0 from h.1) (by decide)
        | [a] => exact absurd (show 2 ≤ 1 from h.1) (by decide)
        | b' :: a :: r => exact h.2
/-- clauses: wax?, how much, the steps of its condition -/
abbrev CLs : Type := List (Bool × Int × List Int)
def okC (c : Bool × Int × List Int) : Prop := (0 ≤ c.2.1 ∧ c.2.1 ≤ 99) ∧ wfR c.2.2 0 1
/-- the condition at one pace -/
def holdsC (v : Int → Bool) (c : Bool × Int × List Int) : Bool := (evB v c.2.2 []).headD false
/-- the sum of the clauses that hold, of one kind -/
def sumC (w : Bool) (v : Int → Bool) : CLs → Int
  | [] => 0
  | c :: cs => (if c.1 = w ∧ holdsC v c = true then c.2.1 else 0) + sumC w v cs
/-- a list stands in a row -/
def Seg (f : Int → Int) : Int → List Int → Prop
  | _, [] => True
  | j, t :: ts => f j = t ∧ Seg f (j + 1) ts
/-- the class's rows of clauses, from clause i and step e to clause i' and step e' -/
def ClR (m : XM) (b : Nat) : Int → Int → CLs → Int → Int → Prop
  | i, e, [], i', e' => i = i' ∧ e = e'
  | i, e, c :: cs, i', e' => m (b + 1) i = (if c.1 then 1 else 0) ∧ m (b + 2) i = c.2.1 ∧ m (b + 3) i = e + c.2.2.length ∧
      Seg (m (b + 4)) e (c.2.2.map cTok) ∧ ClR m b (i + 1) (e + c.2.2.length) cs i' e'
/-- the reference's steps -/
def mEnd (c : Bool × Int × List Int) : Int := if c.1 then -10 - c.2.1 else -200 - c.2.1
def mSteps : CLs → List Int
  | [] => []
  | c :: cs => c.2.2 ++ mEnd c :: mSteps cs
