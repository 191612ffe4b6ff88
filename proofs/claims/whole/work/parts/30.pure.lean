-- ===== the lines: least times, first lines, searches =====
/-- of (time, line) so far and a line c that takes v: the lesser; the earlier of like ones -/
def stp (x : Int × Int) (v : Int) (ok : Prop) [Decidable ok] (c : Int) : Int × Int := if v < x.1 ∧ ok then (v, c) else x
/-- the least time of n places from place i on at pace p, and its first line at i; 100000000: none -/
def LC (O T B : Int → Int → Int → Int) (ns : Prop) [Decidable ns] : Nat → Int → Int → Int × Int
  | 0, _, _ => (0, 0)
  | n + 1, i, p =>
    stp (stp (stp (100000000, 0) (T i p 0 + (LC O T B ns n (i + 1) (B i p 0)).1) (¬ (ns ∧ O i p 0 > 0)) 0)
      (T i p 1 + (LC O T B ns n (i + 1) (B i p 1)).1) (¬ (ns ∧ O i p 1 > 0)) 1)
      (T i p 2 + (LC O T B ns n (i + 1) (B i p 2)).1) (¬ (ns ∧ O i p 2 > 0)) 2
/-- the first of the least lines -/
def pathL (O T B : Int → Int → Int → Int) (ns : Prop) [Decidable ns] : Nat → Int → Int → Int → Int
  | 0, _, _, _ => 0
  | n + 1, i, p, k => if k = i then (LC O T B ns (n + 1) i p).2 else pathL O T B ns n (i + 1) (B i p (LC O T B ns (n + 1) i p).2) k
/-- a search's state: the row tried, the row kept, least time, most ups, how many -/
abbrev SS : Type := (Int → Int) × (Int → Int) × Int × Int × Int
def sTr (x : SS) : Int → Int := x.1
def sBe (x : SS) : Int → Int := x.2.1
def sLt (x : SS) : Int := x.2.2.1
def sMu (x : SS) : Int := x.2.2.2.1
def sMa (x : SS) : Int := x.2.2.2.2
/-- the row that is tried is kept, as far as N -/
def keepR (N : Int) (f g : Int → Int) : Int → Int := fun k => if 0 ≤ k ∧ k < N then f k else g k
def sEnd (N a lim : Int) (time ups : Int) (x : SS) : SS :=
  if a = 2 then (if time ≤ lim ∧ ups > sMu x then (sTr x, keepR N (sTr x) (sBe x), sLt x, ups, sMa x + 1) else x)
  else if a = 3 then (if sMa x = 0 then (sTr x, keepR N (sTr x) (sBe x), sLt x, sMu x, sMa x + 1) else (sTr x, sBe x, sLt x, sMu x, sMa x + 1))
  else if time < sLt x then (sTr x, keepR N (sTr x) (sBe x), time, sMu x, sMa x + 1) else x
/-- line c is tried at place i -/
def sTry (i c : Int) (x : SS) : SS := (upi (sTr x) i c, sBe x, sLt x, sMu x, sMa x)
def sGo (O T B : Int → Int → Int → Int) (N a lim : Int) (seen : Int → Int → Prop) [∀ i t, Decidable (seen i t)] : Nat → Int → Int → Int → Int → SS → SS
  | 0, _, _, time, ups, x => sEnd N a lim time ups x
  | n + 1, i, p, time, ups, x =>
    let br := fun (c : Int) (x : SS) =>
      if (a = 1 ∧ O i p c ≠ 0) ∨ (a = 3 ∧ ¬ seen i (time + T i p c)) then x
      else sGo O T B N a lim seen n (i + 1) (B i p c) (time + T i p c) (ups * (20 - O i p c)) (sTry i c x)
    br 2 (br 1 (br 0 x))
/-- the branch of a line -/
def sBr (O T B : Int → Int → Int → Int) (N a lim : Int) (seen : Int → Int → Prop) [∀ i t, Decidable (seen i t)] (n : Nat) (i p time ups c : Int) (x : SS) : SS :=
  if (a = 1 ∧ O i p c ≠ 0) ∨ (a = 3 ∧ ¬ seen i (time + T i p c)) then x
  else sGo O T B N a lim seen n (i + 1) (B i p c) (time + T i p c) (ups * (20 - O i p c)) (sTry i c x)
theorem sGo_succ (O T B : Int → Int → Int → Int) (N a lim : Int) (seen : Int → Int → Prop) [∀ i t, Decidable (seen i t)] (n : Nat) (i p time ups : Int) (x : SS) :
    sGo O T B N a lim seen (n + 1) i p time ups x = sBr O T B N a lim seen n i p time ups 2 (sBr O T B N a lim seen n i p time ups 1 (sBr O T B N a lim seen n i p time ups 0 x)) := rfl
/-- what a search for the least time leaves: `w` the least time from here, `pa` the first line of it -/
def leaves (i N v : Int) (pa : Int → Int) (x y : SS) : Prop :=
  (∀ k, k < i → sTr y k = sTr x k) ∧
  ((v < sLt x ∧ sLt y = v ∧ sMa x < sMa y ∧ (∀ k, 0 ≤ k → k < i → sBe y k = sTr x k) ∧ (∀ k, i ≤ k → k < N → sBe y k = pa k)) ∨
   (¬ v < sLt x ∧ sLt y = sLt x ∧ sMa y = sMa x ∧ sBe y = sBe x))
theorem sGo_least (O T B : Int → Int → Int → Int) (N a lim : Int) (seen : Int → Int → Prop) [∀ i t, Decidable (seen i t)]
    (ha : a = 0 ∨ a = 1) (hO : ∀ i p c, 0 ≤ O i p c) :
    ∀ (n : Nat) (i p time ups : Int) (x : SS), i + n = N → 0 ≤ i → sLt x ≤ 1000000 → 0 ≤ time →
      (∀ j q c, 0 ≤ T j q c) →
      leaves i N (time + (LC O T B (a = 1) n i p).1) (pathL O T B (a = 1) n i p) x (sGo O T B N a lim seen n i p time ups x) := by
  intro n
  induction n with
  | zero =>
    intro i p time ups x hi h0 hl ht hT
    have e : sGo O T B N a lim seen 0 i p time ups x = if time < sLt x then (sTr x, keepR N (sTr x) (sBe x), time, sMu x, sMa x + 1) else x := by
      show sEnd N a lim time ups x = _
      unfold sEnd
      rw [if_neg (by omega), if_neg (by omega)]
    rw [e]
    have e2 : time + (LC O T B (a = 1) 0 i p).1 = time := by show time + 0 = time; omega
    rw [e2]
    by_cases h : time < sLt x
    · rw [if_pos h]
      refine ⟨fun k _ => rfl, Or.inl ⟨h, rfl, ?_, fun k h1 h2 => ?_, fun k h1 h2 => ?_⟩⟩
      · show sMa x < sMa x + 1
        omega
      · show keepR N (sTr x) (sBe x) k = _
        unfold keepR; rw [if_pos (by omega)]
      · exfalso; omega
    · rw [if_neg h]
      exact ⟨fun k _ => rfl, Or.inr ⟨h, rfl, rfl, rfl⟩⟩
  | succ n ih =>
    intro i p time ups x hi h0 hl ht hT
    -- one branch
    have br : ∀ (c : Int) (y : SS), sLt y ≤ 1000000 →
        let v := time + (T i p c + (LC O T B (a = 1) n (i + 1) (B i p c)).1)
        let y' := sBr O T B N a lim seen n i p time ups c y
        (∀ k, k < i → sTr y' k = sTr y k) ∧ sLt y' ≤ 1000000 ∧
        ((v < sLt y ∧ ¬ (a = 1 ∧ O i p c > 0) ∧ sLt y' = v ∧ sMa y < sMa y' ∧ (∀ k, 0 ≤ k → k < i → sBe y' k = sTr y k) ∧ sBe y' i = c ∧ (∀ k, i < k → k < N → sBe y' k = pathL O T B (a = 1) n (i + 1) (B i p c) k)) ∨
         (¬ (v < sLt y ∧ ¬ (a = 1 ∧ O i p c > 0)) ∧ sLt y' = sLt y ∧ sMa y' = sMa y ∧ sBe y' = sBe y)) := by
      intro c y hy v y'
      have hv : v = time + T i p c + (LC O T B (a = 1) n (i + 1) (B i p c)).1 := by show time + (_ + _) = _; omega
      have hOc := hO i p c
      by_cases hc : a = 1 ∧ O i p c ≠ 0
      · have ey : y' = y := by show sBr O T B N a lim seen n i p time ups c y = y; unfold sBr; rw [if_pos (Or.inl hc)]
        rw [ey]
        exact ⟨fun _ _ => rfl, hy, Or.inr ⟨fun h => h.2 ⟨hc.1, by omega⟩, rfl, rfl, rfl⟩⟩
      · have ey : y' = sGo O T B N a lim seen n (i + 1) (B i p c) (time + T i p c) (ups * (20 - O i p c)) (sTry i c y) := by
          show sBr O T B N a lim seen n i p time ups c y = _
          unfold sBr; rw [if_neg (by omega)]
        have hTc := hT i p c
        have g := ih (i + 1) (B i p c) (time + T i p c) (ups * (20 - O i p c)) (sTry i c y) (by omega) (by omega) hy (by omega) hT
        rw [← ey, ← hv] at g
        obtain ⟨g1, g2⟩ := g
        have t1 : ∀ k, k < i → sTr y' k = sTr y k := fun k hk => by
          rw [g1 k (by omega)]; show upi (sTr y) i c k = _; unfold upi; rw [if_neg (by omega)]
        refine ⟨t1, ?_, ?_⟩
        · rcases g2 with ⟨q1, q2, _⟩ | ⟨_, q2, _⟩
          · rw [q2]; have : v < sLt y := q1
            omega
          · rw [q2]; exact hy
        · rcases g2 with ⟨q1, q2, q3, q4, q5⟩ | ⟨q1, q2, q3, q4⟩
          · refine Or.inl ⟨q1, by omega, q2, q3, fun k h1 h2 => ?_, ?_, fun k h1 h2 => q5 k (by omega) h2⟩
            · rw [q4 k h1 (by omega)]; show upi (sTr y) i c k = _; unfold upi; rw [if_neg (by omega)]
            · rw [q4 i h0 (by omega)]; show upi (sTr y) i c i = _; unfold upi; rw [if_pos rfl]
          · exact Or.inr ⟨fun h => q1 h.1, q2, q3, q4⟩
    -- so far
    let Inv := fun (l : Int × Int) (y : SS) => (∀ k, k < i → sTr y k = sTr x k) ∧ sLt y ≤ 1000000 ∧
      ((time + l.1 < sLt x ∧ sLt y = time + l.1 ∧ sMa x < sMa y ∧ (∀ k, 0 ≤ k → k < i → sBe y k = sTr x k) ∧ sBe y i = l.2 ∧ (∀ k, i < k → k < N → sBe y k = pathL O T B (a = 1) n (i + 1) (B i p l.2) k)) ∨
       (¬ time + l.1 < sLt x ∧ sLt y = sLt x ∧ sMa y = sMa x ∧ sBe y = sBe x))
    have step : ∀ (c : Int) (l : Int × Int) (y : SS), Inv l y →
        Inv (stp l (T i p c + (LC O T B (a = 1) n (i + 1) (B i p c)).1) (¬ (a = 1 ∧ O i p c > 0)) c) (sBr O T B N a lim seen n i p time ups c y) := by
      intro c l y ⟨i1, i2, i3⟩
      obtain ⟨b1, b2, b3⟩ := br c y i2
      refine ⟨fun k hk => by rw [b1 k hk, i1 k hk], b2, ?_⟩
      rcases b3 with ⟨q1, q2, q3, q4, q5, q6, q7⟩ | ⟨q1, q2, q3, q4⟩
      · have hV : T i p c + (LC O T B (a = 1) n (i + 1) (B i p c)).1 < l.1 := by
          rcases i3 with ⟨r1, r2, _⟩ | ⟨r1, r2, _⟩ <;> omega
        have hs : stp l (T i p c + (LC O T B (a = 1) n (i + 1) (B i p c)).1) (¬ (a = 1 ∧ O i p c > 0)) c = (T i p c + (LC O T B (a = 1) n (i + 1) (B i p c)).1, c) := by
          unfold stp; rw [if_pos ⟨hV, q2⟩]
        rw [hs]
        refine Or.inl ⟨?_, q3, ?_, fun k h1 h2 => by rw [q5 k h1 h2, i1 k h2], q6, q7⟩
        · rcases i3 with ⟨r1, r2, _⟩ | ⟨r1, r2, _⟩ <;> (show time + (T i p c + _) < _; omega)
        · rcases i3 with ⟨r1, r2, r3, _⟩ | ⟨r1, r2, r3, _⟩ <;> omega
      · rcases i3 with ⟨r1, r2, r3, r4, r5, r6⟩ | ⟨r1, r2, r3, r4⟩
        · have hs : stp l (T i p c + (LC O T B (a = 1) n (i + 1) (B i p c)).1) (¬ (a = 1 ∧ O i p c > 0)) c = l := by
            unfold stp; rw [if_neg (fun h => q1 ⟨by omega, h.2⟩)]
          rw [hs]
          exact Or.inl ⟨r1, by rw [q2, r2], by rw [q3]; exact r3, by rw [q4]; exact r4, by rw [q4]; exact r5, by rw [q4]; exact r6⟩
        · refine Or.inr ⟨?_, by rw [q2, r2], by rw [q3, r3], by rw [q4, r4]⟩
          unfold stp
          split
          · rename_i h
            intro h'
            exact q1 ⟨by show time + (T i p c + _) < _; rw [r2]; exact h', h.2⟩
          · exact r1
    rw [sGo_succ]
    have s0 : Inv (100000000, 0) x := ⟨fun _ _ => rfl, hl, Or.inr ⟨by show ¬ time + 100000000 < _; omega, rfl, rfl, rfl⟩⟩
    have s3 := step 2 _ _ (step 1 _ _ (step 0 _ _ s0))
    generalize sBr O T B N a lim seen n i p time ups 2 (sBr O T B N a lim seen n i p time ups 1 (sBr O T B N a lim seen n i p time ups 0 x)) = y at s3 ⊢
    obtain ⟨t1, _, t3⟩ := s3
    refine ⟨t1, ?_⟩
    rcases t3 with ⟨q1, q2, q3, q4, q5, q6⟩ | q
    · refine Or.inl ⟨q1, q2, q3, q4, fun k h1 h2 => ?_⟩
      show _ = if k = i then _ else _
      by_cases hk : k = i
      · rw [if_pos hk, hk]; exact q5
      · rw [if_neg hk]; exact q6 k (by omega) h2
    · exact Or.inr q
