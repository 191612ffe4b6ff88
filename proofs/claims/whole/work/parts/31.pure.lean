-- ===== a search for the surest line that is in vain =====
theorem stp_le (x : Int × Int) (v : Int) (ok : Prop) [Decidable ok] (c : Int) : (stp x v ok c).1 ≤ x.1 ∧ (ok → (stp x v ok c).1 ≤ v) := by
  unfold stp
  split
  · rename_i h; exact ⟨by show v ≤ _; omega, fun _ => Int.le_refl _⟩
  · rename_i h; exact ⟨Int.le_refl _, fun q => by
      by_cases h2 : v < x.1
      · exact absurd ⟨h2, q⟩ h
      · omega⟩
theorem LC_le (O T B : Int → Int → Int → Int) (n : Nat) (i p c : Int) (hc : c = 0 ∨ c = 1 ∨ c = 2) :
    (LC O T B ((0 : Int) = 1) (n + 1) i p).1 ≤ T i p c + (LC O T B ((0 : Int) = 1) n (i + 1) (B i p c)).1 := by
  have nf : ∀ q : Prop, ¬ ((0 : Int) = 1 ∧ q) := fun q h => absurd h.1 (by decide)
  show (stp (stp (stp (100000000, 0) _ _ 0) _ _ 1) _ _ 2).1 ≤ _
  rcases hc with h | h | h <;> rw [h]
  · exact Int.le_trans (stp_le _ _ _ _).1 (Int.le_trans (stp_le _ _ _ _).1 ((stp_le _ _ _ _).2 (nf _)))
  · exact Int.le_trans (stp_le _ _ _ _).1 ((stp_le _ _ _ _).2 (nf _))
  · exact (stp_le _ _ _ _).2 (nf _)
def p20 : Nat → Int
  | 0 => 1
  | n + 1 => 20 * p20 n
theorem p20_pos (n : Nat) : 1 ≤ p20 n := by
  induction n with
  | zero => exact Int.le_refl _
  | succ n ih => show 1 ≤ 20 * p20 n; omega
/-- nothing is kept -/
def idle (i : Int) (x y : SS) : Prop := (∀ k, k < i → sTr y k = sTr x k) ∧ sBe y = sBe x ∧ sLt y = sLt x ∧ sMu y = sMu x ∧ sMa y = sMa x
theorem sGo_idle (O T B : Int → Int → Int → Int) (N lim : Int) (seen : Int → Int → Prop) [∀ i t, Decidable (seen i t)]
    (hO : ∀ i p c, 0 ≤ O i p c ∧ O i p c ≤ 20) :
    ∀ (n : Nat) (i p time ups : Int) (x : SS), 0 ≤ ups →
      (time + (LC O T B ((0 : Int) = 1) n i p).1 > lim ∨ ups * p20 n ≤ sMu x) →
      idle i x (sGo O T B N 2 lim seen n i p time ups x) := by
  intro n
  induction n with
  | zero =>
    intro i p time ups x h0 h
    have e : sGo O T B N 2 lim seen 0 i p time ups x = x := by
      show sEnd N 2 lim time ups x = x
      unfold sEnd
      rw [if_pos rfl, if_neg]
      intro ⟨h1, h2⟩
      rcases h with h | h
      · have h' : time + 0 > lim := h
        omega
      · have h' : ups * 1 ≤ sMu x := h
        omega
    rw [e]; exact ⟨fun _ _ => rfl, rfl, rfl, rfl, rfl⟩
  | succ n ih =>
    intro i p time ups x h0 h
    have br : ∀ (c : Int) (y : SS), (c = 0 ∨ c = 1 ∨ c = 2) → idle i x y → idle i x (sBr O T B N 2 lim seen n i p time ups c y) := by
      intro c y hc ⟨i1, i2, i3, i4, i5⟩
      have e : sBr O T B N 2 lim seen n i p time ups c y = sGo O T B N 2 lim seen n (i + 1) (B i p c) (time + T i p c) (ups * (20 - O i p c)) (sTry i c y) := by
        unfold sBr; rw [if_neg (by omega)]
      have hOc := hO i p c
      have u0 : 0 ≤ ups * (20 - O i p c) := Int.mul_nonneg h0 (by omega)
      have g := ih (i + 1) (B i p c) (time + T i p c) (ups * (20 - O i p c)) (sTry i c y) u0 (by
        rcases h with h | h
        · left
          have := LC_le O T B n i p c hc
          omega
        · right
          have e1 : ups * (20 - O i p c) ≤ ups * 20 := Int.mul_le_mul_of_nonneg_left (by omega) h0
          have e2 : ups * (20 - O i p c) * p20 n ≤ ups * 20 * p20 n := Int.mul_le_mul_of_nonneg_right e1 (by have := p20_pos n; omega)
          have e3 : ups * p20 (n + 1) = ups * 20 * p20 n := by show ups * (20 * p20 n) = _; rw [Int.mul_assoc]
          show _ ≤ sMu y
          rw [i4]; omega)
      rw [e]
      obtain ⟨g1, g2, g3, g4, g5⟩ := g
      refine ⟨fun k hk => ?_, by rw [g2]; exact i2, by rw [g3]; exact i3, by rw [g4]; exact i4, by rw [g5]; exact i5⟩
      rw [g1 k (by omega)]
      show upi (sTr y) i c k = _
      unfold upi; rw [if_neg (by omega)]; exact i1 k hk
    rw [sGo_succ]
    exact br 2 _ (Or.inr (Or.inr rfl)) (br 1 _ (Or.inr (Or.inl rfl)) (br 0 _ (Or.inl rfl) ⟨fun _ _ => rfl, rfl, rfl, rfl, rfl⟩))
