-- ===== contracts of the plain methods =====
abbrev CI (d M z : Nat) (m : XM) (as : List XV) (P : Int → XM → Prop) : Prop := RZ d M 0 (entryL M as) [] (zH z m) (qz z (qi P))
abbrev CL (d M z : Nat) (m : XM) (as : List XV) (P : Int → XM → Prop) : Prop := RZ d M 0 (entryL M as) [] (zH z m) (qz z (ql P))
abbrev CV (d M z : Nat) (m : XM) (as : List XV) (P : XM → Prop) : Prop := RZ d M 0 (entryL M as) [] (zH z m) (qz z (qv P))
theorem CI.imp {d M z : Nat} {m : XM} {as : List XV} {P P' : Int → XM → Prop} (h : CI d M z m as P) (k : ∀ x m', P x m' → P' x m') : CI d M z m as P' :=
  RZ.mono h fun _ _ ⟨m', e, x, e2, hp⟩ => ⟨m', e, x, e2, k x m' hp⟩
theorem CL.imp {d M z : Nat} {m : XM} {as : List XV} {P P' : Int → XM → Prop} (h : CL d M z m as P) (k : ∀ x m', P x m' → P' x m') : CL d M z m as P' :=
  RZ.mono h fun _ _ ⟨m', e, x, e2, hp⟩ => ⟨m', e, x, e2, k x m' hp⟩
theorem CV.imp {d M z : Nat} {m : XM} {as : List XV} {P P' : XM → Prop} (h : CV d M z m as P) (k : ∀ m', P m' → P' m') : CV d M z m as P' :=
  RZ.mono h fun _ _ ⟨m', e, e2, hp⟩ => ⟨m', e, e2, k m' hp⟩
/-- a whole cell is put -/
def upC (m : XM) (c : Nat) (f : Int → Int) : XM := fun x => if x = c then f else m x
theorem up2_C (m : XM) (c : Nat) (k v : Int) : up2 m c k v = upC m c (upi (m c) k v) := rfl
theorem upc_C (m : XM) (s : Nat) (sp : Int) (d : Nat) (dp n : Int) : upc m s sp d dp n = upC m d (fun y => if dp ≤ y ∧ y < dp + n then m s (sp + (y - dp)) else m d y) := rfl
theorem upC_s (m : XM) (c : Nat) (f : Int → Int) : upC m c f c = f := if_pos rfl
theorem upC_n {m : XM} {c x : Nat} {f : Int → Int} (h : x ≠ c) : upC m c f x = m x := if_neg h
theorem upC_upC (m : XM) (c : Nat) (f g : Int → Int) : upC (upC m c f) c g = upC m c g := by
  funext x; unfold upC; by_cases h : x = c
  · rw [if_pos h, if_pos h]
  · rw [if_neg h, if_neg h, if_neg h]
theorem upC_id (m : XM) (c : Nat) : upC m c (m c) = m := by
  funext x; unfold upC; by_cases h : x = c
  · rw [if_pos h, h]
  · rw [if_neg h]
theorem upi_s (f : Int → Int) (k v : Int) : upi f k v k = v := if_pos rfl
theorem upi_n {f : Int → Int} {k v y : Int} (h : y ≠ k) : upi f k v y = f y := if_neg h
theorem upi_at (f : Int → Int) (k v y : Int) : upi f k v y = if y = k then v else f y := rfl
theorem up2_s (m : XM) (c : Nat) (k v : Int) : up2 m c k v c k = v := by rw [up2_C, upC_s, upi_s]
theorem up2_k {m : XM} {c : Nat} {k v y : Int} (h : y ≠ k) : up2 m c k v c y = m c y := by rw [up2_C, upC_s, upi_n h]
theorem up2_c {m : XM} {c x : Nat} {k v : Int} (h : x ≠ c) : up2 m c k v x = m x := upC_n h
/-- the reference's row of numbers -/
def okS (s : Int → Int) : Prop :=
  ((0 ≤ s 0 ∧ s 0 ≤ 7) ∧ (0 ≤ s 1 ∧ s 1 ≤ 5) ∧ (0 ≤ s 2 ∧ s 2 ≤ 5) ∧ (0 ≤ s 3 ∧ s 3 ≤ 7) ∧ (0 ≤ s 4 ∧ s 4 ≤ 8) ∧ (0 ≤ s 5 ∧ s 5 ≤ 100) ∧ s 6 = s 2 - 1 ∧ (0 ≤ s 7 ∧ s 7 ≤ 9999)) ∧
  (∀ g, 0 ≤ g → g < 7 → (0 ≤ s (8 + g) ∧ s (8 + g) ≤ 6) ∧ (0 ≤ s (15 + g) ∧ s (15 + g) ≤ 9) ∧ (0 ≤ s (22 + g) ∧ s (22 + g) ≤ 9) ∧ (0 ≤ s (29 + g) ∧ s (29 + g) ≤ 2)) ∧
  (∀ k, 0 ≤ k → k < 28 → (0 ≤ s (36 + k) ∧ s (36 + k) ≤ 9) ∧ (4 * s 0 ≤ k → s (36 + k) = 0)) ∧
  (∀ p, 0 ≤ p → p < 5 → 0 ≤ s (64 + p) ∧ s (64 + p) ≤ 9) ∧
  (∀ k, 0 ≤ k → k < 7 → (0 ≤ s (69 + k) ∧ (k < s 3 → s (69 + k) < s 0)) ∧ (0 ≤ s (76 + k) ∧ s (76 + k) ≤ 9999)) ∧
  (∀ k, 0 ≤ k → k < 8 → (0 ≤ s (83 + k) ∧ (k < s 4 → s (83 + k) < s 1)) ∧ (0 ≤ s (91 + k) ∧ s (91 + k) ≤ 9999)) ∧
  (∀ i, 0 ≤ i → i < 100 → 0 ≤ s (99 + i) ∧ s (99 + i) ≤ 127) ∧
  (∀ a, 0 ≤ a → a < 5 → (0 ≤ s (199 + a) ∧ s (199 + a) ≤ 99) ∧ (0 ≤ s (204 + a) ∧ s (204 + a) ≤ 99) ∧ (0 ≤ s (209 + a) ∧ s (209 + a) ≤ 140))
