-- ===== the answers, by definition =====
abbrev MINL : Int := -9223372036854775808
/-- from lo on, n times -/
def foldI {α : Type} (f : Int → α → α) (lo : Int) : Nat → α → α
  | 0, x => x
  | n + 1, x => f (lo + n) (foldI f lo n x)
def sk (s : Int → Int) (k : Int) : Prop := 0 ≤ k ∧ k < s 1
def gt (s : Int → Int) (g : Int) : Prop := 0 ≤ g ∧ g < s 0
def qT (s : Int → Int) (cl : CLs) (k : Int) (l : Int → Int) (n : Nat) : Int := rnT (eT s cl k (s 7) 1) (eB s cl k (s 7)) l n
def qP (s : Int → Int) (cl : CLs) (k : Int) (l : Int → Int) (n : Nat) : Int := rnP (eB s cl k (s 7)) l n
def qZ (s : Int → Int) (cl : CLs) (k : Int) (l : Int → Int) (n : Nat) : Int := rnZ (eO s cl k (s 7)) (eB s cl k (s 7)) l n
def qU (s : Int → Int) (cl : CLs) (k : Int) (l : Int → Int) (n : Nat) : Int := rnU (eO s cl k (s 7)) (eB s cl k (s 7)) l n
def qTk (s : Int → Int) (cl : CLs) (k : Int) (l : Int → Int) (i : Int) : Int := eT s cl k (s 7) 1 i (qP s cl k l i.toNat) (l i)
def qOv (s : Int → Int) (cl : CLs) (k : Int) (l : Int → Int) (i : Int) : Int := eO s cl k (s 7) i (qP s cl k l i.toNat) (l i)
/-- the class's state is right -/
def CpC (m : XM) (s : Int → Int) (cl : CLs) : Prop := okS s ∧ RepB m s 33 ∧ ClB m 33 cl ∧ m 90 3 = 0 ∧ m 103 3 = 0
/-- what queries of the class may change -/
def KC (m m' : XM) : Prop := (∀ c, ¬ (85 ≤ c ∧ c ≤ 117) → c ≠ 48 → c ≠ 120 → m' c = m c) ∧ m' 90 3 = m 90 3 ∧ m' 103 3 = m 103 3
theorem KC.refl (m : XM) : KC m m := ⟨fun _ _ _ _ => rfl, rfl, rfl⟩
theorem KC.trans {a b c : XM} (h1 : KC a b) (h2 : KC b c) : KC a c := ⟨fun x x1 x2 x3 => (h2.1 x x1 x2 x3).trans (h1.1 x x1 x2 x3), h2.2.1.trans h1.2.1, h2.2.2.trans h1.2.2⟩
theorem CpC_K {m m' : XM} {s : Int → Int} {cl : CLs} (h : KC m m') (hC : CpC m s cl) : CpC m' s cl := by
  obtain ⟨h1, h2, h3, h4, h5⟩ := hC
  exact ⟨h1, RepB_cong (fun x a b c => h.1 x (by omega) (by omega) (by omega)) h2, ClB_cong (fun x a b => h.1 x (by omega) (by omega) (by omega)) h3, by rw [h.2.1]; exact h4, by rw [h.2.2]; exact h5⟩
theorem c_Fg_outside (d z : Nat) (m : XM) (v lo hi : Int) : CI d k_Fg_outside z m [vI v, vI lo, vI hi] (fun x m' => m' = m ∧ ((x = 1 ∧ ¬ (lo ≤ v ∧ v ≤ hi)) ∨ (x = 0 ∧ lo ≤ v ∧ v ≤ hi))) := by
  refine r_entry mx106 rfl ?_
  refine r_loadI a106_0 rfl ?_
  refine r_loadI a106_1 rfl ?_
  refine r_iclt a106_2 (fun h_2 => ?_) (fun h_2 => ?_)
  · refine r_pushI a106_10 ?_
    refine r_goto a106_11 ?_
    refine r_retZq a106_15 (by omega) ?_
    exact ⟨rfl, by omega⟩
  · refine r_loadI a106_5 rfl ?_
    refine r_loadI a106_6 rfl ?_
    refine r_icle a106_7 (fun h_7 => ?_) (fun h_7 => ?_)
    · refine r_pushI a106_14 ?_
      refine r_retZq a106_15 (by omega) ?_
      exact ⟨rfl, by omega⟩
    · refine r_pushI a106_10 ?_
      refine r_goto a106_11 ?_
      refine r_retZq a106_15 (by omega) ?_
      exact ⟨rfl, by omega⟩
