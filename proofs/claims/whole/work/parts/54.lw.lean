-- ===== parts in lowest terms =====
def lowQ (a b p : Int) : Int := (if p = 0 then a else b) / (Nat.gcd a.toNat b.toNat : Int)
theorem lowQ_n (a b : Nat) (p : Int) : lowQ a b p = (if p = 0 then (a : Int) else b) / (Nat.gcd a b : Int) := by
  unfold lowQ; rw [Int.toNat_natCast, Int.toNat_natCast]
theorem gcd_step (x y : Nat) : Nat.gcd y (x % y) = Nat.gcd x y := by
  rw [Nat.gcd_comm x y, Nat.gcd_rec y x, Nat.gcd_comm]
theorem c_Mo_lowest (d z : Nat) (m : XM) (a b : Nat) (p : Int) (ha : (a : Int) < 9223372036854775808) (hb : 0 < b ∧ (b : Int) < 9223372036854775808) :
    CL d k_Mo_lowest z m [vL a, vL b, vI p] (fun x m' => m' = m ∧ x = lowQ a b p) := by
  have gp : 0 < Nat.gcd a b := Nat.gcd_pos_of_pos_right a hb.1
  have loop : ∀ (f x y : Nat) (y9 y10 : XV), y ≤ f → (x : Int) < 9223372036854775808 → (y : Int) < 9223372036854775808 → Nat.gcd x y = Nat.gcd a b →
      RZ d k_Mo_lowest 6 [vL a, vR 0, vL b, vR 0, vI p, vL x, vR 0, vL y, vR 0, y9, y10] [] (zH z m) (qz z (ql fun x m' => m' = m ∧ x = lowQ a b p)) := by
    intro f
    induction f with
    | zero =>
      intro x y y9 y10 hy hx hy2 hg
      obtain rfl : y = 0 := by omega
      rw [Nat.gcd_zero_right] at hg
      have hc := lCmp_le (a := ((0 : Nat) : Int)) (b := 0)
      refine r_loadL a158_6 rfl ?_
      refine r_pushL a158_8 ?_
      refine r_lcmp a158_9 ?_
      refine r_ifeq a158_10 (fun h_10 => ?_) (fun h_10 => ?_)
      · refine r_loadI a158_31 rfl ?_
        refine r_ifne a158_33 (fun h_33 => ?_) (fun h_33 => ?_)
        · refine r_loadL a158_40 rfl ?_
          refine r_loadL a158_41 rfl ?_
          refine r_ldiv a158_43 (by omega) ?_
          refine r_retLq a158_44 ?_
          refine ⟨rfl, ?_⟩
          rw [lowQ_n, ← hg]
          first
            | rw [if_pos (by omega)]
            | rw [if_neg (by omega)]
        · refine r_loadL a158_36 rfl ?_
          refine r_goto a158_37 ?_
          refine r_loadL a158_41 rfl ?_
          refine r_ldiv a158_43 (by omega) ?_
          refine r_retLq a158_44 ?_
          refine ⟨rfl, ?_⟩
          rw [lowQ_n, ← hg]
          first
            | rw [if_pos (by omega)]
            | rw [if_neg (by omega)]
      · exfalso
        omega
    | succ f ih =>
      intro x y y9 y10 hy hx hy2 hg
      have hc := lCmp_le (a := (y : Int)) (b := 0)
      have hx0 : y = 0 → x = Nat.gcd a b := fun q => by rw [q, Nat.gcd_zero_right] at hg; exact hg
      refine r_loadL a158_6 rfl ?_
      refine r_pushL a158_8 ?_
      refine r_lcmp a158_9 ?_
      refine r_ifeq a158_10 (fun h_10 => ?_) (fun h_10 => ?_)
      · have hx1 := hx0 (by omega)
        refine r_loadI a158_31 rfl ?_
        refine r_ifne a158_33 (fun h_33 => ?_) (fun h_33 => ?_)
        · refine r_loadL a158_40 rfl ?_
          refine r_loadL a158_41 rfl ?_
          refine r_ldiv a158_43 (by omega) ?_
          refine r_retLq a158_44 ?_
          refine ⟨rfl, ?_⟩
          rw [lowQ_n, ← hx1]
          first
            | rw [if_pos (by omega)]
            | rw [if_neg (by omega)]
        · refine r_loadL a158_36 rfl ?_
          refine r_goto a158_37 ?_
          refine r_loadL a158_41 rfl ?_
          refine r_ldiv a158_43 (by omega) ?_
          refine r_retLq a158_44 ?_
          refine ⟨rfl, ?_⟩
          rw [lowQ_n, ← hx1]
          first
            | rw [if_pos (by omega)]
            | rw [if_neg (by omega)]
      · refine r_loadL a158_13 rfl ?_
        refine r_loadL a158_15 rfl ?_
        refine r_lrem a158_17 (by omega) ?_
        refine r_storeL_9 a158_18 rfl ?_
        refine r_loadL a158_20 rfl ?_
        refine r_storeL_5 a158_22 rfl ?_
        refine r_loadL a158_24 rfl ?_
        refine r_storeL_7 a158_26 rfl ?_
        refine r_goto a158_28 ?_
        have hy0 : 0 < y := by omega
        have hm := Nat.mod_lt x hy0
        have em : (x : Int) % (y : Int) = ((x % y : Nat) : Int) := (Int.natCast_emod x y).symm
        rw [em]
        exact ih y (x % y) _ _ (by omega) hy2 (by omega) (by rw [gcd_step]; exact hg)
  refine r_entry mx158 rfl ?_
  refine r_loadL a158_0 rfl ?_
  refine r_storeL_5 a158_1 rfl ?_
  refine r_loadL a158_3 rfl ?_
  refine r_storeL_7 a158_4 rfl ?_
  exact loop b a b _ _ (Nat.le_refl _) ha hb.2 rfl
theorem half_lt (x y f : Nat) (hx : x < y) (hy : y < 2 ^ (f + 1)) : x = 0 ∨ y % x < 2 ^ f := by
  have e : 2 ^ (f + 1) = 2 * 2 ^ f := by rw [Nat.pow_succ]; omega
  by_cases h0 : x = 0
  · exact Or.inl h0
  · right
    have hm := Nat.mod_lt y (Nat.pos_of_ne_zero h0)
    by_cases h : x ≤ 2 ^ f
    · omega
    · have h1 : y % x = y - x := by rw [Nat.mod_eq_sub_mod (by omega), Nat.mod_eq_of_lt (by omega)]
      omega
theorem c_Fg_lowest (d z : Nat) (m : XM) (a b : Nat) (p : Int) (ha : (a : Int) < 9223372036854775808) (hb : 0 < b ∧ (b : Int) < 9223372036854775808) :
    CL d k_Fg_lowest z m [vL a, vL b, vI p] (fun x m' => m' = m ∧ x = lowQ a b p) := by
  have gp : 0 < Nat.gcd a b := Nat.gcd_pos_of_pos_right a hb.1
  have fin : ∀ (x y : Nat) (j : Int) (y10 y11 : XV), x = Nat.gcd a b → (x : Int) < 9223372036854775808 →
      RZ d k_Fg_lowest 45 [vL a, vR 0, vL b, vR 0, vI p, vL x, vR 0, vL y, vR 0, vI j, y10, y11] [] (zH z m) (qz z (ql fun x m' => m' = m ∧ x = lowQ a b p)) := by
    intro x y j y10 y11 hg hx
    have hc := lCmp_le (a := (x : Int)) (b := 0)
    refine r_loadL a117_45 rfl ?_
    refine r_pushL a117_47 ?_
    refine r_lcmp a117_48 ?_
    refine r_ifne a117_49 (fun h_49 => ?_) (fun h_49 => ?_)
    · refine r_loadI a117_56 rfl ?_
      refine r_ifne a117_58 (fun h_58 => ?_) (fun h_58 => ?_)
      · refine r_loadL a117_68 rfl ?_
        refine r_loadL a117_69 rfl ?_
        refine r_ldiv a117_71 (by omega) ?_
        refine r_retLq a117_72 ?_
        refine ⟨rfl, ?_⟩
        rw [lowQ_n, ← hg]
        first
          | rw [if_pos (by omega)]
          | rw [if_neg (by omega)]
      · refine r_loadL a117_61 rfl ?_
        refine r_loadL a117_62 rfl ?_
        refine r_ldiv a117_64 (by omega) ?_
        refine r_goto a117_65 ?_
        refine r_retLq a117_72 ?_
        refine ⟨rfl, ?_⟩
        rw [lowQ_n, ← hg]
        first
          | rw [if_pos (by omega)]
          | rw [if_neg (by omega)]
    · exfalso
      omega
  have step : ∀ (x y : Nat) (j : Int) (y10 y11 : XV), 0 ≤ j → j < 200 → (x : Int) < 9223372036854775808 → (y : Int) < 9223372036854775808 → Nat.gcd x y = Nat.gcd a b →
      (0 < y → ∀ y10 y11, RZ d k_Fg_lowest 9 [vL a, vR 0, vL b, vR 0, vI p, vL (y : Int), vR 0, vL ((x % y : Nat) : Int), vR 0, vI (j + 1), y10, y11] [] (zH z m) (qz z (ql fun x m' => m' = m ∧ x = lowQ a b p))) →
      RZ d k_Fg_lowest 9 [vL a, vR 0, vL b, vR 0, vI p, vL x, vR 0, vL y, vR 0, vI j, y10, y11] [] (zH z m) (qz z (ql fun x m' => m' = m ∧ x = lowQ a b p)) := by
    intro x y j y10 y11 hj1 hj2 hx hy hg kk
    have hc := lCmp_le (a := (y : Int)) (b := 0)
    refine r_loadI a117_9 rfl ?_
    refine r_pushI a117_11 ?_
    refine r_icge a117_14 (fun h_14 => ?_) (fun h_14 => ?_)
    · exfalso
      omega
    · refine r_loadL a117_17 rfl ?_
      refine r_pushL a117_19 ?_
      refine r_lcmp a117_20 ?_
      refine r_ifeq a117_21 (fun h_21 => ?_) (fun h_21 => ?_)
      · refine fin x y j _ _ ?_ hx
        have hy0 : y = 0 := by omega
        rw [hy0, Nat.gcd_zero_right] at hg
        exact hg
      · refine r_loadL a117_24 rfl ?_
        refine r_loadL a117_26 rfl ?_
        refine r_lrem a117_28 (by omega) ?_
        refine r_storeL_10 a117_29 rfl ?_
        refine r_loadL a117_31 rfl ?_
        refine r_storeL_5 a117_33 rfl ?_
        refine r_loadL a117_35 rfl ?_
        refine r_storeL_7 a117_37 rfl ?_
        refine r_iinc_9 a117_39 rfl (by omega) ?_
        refine r_goto a117_42 ?_
        have em : (x : Int) % (y : Int) = ((x % y : Nat) : Int) := (Int.natCast_emod x y).symm
        rw [em]
        exact kk (by omega) _ _
  have loop : ∀ (f x y : Nat) (j : Int) (y10 y11 : XV), 0 ≤ j → j + 2 * f + 1 ≤ 200 → y < 2 ^ f → (x : Int) < 9223372036854775808 → (y : Int) < 9223372036854775808 → Nat.gcd x y = Nat.gcd a b →
      RZ d k_Fg_lowest 9 [vL a, vR 0, vL b, vR 0, vI p, vL x, vR 0, vL y, vR 0, vI j, y10, y11] [] (zH z m) (qz z (ql fun x m' => m' = m ∧ x = lowQ a b p)) := by
    intro f
    induction f with
    | zero =>
      intro x y j y10 y11 j1 j2 hf hx hy hg
      have h1 : (2 : Nat) ^ 0 = 1 := rfl
      exact step x y j _ _ j1 (by omega) hx hy hg (fun q => by exfalso; omega)
    | succ f ih =>
      intro x y j y10 y11 j1 j2 hf hx hy hg
      push_cast at j2
      refine step x y j _ _ j1 (by omega) hx hy hg (fun q _ _ => ?_)
      have hm := Nat.mod_lt x q
      refine step y (x % y) (j + 1) _ _ (by omega) (by omega) hy (by omega) (by rw [gcd_step]; exact hg) (fun q2 _ _ => ?_)
      have hm2 := Nat.mod_lt y q2
      have hh := half_lt (x % y) y f hm hf
      refine ih (x % y) (y % (x % y)) (j + 1 + 1) _ _ (by omega) (by omega) ?_ (by omega) (by omega) (by rw [gcd_step, gcd_step]; exact hg)
      rcases hh with h | h
      · omega
      · exact h
  refine r_entry mx117 rfl ?_
  refine r_loadL a117_0 rfl ?_
  refine r_storeL_5 a117_1 rfl ?_
  refine r_loadL a117_3 rfl ?_
  refine r_storeL_7 a117_4 rfl ?_
  refine r_pushI a117_6 ?_
  refine r_storeI_9 a117_7 rfl ?_
  refine loop 63 b a 0 _ _ (by omega) (by omega) ?_ hb.2 ha (Nat.gcd_comm b a)
  have : (2 : Nat) ^ 63 = 9223372036854775808 := by decide
  omega
theorem c_Mo_power (d z : Nat) (m : XM) (N : Int) (hN : 0 ≤ N ∧ N ≤ 7) : CL d k_Mo_power z m [vI N] (fun x m' => m' = m ∧ x = p20 N.toNat) := by
  have loop : ∀ (c i : Nat), (i : Int) + c = N → RZ d k_Mo_power 4 [vI N, vL (p20 i), vR 0, vI (i : Int)] [] (zH z m) (qz z (ql fun x m' => m' = m ∧ x = p20 N.toNat)) := by
    intro c
    induction c with
    | zero =>
      intro i hi
      have e : N.toNat = i := by omega
      refine r_loadI a157_4 rfl ?_
      refine r_loadI a157_5 rfl ?_
      refine r_icge a157_6 (fun h_6 => ?_) (fun h_6 => ?_)
      · refine r_loadL a157_21 rfl ?_
        refine r_retLq a157_22 ?_
        exact ⟨rfl, by rw [e]⟩
      · exfalso
        omega
    | succ c ih =>
      intro i hi
      have h1 := p20_le i (by omega)
      have h2 := p20_pos i
      refine r_loadI a157_4 rfl ?_
      refine r_loadI a157_5 rfl ?_
      refine r_icge a157_6 (fun h_6 => ?_) (fun h_6 => ?_)
      · exfalso
        omega
      · refine r_loadL a157_9 rfl ?_
        refine r_pushL a157_10 ?_
        refine r_lmul a157_13 (by omega) ?_
        refine r_storeL_1 a157_14 rfl ?_
        refine r_iinc_3 a157_15 rfl (by omega) ?_
        refine r_goto a157_18 ?_
        have e : p20 i * 20 = p20 (i + 1) := by show _ = 20 * p20 i; omega
        rw [e]
        exact ih (i + 1) (by push_cast; omega)
  refine r_entry mx157 rfl ?_
  refine r_pushL a157_0 ?_
  refine r_storeL_1 a157_1 rfl ?_
  refine r_pushI a157_2 ?_
  refine r_storeI_3 a157_3 rfl ?_
  exact loop N.toNat 0 (by omega)
/-- the numbers of twenties -/
theorem zTab3 : ∀ i : Nat, i < 8 → zTab 3 i = p20 i := by
  intro i h
  have : i = 0 ∨ i = 1 ∨ i = 2 ∨ i = 3 ∨ i = 4 ∨ i = 5 ∨ i = 6 ∨ i = 7 := by omega
  rcases this with h | h | h | h | h | h | h | h <;> subst h <;> decide
theorem zTab3i {N : Int} (h : 0 ≤ N ∧ N ≤ 7) : zTab 3 N = p20 N.toNat := by
  have := zTab3 N.toNat (by omega)
  rw [Int.toNat_of_nonneg h.1] at this
  exact this
