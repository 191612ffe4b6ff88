-- ===== the class: its answers, by loops =====
theorem foldI_s {α : Type} (f : Int → α → α) (lo : Int) (n : Nat) (x : α) : foldI f lo (n + 1) x = f (lo + n) (foldI f lo n x) := rfl
/-- the first number from lo on, of n, that holds; else v -/
def firstI (f : Int → Bool) (v : Int) : Nat → Int → Int
  | 0, _ => v
  | n + 1, i => if f i = true then i else firstI f v n (i + 1)
def othQ (s : Int → Int) (cl : CLs) (k n : Int) : Nat → Bool
  | 0 => false
  | j + 1 => othQ s cl k n j || decide (lQ s cl k n 1 j ≠ lQ s cl k 0 1 j)
theorem othQ_iff (s : Int → Int) (cl : CLs) (k n : Int) : ∀ j : Nat, (othQ s cl k n j = true ↔ ∃ i, 0 ≤ i ∧ i < (j : Int) ∧ lQ s cl k n 1 i ≠ lQ s cl k 0 1 i) := by
  intro j
  induction j with
  | zero => exact ⟨fun h => absurd (show false = true from h) (by decide), fun ⟨i, a, b, _⟩ => by exfalso; have : i < ((0 : Nat) : Int) := b; omega⟩
  | succ j ih =>
    show (othQ s cl k n j || decide (lQ s cl k n 1 j ≠ lQ s cl k 0 1 j)) = true ↔ _
    rw [Bool.or_eq_true, ih, decide_eq_true_iff]
    constructor
    · rintro (⟨i, a, b, c⟩ | h)
      · exact ⟨i, a, by push_cast; omega, c⟩
      · exact ⟨j, by omega, by push_cast; omega, h⟩
    · rintro ⟨i, a, b, c⟩
      push_cast at b
      by_cases e : i = j
      · right; rw [← e]; exact c
      · left; exact ⟨i, a, by omega, c⟩
def aRutted (s : Int → Int) (cl : CLs) (k : Int) : Int := if ¬ sk s k then -1 else firstI (fun n => othQ s cl k n (s 0).toNat) (-5) 99 1
theorem c_Fg_rutted (d z : Nat) (m : XM) (s : Int → Int) (cl : CLs) (k : Int) (hd : 8 ≤ d) (hC : CpC m s cl) :
    CI d k_Fg_rutted z m [vR 32, vI k] (fun x m' => KC m m' ∧ x = aRutted s cl k) := by
  obtain ⟨e, rfl⟩ : ∃ e, d = e + 1 := ⟨d - 1, by omega⟩
  have hN := hC.1.1.1
  have loop : ∀ (c : Nat) (n : Int) (m1 : XM), sk s k → n + c = 100 → 1 ≤ n → KC m m1 → (∀ i, 0 ≤ i → i < s 0 → m1 95 i = lQ s cl k 0 1 i) → firstI (fun n => othQ s cl k n (s 0).toNat) (-5) c n = aRutted s cl k →
      RZ (e + 1) k_Fg_rutted 42 [vR 32, vI k, vI n] [] (zH z m1) (qz z (qi fun x m' => KC m m' ∧ x = aRutted s cl k)) := by
    intro c
    induction c with
    | zero =>
      intro n m1 hk hn h1 kc hb hf
      refine r_loadI a83_42 rfl ?_
      refine r_pushI a83_43 ?_
      refine r_icgt a83_45 (fun h_45 => ?_) (fun h_45 => ?_)
      · refine r_pushI a83_100 ?_
        refine r_retIq a83_102 ?_
        exact ⟨kc, hf⟩
      · exfalso
        omega
    | succ c ih =>
      intro n m1 hk hn h1 kc hb hf
      have hC1 := CpC_K kc hC
      refine r_loadI a83_42 rfl ?_
      refine r_pushI a83_43 ?_
      refine r_icgt a83_45 (fun h_45 => ?_) (fun h_45 => ?_)
      · exfalso
        omega
      · refine r_loadA a83_48 rfl (by decide) ?_
        refine r_getR a83_49 ty32 rf32_5 (by decide) ?_
        refine r_loadA a83_52 rfl (by decide) ?_
        refine r_getR a83_53 ty32 rf32_0 (by decide) ?_
        refine r_loadI a83_56 rfl ?_
        refine r_loadI a83_57 rfl ?_
        refine r_pushI a83_58 ?_
        refine r_callV_5 a83_59 (Nat.le_of_ble_eq_true rfl) (le_mx mx25 (Nat.le_of_ble_eq_true rfl)) (Or.inr (recv_ok ty98 ow25 (by decide))) (c_Pa_ready_98 e z m1 s cl k n 1 (by omega) hC1 hk (by omega) (by omega)) (fun m_59 h_59 => ?_)
        obtain ⟨f1, q1⟩ := h_59
        have hC2 := CpC_K (FrT_98 f1) hC1
        refine r_loadA a83_62 rfl (by decide) ?_
        refine r_getR a83_63 ty32 rf32_5 (by decide) ?_
        refine r_pushI a83_66 ?_
        refine r_callI_2 a83_67 (Nat.le_of_ble_eq_true rfl) (le_mx mx38 (Nat.le_of_ble_eq_true rfl)) (Or.inr (recv_ok ty98 ow38 (by decide))) (c_Pa_least_98 e z m_59 s cl k n 1 0 (by omega) hC2 (by omega) (by omega) q1) (fun x_67 m_67 h_67 => ?_)
        obtain ⟨f2, q2, q3, _⟩ := h_67
        have hC3 := CpC_K (FrT_98 f2) hC2
        refine r_pop a83_70 rfl ?_
        refine r_loadA a83_71 rfl (by decide) ?_
        refine r_getR a83_72 ty32 rf32_5 (by decide) ?_
        refine r_callV_1 a83_75 (Nat.le_of_ble_eq_true rfl) (le_mx mx40 (Nat.le_of_ble_eq_true rfl)) (Or.inr (recv_ok ty98 ow40 (by decide))) (c_Pa_best_98 e z m_67 s cl k n 1 0 (by omega) hC3 (by omega) q2 q3) (fun m_75 h_75 => ?_)
        obtain ⟨f3, q4, q5, _⟩ := h_75
        have q5' : ∀ i, 0 ≤ i → i < s 0 → m_75 108 i = lQ s cl k n 1 i := q5
        have e95 : m_75 95 = m1 95 := by rw [f3.1 95 (by decide) (by decide), f2.1 95 (by decide) (by decide), f1.1 95 (by decide) (by decide)]
        have kc2 : KC m m_75 := KC.trans kc (KC.trans (FrT_98 f1) (KC.trans (FrT_98 f2) (FrB_98 f3)))
        have ho := othQ_iff s cl k n (s 0).toNat
        refine r_loadA a83_78 rfl (by decide) ?_
        refine r_getR a83_79 ty32 rf32_5 (by decide) ?_
        refine r_loadA a83_82 rfl (by decide) ?_
        refine r_getR a83_83 ty32 rf32_4 (by decide) ?_
        refine r_callI_2 a83_86 (Nat.le_of_ble_eq_true rfl) (le_mx mx42 (Nat.le_of_ble_eq_true rfl)) (Or.inr (recv_ok ty98 ow42 (by decide))) (c_Pa_hasRowOf e z m_75 (s 0) hN q4) (fun x_86 m_86 h_86 => ?_)
        obtain ⟨hm_86, h_86⟩ := h_86
        rw [hm_86]
        refine r_ifne a83_89 (fun h_89 => ?_) (fun h_89 => ?_)
        · refine r_iinc_2 a83_94 rfl (by omega) ?_
          refine r_goto a83_97 ?_
          refine ih (n + 1) m_75 hk (by omega) (by omega) kc2 (by rw [e95]; exact hb) ?_
          rw [← hf]
          show _ = if othQ s cl k n (s 0).toNat = true then n else firstI _ (-5) c (n + 1)
          rw [if_neg]
          intro q
          obtain ⟨i, i1, i2, i3⟩ := ho.1 q
          rcases h_86 with ⟨_, q2⟩ | ⟨q2, _⟩
          · apply i3
            have := q2 i i1 (by omega)
            rw [q5' i i1 (by omega), e95, hb i i1 (by omega)] at this
            exact this
          · omega
        · refine r_loadI a83_92 rfl ?_
          refine r_retIq a83_93 ?_
          refine ⟨kc2, ?_⟩
          rw [← hf]
          rcases h_86 with ⟨q, _⟩ | ⟨_, i, i1, i2, i3⟩
          · exfalso; omega
          · show n = if othQ s cl k n (s 0).toNat = true then n else _
            rw [if_pos (ho.2 ⟨i, i1, by omega, fun q => i3 (by rw [q5' i i1 i2, e95, hb i i1 i2]; exact q)⟩)]
  refine r_entry mx83 rfl ?_
  refine r_loadA a83_0 rfl (by decide) ?_
  refine r_loadI a83_1 rfl ?_
  refine r_callI_2 a83_2 (Nat.le_of_ble_eq_true rfl) (le_mx mx104 (Nat.le_of_ble_eq_true rfl)) (Or.inr (recv_ok ty32 ow104 (by decide))) (c_Fg_noSkier e z m s cl hC k) (fun x_2 m_2 h_2 => ?_)
  obtain ⟨hm_2, h_2⟩ := h_2
  rw [hm_2]
  refine r_ifeq a83_5 (fun h_5 => ?_) (fun h_5 => ?_)
  · refine r_loadA a83_10 rfl (by decide) ?_
    refine r_getR a83_11 ty32 rf32_4 (by decide) ?_
    refine r_loadA a83_14 rfl (by decide) ?_
    refine r_getR a83_15 ty32 rf32_0 (by decide) ?_
    refine r_loadI a83_18 rfl ?_
    refine r_pushI a83_19 ?_
    have hk := (skD h_2).1 (by omega)
    refine r_pushI a83_20 ?_
    refine r_callV_5 a83_21 (Nat.le_of_ble_eq_true rfl) (le_mx mx25 (Nat.le_of_ble_eq_true rfl)) (Or.inr (recv_ok ty85 ow25 (by decide))) (c_Pa_ready_85 e z m s cl k 0 1 (by omega) hC hk (by omega) (by omega)) (fun m_21 h_21 => ?_)
    obtain ⟨f1, q1⟩ := h_21
    have hC2 := CpC_K (FrT_85 f1) hC
    refine r_loadA a83_24 rfl (by decide) ?_
    refine r_getR a83_25 ty32 rf32_4 (by decide) ?_
    refine r_pushI a83_28 ?_
    refine r_callI_2 a83_29 (Nat.le_of_ble_eq_true rfl) (le_mx mx38 (Nat.le_of_ble_eq_true rfl)) (Or.inr (recv_ok ty85 ow38 (by decide))) (c_Pa_least_85 e z m_21 s cl k 0 1 0 (by omega) hC2 (by omega) (by omega) q1) (fun x_29 m_29 h_29 => ?_)
    obtain ⟨f2, q2, q3, _⟩ := h_29
    have hC3 := CpC_K (FrT_85 f2) hC2
    refine r_pop a83_32 rfl ?_
    refine r_loadA a83_33 rfl (by decide) ?_
    refine r_getR a83_34 ty32 rf32_4 (by decide) ?_
    refine r_callV_1 a83_37 (Nat.le_of_ble_eq_true rfl) (le_mx mx40 (Nat.le_of_ble_eq_true rfl)) (Or.inr (recv_ok ty85 ow40 (by decide))) (c_Pa_best_85 e z m_29 s cl k 0 1 0 (by omega) hC3 (by omega) q2 q3) (fun m_37 h_37 => ?_)
    refine r_pushI a83_40 ?_
    refine r_storeI_2 a83_41 rfl ?_
    obtain ⟨f3, q4, q5, _⟩ := h_37
    refine loop 99 1 m_37 hk (by omega) (by omega) (KC.trans (FrT_85 f1) (KC.trans (FrT_85 f2) (FrB_85 f3))) q5 ?_
    unfold aRutted; rw [if_neg (fun q => q hk)]
  · refine r_pushI a83_8 ?_
    refine r_retIq a83_9 ?_
    exact ⟨KC.refl m, by unfold aRutted; rw [if_pos ((skD h_2).2 h_5)]⟩
/-- the gate at which most is lost, and how much -/
def losI (s : Int → Int) (cl : CLs) (a b : Int) : Nat → Int × Int
  | 0 => (-1, 0)
  | n + 1 => if qTk s cl a (lQ s cl a (s 7) 1) n - qTk s cl b (lQ s cl b (s 7) 1) n > (losI s cl a b n).2 then ((n : Int), qTk s cl a (lQ s cl a (s 7) 1) n - qTk s cl b (lQ s cl b (s 7) 1) n) else losI s cl a b n
theorem losI_r (s : Int → Int) (cl : CLs) (a b : Int) : ∀ n : Nat, -1 ≤ (losI s cl a b n).1 ∧ 0 ≤ (losI s cl a b n).2 ∧ (losI s cl a b n).1 < n := by
  intro n
  induction n with
  | zero => show -1 ≤ (-1 : Int) ∧ 0 ≤ (0 : Int) ∧ (-1 : Int) < ((0 : Nat) : Int); omega
  | succ n ih =>
    show -1 ≤ (if _ then _ else _ : Int × Int).1 ∧ 0 ≤ (if _ then _ else _ : Int × Int).2 ∧ (if _ then _ else _ : Int × Int).1 < ((n + 1 : Nat) : Int)
    push_cast
    split
    · rename_i h
      refine ⟨?_, ?_, ?_⟩
      · show -1 ≤ (n : Int)
        omega
      · show 0 ≤ qTk s cl a (lQ s cl a (s 7) 1) n - qTk s cl b (lQ s cl b (s 7) 1) n
        omega
      · show (n : Int) < n + 1
        omega
    · omega
def aLoses (s : Int → Int) (cl : CLs) (a b p : Int) : Int := if ¬ (sk s a ∧ sk s b ∧ 0 ≤ p ∧ p ≤ 1) then -1 else if a = b then -2 else if (losI s cl a b (s 0).toNat).1 < 0 then -5 else if p = 0 then (losI s cl a b (s 0).toNat).1 else (losI s cl a b (s 0).toNat).2
theorem qTk_r {s : Int → Int} {cl : CLs} {k : Int} {l : Int → Int} (hS : okS s) (hc : ∀ c ∈ cl, okC c) (hl : cl.length ≤ 10) (hl2 : ∀ i, 0 ≤ i → i < s 0 → 0 ≤ l i ∧ l i < 3) {i : Int} (h0 : 0 ≤ i) (h1 : i < s 0) : 1 ≤ qTk s cl k l i ∧ qTk s cl k l i ≤ 21000 := by
  have hN := hS.1.1
  have hR := eRg (k := k) (w := 1) hS hc hl hS.1.2.2.2.2.2.2.2
  have hp := rnP_r hR hl2 i.toNat (by omega)
  have hl3 := hl2 i h0 h1
  exact (hR i (rnP (eB s cl k (s 7)) l i.toNat) (l i) h0 h1 hp.1 hp.2 hl3.1 hl3.2).2.1
theorem lQ_e {s : Int → Int} {cl : CLs} {k n w : Int} (hS : okS s) (hc : ∀ c ∈ cl, okC c) (hl : cl.length ≤ 10) (hn : 0 ≤ n ∧ n ≤ 9999) : ∀ i, 0 ≤ i → i < s 0 → 0 ≤ lQ s cl k n w i ∧ lQ s cl k n w i < 3 := by
  intro i a b
  have hN := hS.1.1
  exact pathL_r ((0 : Int) = 1) (eRg hS hc hl hn) (s 0).toNat 0 3 i (by omega) (by omega) (by omega) (by omega)
theorem c_Fg_loses (d z : Nat) (m : XM) (s : Int → Int) (cl : CLs) (a b p : Int) (hd : 8 ≤ d) (hC : CpC m s cl) :
    CI d k_Fg_loses z m [vR 32, vI a, vI b, vI p] (fun x m' => KC m m' ∧ x = aLoses s cl a b p) := by
  obtain ⟨e, rfl⟩ : ∃ e, d = e + 1 := ⟨d - 1, by omega⟩
  have hN := hC.1.1.1
  have r7 := hC.1.1.2.2.2.2.2.2.2
  have tr := fun (k i : Int) (i1 : 0 ≤ i) (i2 : i < s 0) => qTk_r (k := k) hC.1 hC.2.2.1.2.1 hC.2.2.1.2.2 (lQ_e (k := k) (w := 1) hC.1 hC.2.2.1.2.1 hC.2.2.1.2.2 r7) i1 i2
  have fin : ∀ (m1 : XM) (y6 y7 : XV), KC m m1 → sk s a → sk s b → (0 ≤ p ∧ p ≤ 1) → a ≠ b → RZ (e + 1) k_Fg_loses 106 [vR 32, vI a, vI b, vI p, vI (losI s cl a b (s 0).toNat).2, vI (losI s cl a b (s 0).toNat).1, y6, y7] [] (zH z m1) (qz z (qi fun x m' => KC m m' ∧ x = aLoses s cl a b p)) := by
    intro m1 y6 y7 kc ha hb hp hab
    have hw : aLoses s cl a b p = if (losI s cl a b (s 0).toNat).1 < 0 then -5 else if p = 0 then (losI s cl a b (s 0).toNat).1 else (losI s cl a b (s 0).toNat).2 := by
      unfold aLoses; rw [if_neg (fun q => q ⟨ha, hb, hp⟩), if_neg hab]
    refine r_loadI a85_106 rfl ?_
    refine r_ifge a85_108 (fun h_108 => ?_) (fun h_108 => ?_)
    · refine r_loadI a85_114 rfl ?_
      refine r_ifne a85_115 (fun h_115 => ?_) (fun h_115 => ?_)
      · refine r_loadI a85_123 rfl ?_
        refine r_retIq a85_125 ?_
        refine ⟨kc, ?_⟩
        rw [hw, if_neg (by omega)]
        first
          | rw [if_pos (by omega)]
          | rw [if_neg (by omega)]
      · refine r_loadI a85_118 rfl ?_
        refine r_goto a85_120 ?_
        refine r_retIq a85_125 ?_
        refine ⟨kc, ?_⟩
        rw [hw, if_neg (by omega)]
        first
          | rw [if_pos (by omega)]
          | rw [if_neg (by omega)]
    · refine r_pushI a85_111 ?_
      refine r_retIq a85_113 ?_
      exact ⟨kc, by rw [hw, if_pos (by omega)]⟩
  have loop : ∀ (c j : Nat) (m1 : XM) (y7 : XV), (j : Int) + c = s 0 → KC m m1 → sk s a → sk s b → (0 ≤ p ∧ p ≤ 1) → a ≠ b → m1 85 0 = s 0 → GoP m1 85 (eO s cl a (s 7)) (eT s cl a (s 7) 1) (eB s cl a (s 7)) (lQ s cl a (s 7) 1) (s 0) → GoP m1 98 (eO s cl b (s 7)) (eT s cl b (s 7) 1) (eB s cl b (s 7)) (lQ s cl b (s 7) 1) (s 0) →
      RZ (e + 1) k_Fg_loses 50 [vR 32, vI a, vI b, vI p, vI (losI s cl a b j).2, vI (losI s cl a b j).1, vI (j : Int), y7] [] (zH z m1) (qz z (qi fun x m' => KC m m' ∧ x = aLoses s cl a b p)) := by
    intro c
    induction c with
    | zero =>
      intro j m1 y7 hj kc ha hb hp hab e0 g1 g2
      have ej : (s 0).toNat = j := by omega
      refine r_loadI a85_50 rfl ?_
      refine r_loadA a85_52 rfl (by decide) ?_
      refine r_getR a85_53 ty32 rf32_4 (by decide) ?_
      refine r_getI (ki := 0) a85_56 ty85 rfl ?_
      rw [e0]
      refine r_icge a85_59 (fun h_59 => ?_) (fun h_59 => ?_)
      · have q := fin m1 (vI (j : Int)) y7 kc ha hb hp hab
        rw [ej] at q; exact q
      · exfalso
        omega
    | succ c ih =>
      intro j m1 y7 hj kc ha hb hp hab e0 g1 g2
      have t1 := (tk_at g1 (i := j) (by omega) (by omega)).1
      have t2 := (tk_at g2 (i := j) (by omega) (by omega)).1
      have r1 := tr a j (by omega) (by omega)
      have r2 := tr b j (by omega) (by omega)
      have eS : losI s cl a b (j + 1) = if qTk s cl a (lQ s cl a (s 7) 1) j - qTk s cl b (lQ s cl b (s 7) 1) j > (losI s cl a b j).2 then ((j : Int), qTk s cl a (lQ s cl a (s 7) 1) j - qTk s cl b (lQ s cl b (s 7) 1) j) else losI s cl a b j := rfl
      refine r_loadI a85_50 rfl ?_
      refine r_loadA a85_52 rfl (by decide) ?_
      refine r_getR a85_53 ty32 rf32_4 (by decide) ?_
      refine r_getI (ki := 0) a85_56 ty85 rfl ?_
      rw [e0]
      refine r_icge a85_59 (fun h_59 => ?_) (fun h_59 => ?_)
      · exfalso
        omega
      · refine r_loadA a85_62 rfl (by decide) ?_
        refine r_getR a85_63 ty32 rf32_4 (by decide) ?_
        refine r_getR a85_66 ty85 rf85_11 (by decide) ?_
        refine r_loadI a85_69 rfl ?_
        refine r_iald a85_71 ty96 (by omega) ?_
        rw [show m1 96 (j : Int) = qTk s cl a (lQ s cl a (s 7) 1) j from t1]
        refine r_loadA a85_72 rfl (by decide) ?_
        refine r_getR a85_73 ty32 rf32_5 (by decide) ?_
        refine r_getR a85_76 ty98 rf98_11 (by decide) ?_
        refine r_loadI a85_79 rfl ?_
        refine r_iald a85_81 ty109 (by omega) ?_
        rw [show m1 109 (j : Int) = qTk s cl b (lQ s cl b (s 7) 1) j from t2]
        refine r_sub a85_82 (by omega) ?_
        refine r_storeI_7 a85_83 rfl ?_
        refine r_loadI a85_85 rfl ?_
        refine r_loadI a85_87 rfl ?_
        refine r_icle a85_89 (fun h_89 => ?_) (fun h_89 => ?_)
        · refine r_iinc_6 a85_100 rfl (by omega) ?_
          refine r_goto a85_103 ?_
          have q := ih (j + 1) m1 (vI (qTk s cl a (lQ s cl a (s 7) 1) j - qTk s cl b (lQ s cl b (s 7) 1) j)) (by push_cast; omega) kc ha hb hp hab e0 g1 g2
          first
            | (rw [eS, if_pos (by omega)] at q; exact q)
            | (rw [eS, if_neg (by omega)] at q; exact q)
        · refine r_loadI a85_92 rfl ?_
          refine r_storeI_4 a85_94 rfl ?_
          refine r_loadI a85_96 rfl ?_
          refine r_storeI_5 a85_98 rfl ?_
          refine r_iinc_6 a85_100 rfl (by omega) ?_
          refine r_goto a85_103 ?_
          have q := ih (j + 1) m1 (vI (qTk s cl a (lQ s cl a (s 7) 1) j - qTk s cl b (lQ s cl b (s 7) 1) j)) (by push_cast; omega) kc ha hb hp hab e0 g1 g2
          first
            | (rw [eS, if_pos (by omega)] at q; exact q)
            | (rw [eS, if_neg (by omega)] at q; exact q)
  refine r_entry mx85 rfl ?_
  refine r_loadA a85_0 rfl (by decide) ?_
  refine r_loadI a85_1 rfl ?_
  refine r_callI_2 a85_2 (Nat.le_of_ble_eq_true rfl) (le_mx mx104 (Nat.le_of_ble_eq_true rfl)) (Or.inr (recv_ok ty32 ow104 (by decide))) (c_Fg_noSkier e z m s cl hC a) (fun x_2 m_2 h_2 => ?_)
  obtain ⟨hm_2, h_2⟩ := h_2
  rw [hm_2]
  refine r_ifne a85_5 (fun h_5 => ?_) (fun h_5 => ?_)
  · refine r_pushI a85_25 ?_
    refine r_retIq a85_26 ?_
    refine ⟨KC.refl m, ?_⟩
    unfold aLoses; rw [if_pos]
    rintro ⟨a1, a2, a3⟩
    first
      | exact (skD h_2).2 h_5 a1
      | exact (skD h_10).2 h_13 a2
      | omega
  · refine r_loadA a85_8 rfl (by decide) ?_
    refine r_loadI a85_9 rfl ?_
    refine r_callI_2 a85_10 (Nat.le_of_ble_eq_true rfl) (le_mx mx104 (Nat.le_of_ble_eq_true rfl)) (Or.inr (recv_ok ty32 ow104 (by decide))) (c_Fg_noSkier e z m s cl hC b) (fun x_10 m_10 h_10 => ?_)
    obtain ⟨hm_10, h_10⟩ := h_10
    rw [hm_10]
    refine r_ifne a85_13 (fun h_13 => ?_) (fun h_13 => ?_)
    · refine r_pushI a85_25 ?_
      refine r_retIq a85_26 ?_
      refine ⟨KC.refl m, ?_⟩
      unfold aLoses; rw [if_pos]
      rintro ⟨a1, a2, a3⟩
      first
        | exact (skD h_2).2 h_5 a1
        | exact (skD h_10).2 h_13 a2
        | omega
    · refine r_loadI a85_16 rfl ?_
      refine r_pushI a85_17 ?_
      refine r_pushI a85_18 ?_
      refine r_callI_3 a85_19 (Nat.le_of_ble_eq_true rfl) (le_mx mx106 (Nat.le_of_ble_eq_true rfl)) (Or.inl rfl) (c_Fg_outside e z m p 0 1) (fun x_19 m_19 h_19 => ?_)
      obtain ⟨hm_19, h_19⟩ := h_19
      rw [hm_19]
      refine r_ifeq a85_22 (fun h_22 => ?_) (fun h_22 => ?_)
      · have ha := (skD h_2).1 (by omega)
        have hb := (skD h_10).1 (by omega)
        have hp : 0 ≤ p ∧ p ≤ 1 := by omega
        refine r_loadI a85_27 rfl ?_
        refine r_loadI a85_28 rfl ?_
        refine r_icne a85_29 (fun h_29 => ?_) (fun h_29 => ?_)
        · refine r_loadA a85_35 rfl (by decide) ?_
          refine r_loadI a85_36 rfl ?_
          refine r_loadI a85_37 rfl ?_
          refine r_callV_3 a85_38 (Nat.le_of_ble_eq_true rfl) (le_mx mx111 (Nat.le_of_ble_eq_true rfl)) (Or.inr (recv_ok ty32 ow111 (by decide))) (c_Fg_goBothByBest e z m s cl a b (by omega) hC ha hb) (fun m_38 h_38 => ?_)
          refine r_pushI a85_41 ?_
          refine r_storeI_4 a85_42 rfl ?_
          refine r_pushI a85_44 ?_
          refine r_storeI_5 a85_45 rfl ?_
          refine r_pushI a85_47 ?_
          refine r_storeI_6 a85_48 rfl ?_
          obtain ⟨g1, g2, g3, g4, g5⟩ := h_38
          exact loop (s 0).toNat 0 m_38 _ (by omega) g1 ha hb hp (by omega) g2 g4 g5
        · refine r_pushI a85_32 ?_
          refine r_retIq a85_34 ?_
          exact ⟨KC.refl m, by unfold aLoses; rw [if_neg (fun q => q ⟨ha, hb, hp⟩), if_pos (by omega)]⟩
      · refine r_pushI a85_25 ?_
        refine r_retIq a85_26 ?_
        refine ⟨KC.refl m, ?_⟩
        unfold aLoses; rw [if_pos]
        rintro ⟨a1, a2, a3⟩
        first
          | exact (skD h_2).2 h_5 a1
          | exact (skD h_10).2 h_13 a2
          | omega
def winN (s : Int → Int) (cl : CLs) (a b v : Int) : Int :=
  if v = 0 then qU s cl a (lQ s cl a (s 7) 1) (s 0).toNat * (if qT s cl b (lQ s cl b (s 7) 1) (s 0).toNat > qT s cl a (lQ s cl a (s 7) 1) (s 0).toNat then p20 (s 0).toNat else p20 (s 0).toNat - qU s cl b (lQ s cl b (s 7) 1) (s 0).toNat)
  else (p20 (s 0).toNat - qU s cl a (lQ s cl a (s 7) 1) (s 0).toNat) * (p20 (s 0).toNat - qU s cl b (lQ s cl b (s 7) 1) (s 0).toNat) + (if qT s cl a (lQ s cl a (s 7) 1) (s 0).toNat = qT s cl b (lQ s cl b (s 7) 1) (s 0).toNat then qU s cl a (lQ s cl a (s 7) 1) (s 0).toNat * qU s cl b (lQ s cl b (s 7) 1) (s 0).toNat else 0)
def aWins (s : Int → Int) (cl : CLs) (a b v p : Int) : Int := if sk s a ∧ sk s b ∧ a ≠ b ∧ (0 ≤ v ∧ v ≤ 1) ∧ 0 ≤ p ∧ p ≤ 1 then lowQ (winN s cl a b v) (p20 (s 0).toNat * p20 (s 0).toNat) p else MINL
/-- products below 2^31 squared -/
theorem mul_r {x y u : Int} (hx : 0 ≤ x ∧ x ≤ u) (hy : 0 ≤ y ∧ y ≤ u) : 0 ≤ x * y ∧ x * y ≤ u * u :=
  ⟨Int.mul_nonneg hx.1 hy.1, Int.le_trans (Int.mul_le_mul_of_nonneg_right hx.2 hy.1) (Int.mul_le_mul_of_nonneg_left hy.2 (by omega))⟩
theorem c_Fg_wins (d z : Nat) (m : XM) (s : Int → Int) (cl : CLs) (a b v p : Int) (hd : 8 ≤ d) (hC : CpC m s cl) :
    CL d k_Fg_wins z m [vR 32, vI a, vI b, vI v, vI p] (fun x m' => KC m m' ∧ x = aWins s cl a b v p) := by
  obtain ⟨e, rfl⟩ : ∃ e, d = e + 1 := ⟨d - 1, by omega⟩
  have hN := hC.1.1.1
  have r7 := hC.1.1.2.2.2.2.2.2.2
  have ur := fun (k : Int) => qU_r (k := k) hC.1 hC.2.2.1.2.1 hC.2.2.1.2.2 (lQ_e (k := k) (w := 1) hC.1 hC.2.2.1.2.1 hC.2.2.1.2.2 r7)
  have ua := ur a
  have ub := ur b
  have hp20 := p20_pos (s 0).toNat
  have hp20b := p20_le (s 0).toNat (by omega)
  obtain ⟨w, hw⟩ : ∃ w, winN s cl a b v = w := ⟨_, rfl⟩
  have hW := hw
  unfold winN at hW
  have aw : aWins s cl a b v p = if sk s a ∧ sk s b ∧ a ≠ b ∧ (0 ≤ v ∧ v ≤ 1) ∧ 0 ≤ p ∧ p ≤ 1 then lowQ w (p20 (s 0).toNat * p20 (s 0).toNat) p else MINL := by unfold aWins; rw [hw]
  rw [aw]
  generalize hua : qU s cl a (lQ s cl a (s 7) 1) (s 0).toNat = A at ua hW
  generalize hub : qU s cl b (lQ s cl b (s 7) 1) (s 0).toNat = B at ub hW
  generalize hta : qT s cl a (lQ s cl a (s 7) 1) (s 0).toNat = ta at hW
  generalize htb : qT s cl b (lQ s cl b (s 7) 1) (s 0).toNat = tb at hW
  generalize hQ : p20 (s 0).toNat = Q at *
  have hQQ : Q * Q ≤ 1280000000 * 1280000000 := (mul_r (x := Q) (y := Q) (u := 1280000000) ⟨by omega, hp20b⟩ ⟨by omega, hp20b⟩).2
  have hQ1 : 1 ≤ Q * Q := Int.le_trans hp20 (by have := Int.mul_le_mul_of_nonneg_left hp20 (show 0 ≤ Q by omega); omega)
  have hAB := mul_r (x := A) (y := B) (u := Q) ⟨ua.1, ua.2.2⟩ ⟨ub.1, ub.2.2⟩
  have hAQ := mul_r (x := A) (y := Q) (u := Q) ⟨ua.1, ua.2.2⟩ ⟨by omega, by omega⟩
  have hAd := mul_r (x := A) (y := Q - B) (u := Q) ⟨ua.1, ua.2.2⟩ ⟨by omega, by omega⟩
  have hdd := mul_r (x := Q - A) (y := Q - B) (u := Q) ⟨by omega, by omega⟩ ⟨by omega, by omega⟩
  have fin : ∀ (m1 : XM) (y5 : XV), KC m m1 → sk s a → sk s b → a ≠ b → (0 ≤ v ∧ v ≤ 1) → (0 ≤ p ∧ p ≤ 1) → ∀ x : Int, x = w → (0 ≤ x ∧ x < 9223372036854775808) → ∀ y7 y9 : XV, RZ (e + 1) k_Fg_wins 158 [vR 32, vI a, vI b, vI v, vI p, vL Q, vR 0, y7, vR 0, y9, vR 0, vL x, vR 0] [] (zH z m1) (qz z (ql fun x m' => KC m m' ∧ x = if sk s a ∧ sk s b ∧ a ≠ b ∧ (0 ≤ v ∧ v ≤ 1) ∧ 0 ≤ p ∧ p ≤ 1 then lowQ w (Q * Q) p else MINL)) := by
    intro m1 y5 kc ha hb hab hv hp x hx hx2 y7 y9
    obtain ⟨wn, hwn⟩ : ∃ n : Nat, x = n := ⟨x.toNat, by omega⟩
    obtain ⟨qn, hqn⟩ : ∃ n : Nat, Q * Q = n := ⟨(Q * Q).toNat, by omega⟩
    rw [hwn]
    refine r_loadL a86_158 rfl ?_
    refine r_loadL a86_160 rfl ?_
    refine r_loadL a86_162 rfl ?_
    refine r_lmul a86_164 (by omega) ?_
    rw [hqn]
    refine r_loadI a86_165 rfl ?_
    refine r_callL_3 a86_167 (Nat.le_of_ble_eq_true rfl) (le_mx mx117 (Nat.le_of_ble_eq_true rfl)) (Or.inl rfl) (c_Fg_lowest e z m1 wn qn p (by omega) (by omega)) (fun x_167 m_167 h_167 => ?_)
    obtain ⟨hm_167, h_167⟩ := h_167
    rw [hm_167]
    refine r_retLq a86_170 ?_
    refine ⟨kc, ?_⟩
    rw [if_pos ⟨ha, hb, hab, hv, hp⟩, h_167, ← hwn, hx]
  refine r_entry mx86 rfl ?_
  refine r_loadA a86_0 rfl (by decide) ?_
  refine r_loadI a86_1 rfl ?_
  refine r_callI_2 a86_2 (Nat.le_of_ble_eq_true rfl) (le_mx mx104 (Nat.le_of_ble_eq_true rfl)) (Or.inr (recv_ok ty32 ow104 (by decide))) (c_Fg_noSkier e z m s cl hC a) (fun x_2 m_2 h_2 => ?_)
  obtain ⟨hm_2, h_2⟩ := h_2
  rw [hm_2]
  refine r_ifne a86_5 (fun h_5 => ?_) (fun h_5 => ?_)
  · refine r_pushL a86_38 ?_
    refine r_retLq a86_41 ?_
    refine ⟨KC.refl m, ?_⟩
    rw [if_neg]
    rintro ⟨a1, a2, a3⟩
    first
      | exact (skD h_2).2 h_5 a1
      | exact (skD h_10).2 h_13 a2
      | omega
  · refine r_loadA a86_8 rfl (by decide) ?_
    refine r_loadI a86_9 rfl ?_
    refine r_callI_2 a86_10 (Nat.le_of_ble_eq_true rfl) (le_mx mx104 (Nat.le_of_ble_eq_true rfl)) (Or.inr (recv_ok ty32 ow104 (by decide))) (c_Fg_noSkier e z m s cl hC b) (fun x_10 m_10 h_10 => ?_)
    obtain ⟨hm_10, h_10⟩ := h_10
    rw [hm_10]
    refine r_ifne a86_13 (fun h_13 => ?_) (fun h_13 => ?_)
    · refine r_pushL a86_38 ?_
      refine r_retLq a86_41 ?_
      refine ⟨KC.refl m, ?_⟩
      rw [if_neg]
      rintro ⟨a1, a2, a3⟩
      first
        | exact (skD h_2).2 h_5 a1
        | exact (skD h_10).2 h_13 a2
        | omega
    · refine r_loadI a86_16 rfl ?_
      refine r_loadI a86_17 rfl ?_
      refine r_iceq a86_18 (fun h_18 => ?_) (fun h_18 => ?_)
      · refine r_pushL a86_38 ?_
        refine r_retLq a86_41 ?_
        refine ⟨KC.refl m, ?_⟩
        rw [if_neg]
        rintro ⟨a1, a2, a3⟩
        first
          | exact (skD h_2).2 h_5 a1
          | exact (skD h_10).2 h_13 a2
          | omega
      · refine r_loadI a86_21 rfl ?_
        refine r_pushI a86_22 ?_
        refine r_pushI a86_23 ?_
        refine r_callI_3 a86_24 (Nat.le_of_ble_eq_true rfl) (le_mx mx106 (Nat.le_of_ble_eq_true rfl)) (Or.inl rfl) (c_Fg_outside e z m v 0 1) (fun x_24 m_24 h_24 => ?_)
        obtain ⟨hm_24, h_24⟩ := h_24
        rw [hm_24]
        refine r_ifne a86_27 (fun h_27 => ?_) (fun h_27 => ?_)
        · refine r_pushL a86_38 ?_
          refine r_retLq a86_41 ?_
          refine ⟨KC.refl m, ?_⟩
          rw [if_neg]
          rintro ⟨a1, a2, a3⟩
          first
            | exact (skD h_2).2 h_5 a1
            | exact (skD h_10).2 h_13 a2
            | omega
        · refine r_loadI a86_30 rfl ?_
          refine r_callI_1 a86_32 (Nat.le_of_ble_eq_true rfl) (le_mx mx105 (Nat.le_of_ble_eq_true rfl)) (Or.inl rfl) (c_Fg_noPart e z m p (by omega)) (fun x_32 m_32 h_32 => ?_)
          obtain ⟨hm_32, h_32⟩ := h_32
          rw [hm_32]
          refine r_ifeq a86_35 (fun h_35 => ?_) (fun h_35 => ?_)
          · have ha := (skD h_2).1 (by omega)
            have hb := (skD h_10).1 (by omega)
            refine r_loadA a86_42 rfl (by decide) ?_
            refine r_loadI a86_43 rfl ?_
            refine r_loadI a86_44 rfl ?_
            refine r_callV_3 a86_45 (Nat.le_of_ble_eq_true rfl) (le_mx mx111 (Nat.le_of_ble_eq_true rfl)) (Or.inr (recv_ok ty32 ow111 (by decide))) (c_Fg_goBothByBest e z m s cl a b (by omega) hC ha hb) (fun m_45 h_45 => ?_)
            obtain ⟨g1, g2, g3, g4, g5⟩ := h_45
            have eA : m_45 85 16 = A := by rw [← hua]; exact g4.2.2.2.1
            have eB : m_45 98 16 = B := by rw [← hub]; exact g5.2.2.2.1
            have eta : m_45 85 13 = ta := by rw [← hta]; exact g4.1
            have etb : m_45 98 13 = tb := by rw [← htb]; exact g5.1
            refine r_statR a86_48 ?_
            refine r_loadA a86_51 rfl (by decide) ?_
            refine r_getR a86_52 ty32 rf32_4 (by decide) ?_
            refine r_getI (ki := 0) a86_55 ty85 rfl ?_
            rw [g2]
            refine r_lald a86_58 (by omega) ?_
            rw [zTab3i hN, hQ]
            refine r_storeL_5 a86_59 rfl ?_
            refine r_loadA a86_61 rfl (by decide) ?_
            refine r_getR a86_62 ty32 rf32_4 (by decide) ?_
            refine r_getL (ki := 16) a86_65 ty85 rfl ?_
            rw [eA]
            refine r_storeL_7 a86_68 rfl ?_
            refine r_loadA a86_70 rfl (by decide) ?_
            refine r_getR a86_71 ty32 rf32_5 (by decide) ?_
            refine r_getL (ki := 16) a86_74 ty98 rfl ?_
            rw [eB]
            refine r_storeL_9 a86_77 rfl ?_
            refine r_loadI a86_79 rfl ?_
            refine r_ifne a86_80 (fun h_80 => ?_) (fun h_80 => ?_)
            · refine r_loadL a86_118 rfl ?_
              refine r_loadL a86_120 rfl ?_
              refine r_lsub a86_122 (by omega) ?_
              refine r_loadL a86_123 rfl ?_
              refine r_loadL a86_125 rfl ?_
              refine r_lsub a86_127 (by omega) ?_
              refine r_lmul a86_128 (by omega) ?_
              refine r_loadA a86_129 rfl (by decide) ?_
              refine r_getR a86_130 ty32 rf32_4 (by decide) ?_
              refine r_getI (ki := 13) a86_133 ty85 rfl ?_
              refine r_loadA a86_136 rfl (by decide) ?_
              refine r_getR a86_137 ty32 rf32_5 (by decide) ?_
              refine r_getI (ki := 13) a86_140 ty98 rfl ?_
              rw [eta, etb]
              refine r_icne a86_143 (fun h_143 => ?_) (fun h_143 => ?_)
              · refine r_pushL a86_154 ?_
                refine r_ladd a86_155 (by omega) ?_
                refine r_storeL_11 a86_156 rfl ?_
                refine fin m_45 (vR 0) g1 ha hb (by omega) (by omega) (by omega) _ ?_ (by omega) _ _
                rw [← hW]
                first
                  | rw [if_pos (show v = 0 by omega), if_pos (by omega)]
                  | rw [if_pos (show v = 0 by omega), if_neg (by omega)]
                  | rw [if_neg (show ¬ v = 0 by omega), if_pos (by omega)]
                  | rw [if_neg (show ¬ v = 0 by omega), if_neg (by omega)]
              · refine r_loadL a86_146 rfl ?_
                refine r_loadL a86_148 rfl ?_
                refine r_lmul a86_150 (by omega) ?_
                refine r_goto a86_151 ?_
                refine r_ladd a86_155 (by omega) ?_
                refine r_storeL_11 a86_156 rfl ?_
                refine fin m_45 (vR 0) g1 ha hb (by omega) (by omega) (by omega) _ ?_ (by omega) _ _
                rw [← hW]
                first
                  | rw [if_pos (show v = 0 by omega), if_pos (by omega)]
                  | rw [if_pos (show v = 0 by omega), if_neg (by omega)]
                  | rw [if_neg (show ¬ v = 0 by omega), if_pos (by omega)]
                  | rw [if_neg (show ¬ v = 0 by omega), if_neg (by omega)]
            · refine r_loadL a86_83 rfl ?_
              refine r_loadA a86_85 rfl (by decide) ?_
              refine r_getR a86_86 ty32 rf32_5 (by decide) ?_
              refine r_getI (ki := 13) a86_89 ty98 rfl ?_
              refine r_loadA a86_92 rfl (by decide) ?_
              refine r_getR a86_93 ty32 rf32_4 (by decide) ?_
              refine r_getI (ki := 13) a86_96 ty85 rfl ?_
              rw [eta, etb]
              refine r_icle a86_99 (fun h_99 => ?_) (fun h_99 => ?_)
              · refine r_loadL a86_107 rfl ?_
                refine r_loadL a86_109 rfl ?_
                refine r_lsub a86_111 (by omega) ?_
                refine r_lmul a86_112 (by omega) ?_
                refine r_storeL_11 a86_113 rfl ?_
                refine r_goto a86_115 ?_
                refine fin m_45 (vR 0) g1 ha hb (by omega) (by omega) (by omega) _ ?_ (by omega) _ _
                rw [← hW]
                first
                  | rw [if_pos (show v = 0 by omega), if_pos (by omega)]
                  | rw [if_pos (show v = 0 by omega), if_neg (by omega)]
                  | rw [if_neg (show ¬ v = 0 by omega), if_pos (by omega)]
                  | rw [if_neg (show ¬ v = 0 by omega), if_neg (by omega)]
              · refine r_loadL a86_102 rfl ?_
                refine r_goto a86_104 ?_
                refine r_lmul a86_112 (by omega) ?_
                refine r_storeL_11 a86_113 rfl ?_
                refine r_goto a86_115 ?_
                refine fin m_45 (vR 0) g1 ha hb (by omega) (by omega) (by omega) _ ?_ (by omega) _ _
                rw [← hW]
                first
                  | rw [if_pos (show v = 0 by omega), if_pos (by omega)]
                  | rw [if_pos (show v = 0 by omega), if_neg (by omega)]
                  | rw [if_neg (show ¬ v = 0 by omega), if_pos (by omega)]
                  | rw [if_neg (show ¬ v = 0 by omega), if_neg (by omega)]
          · refine r_pushL a86_38 ?_
            refine r_retLq a86_41 ?_
            refine ⟨KC.refl m, ?_⟩
            rw [if_neg]
            rintro ⟨a1, a2, a3⟩
            first
              | exact (skD h_2).2 h_5 a1
              | exact (skD h_10).2 h_13 a2
              | omega
