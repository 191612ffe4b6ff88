-- ===== a run by a line =====
def rnP (B : TF) (l : Int → Int) : Nat → Int
  | 0 => 3
  | n + 1 => B n (rnP B l n) (l n)
def rnT (T B : TF) (l : Int → Int) : Nat → Int
  | 0 => 0
  | n + 1 => rnT T B l n + T n (rnP B l n) (l n)
def rnU (O B : TF) (l : Int → Int) : Nat → Int
  | 0 => 1
  | n + 1 => rnU O B l n * (20 - O n (rnP B l n) (l n))
def rnZ (O B : TF) (l : Int → Int) : Nat → Int
  | 0 => 0
  | n + 1 => if rnZ O B l n = 1 ∨ O n (rnP B l n) (l n) > 0 then 1 else 0
theorem rnP_r {O T B : TF} {N : Int} {l : Int → Int} (hR : RgE O T B N) (hl : ∀ i, 0 ≤ i → i < N → 0 ≤ l i ∧ l i < 3) : ∀ n : Nat, (n : Int) ≤ N → 0 ≤ rnP B l n ∧ rnP B l n < 10 := by
  intro n
  induction n with
  | zero => intro _; show 0 ≤ (3 : Int) ∧ (3 : Int) < 10; omega
  | succ n ih =>
    intro h
    have h1 := ih (by omega)
    have h2 := hl n (by omega) (by omega)
    have := (hR n (rnP B l n) (l n) (by omega) (by omega) h1.1 h1.2 h2.1 h2.2).2.2
    show 0 ≤ B n (rnP B l n) (l n) ∧ B n (rnP B l n) (l n) < 10
    omega
theorem rnT_r {O T B : TF} {N : Int} {l : Int → Int} (hR : RgE O T B N) (hl : ∀ i, 0 ≤ i → i < N → 0 ≤ l i ∧ l i < 3) : ∀ n : Nat, (n : Int) ≤ N → 0 ≤ rnT T B l n ∧ rnT T B l n ≤ 21000 * n := by
  intro n
  induction n with
  | zero => intro _; show 0 ≤ (0 : Int) ∧ (0 : Int) ≤ 21000 * 0; omega
  | succ n ih =>
    intro h
    have h1 := ih (by omega)
    have h2 := hl n (by omega) (by omega)
    have h3 := rnP_r hR hl n (by omega)
    have := (hR n (rnP B l n) (l n) (by omega) (by omega) h3.1 h3.2 h2.1 h2.2).2.1
    show 0 ≤ rnT T B l n + T n (rnP B l n) (l n) ∧ rnT T B l n + T n (rnP B l n) (l n) ≤ 21000 * ((n + 1 : Nat) : Int)
    push_cast
    omega
theorem rnU_r {O T B : TF} {N : Int} {l : Int → Int} (hR : RgE O T B N) (hl : ∀ i, 0 ≤ i → i < N → 0 ≤ l i ∧ l i < 3) : ∀ n : Nat, (n : Int) ≤ N → 0 ≤ rnU O B l n ∧ rnU O B l n ≤ p20 n := by
  intro n
  induction n with
  | zero => intro _; show 0 ≤ (1 : Int) ∧ (1 : Int) ≤ 1; omega
  | succ n ih =>
    intro h
    have h1 := ih (by omega)
    have h2 := hl n (by omega) (by omega)
    have h3 := rnP_r hR hl n (by omega)
    have := (hR n (rnP B l n) (l n) (by omega) (by omega) h3.1 h3.2 h2.1 h2.2).1
    show 0 ≤ rnU O B l n * (20 - O n (rnP B l n) (l n)) ∧ rnU O B l n * (20 - O n (rnP B l n) (l n)) ≤ 20 * p20 n
    refine ⟨Int.mul_nonneg h1.1 (by omega), ?_⟩
    have a := Int.mul_le_mul_of_nonneg_left (show 20 - O n (rnP B l n) (l n) ≤ 20 by omega) h1.1
    have b := Int.mul_le_mul_of_nonneg_right h1.2 (show (0 : Int) ≤ 20 by decide)
    omega
theorem p20_le : ∀ n : Nat, n ≤ 7 → p20 n ≤ 1280000000 := by
  intro n h
  have : n = 0 ∨ n = 1 ∨ n = 2 ∨ n = 3 ∨ n = 4 ∨ n = 5 ∨ n = 6 ∨ n = 7 := by omega
  rcases this with h | h | h | h | h | h | h | h <;> rw [h] <;> decide
theorem rnZ_r (O B : TF) (l : Int → Int) (n : Nat) : rnZ O B l n = 0 ∨ rnZ O B l n = 1 := by
  cases n with
  | zero => exact Or.inl rfl
  | succ n => show (if _ then (1 : Int) else 0) = 0 ∨ (if _ then (1 : Int) else 0) = 1; split <;> omega
theorem rn_cong {O T B : TF} {l l' : Int → Int} : ∀ (n : Nat), (∀ i : Nat, i < n → l i = l' i) → rnP B l n = rnP B l' n ∧ rnT T B l n = rnT T B l' n ∧ rnU O B l n = rnU O B l' n ∧ rnZ O B l n = rnZ O B l' n := by
  intro n
  induction n with
  | zero => intro _; exact ⟨rfl, rfl, rfl, rfl⟩
  | succ n ih =>
    intro h
    obtain ⟨a, b, c, d⟩ := ih (fun i hi => h i (by omega))
    have e := h n (by omega)
    refine ⟨?_, ?_, ?_, ?_⟩
    · show B n _ _ = B n _ _; rw [a, e]
    · show _ + T n _ _ = _ + T n _ _; rw [a, b, e]
    · show _ * (20 - O n _ _) = _ * (20 - O n _ _); rw [a, c, e]
    · show (if _ ∨ O n _ _ > 0 then (1 : Int) else 0) = if _ ∨ O n _ _ > 0 then (1 : Int) else 0; rw [a, d, e]
theorem rn_F {O T B O' T' B' : TF} {N : Int} {l : Int → Int} (hR : RgE O T B N) (hl : ∀ i, 0 ≤ i → i < N → 0 ≤ l i ∧ l i < 3)
    (hE : ∀ g p c, 0 ≤ g → g < N → 0 ≤ p → p < 10 → 0 ≤ c → c < 3 → O g p c = O' g p c ∧ T g p c = T' g p c ∧ B g p c = B' g p c) :
    ∀ (n : Nat), (n : Int) ≤ N → rnP B l n = rnP B' l n ∧ rnT T B l n = rnT T' B' l n ∧ rnU O B l n = rnU O' B' l n ∧ rnZ O B l n = rnZ O' B' l n := by
  intro n
  induction n with
  | zero => intro _; exact ⟨rfl, rfl, rfl, rfl⟩
  | succ n ih =>
    intro h
    obtain ⟨a, b, c, d⟩ := ih (by omega)
    have h3 := rnP_r hR hl n (by omega)
    have h2 := hl n (by omega) (by omega)
    obtain ⟨e1, e2, e3⟩ := hE n (rnP B l n) (l n) (by omega) (by omega) h3.1 h3.2 h2.1 h2.2
    refine ⟨?_, ?_, ?_, ?_⟩
    · show B n _ _ = B' n _ _; rw [e3, a]
    · show _ + T n _ _ = _ + T' n _ _; rw [e2, b, a]
    · show _ * (20 - O n _ _) = _ * (20 - O' n _ _); rw [e1, c, a]
    · show (if _ ∨ O n _ _ > 0 then (1 : Int) else 0) = if _ ∨ O' n _ _ > 0 then (1 : Int) else 0; rw [e1, d, a]
/-- what a go leaves -/
def GoP (m : XM) (P : Nat) (O T B : TF) (l : Int → Int) (N : Int) : Prop :=
  m P 13 = rnT T B l N.toNat ∧ m P 14 = rnP B l N.toNat ∧ m P 15 = rnZ O B l N.toNat ∧ m P 16 = rnU O B l N.toNat ∧
  ∀ i : Nat, (i : Int) < N → m (P + 11) i = T i (rnP B l i) (l i) ∧ m (P + 12) i = O i (rnP B l i) (l i)
theorem c_Pa_go_85_38 (d z : Nat) (m : XM) (O T B : TF) (N : Int) (hd : 2 ≤ d) (hN : 0 ≤ N ∧ N ≤ 7) (hm : m 85 0 = N)
    (hT : TbE m 85 O T B N) (hR : RgE O T B N) (hl : ∀ i, 0 ≤ i → i < N → 0 ≤ m 38 i ∧ m 38 i < 3) :
    CV d k_Pa_go z m [vR 85, vR 38] (fun m' => (∀ c, c ≠ 85 → c ≠ 96 → c ≠ 97 → m' c = m c) ∧ m' 85 0 = N ∧ GoP m' 85 O T B (m 38) N) := by
  obtain ⟨dd, rfl⟩ : ∃ dd, d = dd + 1 := ⟨d - 1, by omega⟩
  generalize hL : m 38 = l at hl
  have loop : ∀ (c i : Nat) (m1 : XM) (y3 : XV), (i : Int) + c = N → (∀ c, c ≠ 85 → c ≠ 96 → c ≠ 97 → m1 c = m c) → m1 85 0 = N → GoP m1 85 O T B l i →
      RZ (dd + 1) k_Pa_go 22 [vR 85, vR 38, vI (i : Int), y3] [] (zH z m1) (qz z (qv fun m' => (∀ c, c ≠ 85 → c ≠ 96 → c ≠ 97 → m' c = m c) ∧ m' 85 0 = N ∧ GoP m' 85 O T B l N)) := by
    intro c
    induction c with
    | zero =>
      intro i m1 y3 hi fr f0 hG
      have hi2 : (i : Int) = N := by omega
      refine r_loadI a41_22 rfl ?_
      refine r_loadA a41_23 rfl (by decide) ?_
      refine r_getI (ki := 0) a41_24 ty85 rfl ?_
      rw [f0]
      refine r_icge a41_27 (fun h_27 => ?_) (fun h_27 => ?_)
      · refine r_retVq a41_141 ?_
        refine ⟨fr, f0, ?_⟩
        rw [hi2] at hG; exact hG
      · exfalso
        omega
    | succ c ih =>
      intro i m1 y3 hi fr f0 ⟨g1, g2, g3, g4, g5⟩
      have hin : (i : Int) < N := by omega
      have ei : ((i : Int)).toNat = i := by omega
      rw [ei] at g1 g2 g3 g4
      have hp := rnP_r hR hl i (by omega)
      have ht := rnT_r hR hl i (by omega)
      have hu := rnU_r hR hl i (by omega)
      have hpl := p20_le i (by omega)
      have hli := hl i (by omega) hin
      obtain ⟨r1, r2, r3⟩ := hR i (rnP B l i) (l i) (by omega) hin hp.1 hp.2 hli.1 hli.2
      have tab := TbE_cong (fr 87 (by decide) (by decide) (by decide)) (fr 88 (by decide) (by decide) (by decide)) (fr 89 (by decide) (by decide) (by decide)) hT
      obtain ⟨t1, t2, t3⟩ := tab i (rnP B l i) (l i) (by omega) hin hp.1 hp.2 hli.1 hli.2
      have eq1 : m1 38 = l := by rw [fr 38 (by decide) (by decide) (by decide)]; exact hL
      have hz := rnZ_r O B l i
      have hmul : 0 ≤ rnU O B l i * (20 - O i (rnP B l i) (l i)) ∧ rnU O B l i * (20 - O i (rnP B l i) (l i)) ≤ 25600000000 := by
        refine ⟨Int.mul_nonneg hu.1 (by omega), ?_⟩
        have a := Int.mul_le_mul_of_nonneg_left (show 20 - O i (rnP B l i) (l i) ≤ 20 by omega) hu.1
        omega
      have tl1 : rnZ O B l i ≠ 0 ∨ O i (rnP B l i) (l i) > 0 → (1 : Int) = rnZ O B l (i + 1) := by
        intro w
        show (1 : Int) = if rnZ O B l i = 1 ∨ O i (rnP B l i) (l i) > 0 then 1 else 0
        rw [if_pos (by omega)]
      have tl0 : rnZ O B l i = 0 → O i (rnP B l i) (l i) ≤ 0 → (0 : Int) = rnZ O B l (i + 1) := by
        intro w w2
        show (0 : Int) = if rnZ O B l i = 1 ∨ O i (rnP B l i) (l i) > 0 then 1 else 0
        rw [if_neg (by omega)]
      refine r_loadI a41_22 rfl ?_
      refine r_loadA a41_23 rfl (by decide) ?_
      refine r_getI (ki := 0) a41_24 ty85 rfl ?_
      rw [f0]
      refine r_icge a41_27 (fun h_27 => ?_) (fun h_27 => ?_)
      · exfalso
        omega
      · refine r_loadI a41_30 rfl ?_
        refine r_loadA a41_31 rfl (by decide) ?_
        refine r_getI (ki := 14) a41_32 ty85 rfl ?_
        rw [g2]
        refine r_loadA a41_35 rfl (by decide) ?_
        refine r_loadI a41_36 rfl ?_
        refine r_iald a41_37 ty38 (by omega) ?_
        rw [eq1]
        refine r_callI_3 a41_38 (Nat.le_of_ble_eq_true rfl) (le_mx mx31 (Nat.le_of_ble_eq_true rfl)) (Or.inl rfl) (c_Pa_cell dd z m1 i (rnP B l i) (l i) (by omega) hp hli) (fun x_38 m_38 h_38 => ?_)
        obtain ⟨hm_38, h_38⟩ := h_38
        rw [hm_38]
        rw [h_38]
        refine r_storeI_3 a41_41 rfl ?_
        refine r_loadA a41_42 rfl (by decide) ?_
        refine r_getR a41_43 ty85 rf85_11 (by decide) ?_
        refine r_loadI a41_46 rfl ?_
        refine r_loadA a41_47 rfl (by decide) ?_
        refine r_getR a41_48 ty85 rf85_3 (by decide) ?_
        refine r_loadI a41_51 rfl ?_
        refine r_iald a41_52 ty88 (by omega) ?_
        rw [t2]
        refine r_iast a41_53 ty96 (by omega) ?_
        refine r_loadA a41_54 rfl (by decide) ?_
        refine r_getR a41_55 ty85 rf85_12 (by decide) ?_
        refine r_loadI a41_58 rfl ?_
        refine r_loadA a41_59 rfl (by decide) ?_
        refine r_getR a41_60 ty85 rf85_2 (by decide) ?_
        refine r_loadI a41_63 rfl ?_
        refine r_iald a41_64 ty87 (by omega) ?_
        rw [up2_c (by decide), t1]
        refine r_iast a41_65 ty97 (by omega) ?_
        refine r_loadA a41_66 rfl (by decide) ?_
        refine r_dup a41_67 rfl ?_
        refine r_getI (ki := 13) a41_68 ty85 rfl ?_
        refine r_loadA a41_71 rfl (by decide) ?_
        refine r_getR a41_72 ty85 rf85_3 (by decide) ?_
        refine r_loadI a41_75 rfl ?_
        refine r_iald a41_76 ty88 (by omega) ?_
        rw [up2_c (by decide), up2_c (by decide), t2, up2_c (by decide), up2_c (by decide), g1]
        refine r_add a41_77 (by omega) ?_
        refine r_putI (ki := 13) a41_78 ty85 rfl ?_
        refine r_loadA a41_81 rfl (by decide) ?_
        refine r_loadA a41_82 rfl (by decide) ?_
        refine r_getI (ki := 15) a41_83 ty85 rfl ?_
        rw [up2_k (by decide), up2_c (by decide), up2_c (by decide), g3]
        refine r_ifne a41_86 (fun h_86 => ?_) (fun h_86 => ?_)
        · refine r_pushI a41_98 ?_
          refine r_goto a41_99 ?_
          refine r_putZ (ki := 15) a41_103 ty85 rfl (by omega) ?_
          refine r_loadA a41_106 rfl (by decide) ?_
          refine r_dup a41_107 rfl ?_
          refine r_getL (ki := 16) a41_108 ty85 rfl ?_
          rw [up2_k (by decide), up2_k (by decide), up2_c (by decide), up2_c (by decide), g4]
          refine r_pushI a41_111 ?_
          refine r_loadA a41_113 rfl (by decide) ?_
          refine r_getR a41_114 ty85 rf85_2 (by decide) ?_
          refine r_loadI a41_117 rfl ?_
          refine r_iald a41_118 ty87 (by omega) ?_
          rw [up2_c (by decide), up2_c (by decide), up2_c (by decide), up2_c (by decide), t1]
          refine r_sub a41_119 (by omega) ?_
          refine r_i2l a41_120 ?_
          refine r_lmul a41_121 (by omega) ?_
          refine r_putL (ki := 16) a41_122 ty85 rfl ?_
          refine r_loadA a41_125 rfl (by decide) ?_
          refine r_loadA a41_126 rfl (by decide) ?_
          refine r_getR a41_127 ty85 rf85_4 (by decide) ?_
          refine r_loadI a41_130 rfl ?_
          refine r_iald a41_131 ty89 (by omega) ?_
          rw [up2_c (by decide), up2_c (by decide), up2_c (by decide), up2_c (by decide), up2_c (by decide), t3]
          refine r_putI (ki := 14) a41_132 ty85 rfl ?_
          refine r_iinc_2 a41_135 rfl (by omega) ?_
          refine r_goto a41_138 ?_
          refine ih (i + 1) _ _ (by push_cast; omega) (fun c c1 c2 c3 => ?_) ?_ ⟨?_, ?_, ?_, ?_, fun j hj => ?_⟩
          · rw [up2_c c1, up2_c c1, up2_c c1, up2_c c1, up2_c c3, up2_c c2]; exact fr c c1 c2 c3
          · rw [up2_k (by decide), up2_k (by decide), up2_k (by decide), up2_k (by decide), up2_c (by decide), up2_c (by decide)]; exact f0
          · rw [up2_k (by decide), up2_k (by decide), up2_k (by decide), up2_s, Int.toNat_natCast]; rfl
          · rw [up2_s, Int.toNat_natCast]; rfl
          · rw [up2_k (by decide), up2_k (by decide), up2_s, Int.toNat_natCast]
            first | exact tl1 (by omega) | exact tl0 (by omega) (by omega)
          · rw [up2_k (by decide), up2_s, Int.toNat_natCast]; rfl
          · have hj' : j = i ∨ (j : Int) < i := by push_cast at hj; omega
            rw [show (85 + 11 : Nat) = 96 from rfl, show (85 + 12 : Nat) = 97 from rfl]
            refine ⟨?_, ?_⟩
            · rw [up2_c (by decide), up2_c (by decide), up2_c (by decide), up2_c (by decide), up2_c (by decide)]
              rcases hj' with q | q
              · rw [q, up2_s]
              · rw [up2_k (by omega)]; exact (g5 j q).1
            · rw [up2_c (by decide), up2_c (by decide), up2_c (by decide), up2_c (by decide)]
              rcases hj' with q | q
              · rw [q, up2_s]
              · rw [up2_k (by omega), up2_c (by decide)]; exact (g5 j q).2
        · refine r_loadA a41_89 rfl (by decide) ?_
          refine r_getR a41_90 ty85 rf85_2 (by decide) ?_
          refine r_loadI a41_93 rfl ?_
          refine r_iald a41_94 ty87 (by omega) ?_
          rw [up2_c (by decide), up2_c (by decide), up2_c (by decide), t1]
          refine r_ifle a41_95 (fun h_95 => ?_) (fun h_95 => ?_)
          · refine r_pushI a41_102 ?_
            refine r_putZ (ki := 15) a41_103 ty85 rfl (by omega) ?_
            refine r_loadA a41_106 rfl (by decide) ?_
            refine r_dup a41_107 rfl ?_
            refine r_getL (ki := 16) a41_108 ty85 rfl ?_
            rw [up2_k (by decide), up2_k (by decide), up2_c (by decide), up2_c (by decide), g4]
            refine r_pushI a41_111 ?_
            refine r_loadA a41_113 rfl (by decide) ?_
            refine r_getR a41_114 ty85 rf85_2 (by decide) ?_
            refine r_loadI a41_117 rfl ?_
            refine r_iald a41_118 ty87 (by omega) ?_
            rw [up2_c (by decide), up2_c (by decide), up2_c (by decide), up2_c (by decide), t1]
            refine r_sub a41_119 (by omega) ?_
            refine r_i2l a41_120 ?_
            refine r_lmul a41_121 (by omega) ?_
            refine r_putL (ki := 16) a41_122 ty85 rfl ?_
            refine r_loadA a41_125 rfl (by decide) ?_
            refine r_loadA a41_126 rfl (by decide) ?_
            refine r_getR a41_127 ty85 rf85_4 (by decide) ?_
            refine r_loadI a41_130 rfl ?_
            refine r_iald a41_131 ty89 (by omega) ?_
            rw [up2_c (by decide), up2_c (by decide), up2_c (by decide), up2_c (by decide), up2_c (by decide), t3]
            refine r_putI (ki := 14) a41_132 ty85 rfl ?_
            refine r_iinc_2 a41_135 rfl (by omega) ?_
            refine r_goto a41_138 ?_
            refine ih (i + 1) _ _ (by push_cast; omega) (fun c c1 c2 c3 => ?_) ?_ ⟨?_, ?_, ?_, ?_, fun j hj => ?_⟩
            · rw [up2_c c1, up2_c c1, up2_c c1, up2_c c1, up2_c c3, up2_c c2]; exact fr c c1 c2 c3
            · rw [up2_k (by decide), up2_k (by decide), up2_k (by decide), up2_k (by decide), up2_c (by decide), up2_c (by decide)]; exact f0
            · rw [up2_k (by decide), up2_k (by decide), up2_k (by decide), up2_s, Int.toNat_natCast]; rfl
            · rw [up2_s, Int.toNat_natCast]; rfl
            · rw [up2_k (by decide), up2_k (by decide), up2_s, Int.toNat_natCast]
              first | exact tl1 (by omega) | exact tl0 (by omega) (by omega)
            · rw [up2_k (by decide), up2_s, Int.toNat_natCast]; rfl
            · have hj' : j = i ∨ (j : Int) < i := by push_cast at hj; omega
              rw [show (85 + 11 : Nat) = 96 from rfl, show (85 + 12 : Nat) = 97 from rfl]
              refine ⟨?_, ?_⟩
              · rw [up2_c (by decide), up2_c (by decide), up2_c (by decide), up2_c (by decide), up2_c (by decide)]
                rcases hj' with q | q
                · rw [q, up2_s]
                · rw [up2_k (by omega)]; exact (g5 j q).1
              · rw [up2_c (by decide), up2_c (by decide), up2_c (by decide), up2_c (by decide)]
                rcases hj' with q | q
                · rw [q, up2_s]
                · rw [up2_k (by omega), up2_c (by decide)]; exact (g5 j q).2
          · refine r_pushI a41_98 ?_
            refine r_goto a41_99 ?_
            refine r_putZ (ki := 15) a41_103 ty85 rfl (by omega) ?_
            refine r_loadA a41_106 rfl (by decide) ?_
            refine r_dup a41_107 rfl ?_
            refine r_getL (ki := 16) a41_108 ty85 rfl ?_
            rw [up2_k (by decide), up2_k (by decide), up2_c (by decide), up2_c (by decide), g4]
            refine r_pushI a41_111 ?_
            refine r_loadA a41_113 rfl (by decide) ?_
            refine r_getR a41_114 ty85 rf85_2 (by decide) ?_
            refine r_loadI a41_117 rfl ?_
            refine r_iald a41_118 ty87 (by omega) ?_
            rw [up2_c (by decide), up2_c (by decide), up2_c (by decide), up2_c (by decide), t1]
            refine r_sub a41_119 (by omega) ?_
            refine r_i2l a41_120 ?_
            refine r_lmul a41_121 (by omega) ?_
            refine r_putL (ki := 16) a41_122 ty85 rfl ?_
            refine r_loadA a41_125 rfl (by decide) ?_
            refine r_loadA a41_126 rfl (by decide) ?_
            refine r_getR a41_127 ty85 rf85_4 (by decide) ?_
            refine r_loadI a41_130 rfl ?_
            refine r_iald a41_131 ty89 (by omega) ?_
            rw [up2_c (by decide), up2_c (by decide), up2_c (by decide), up2_c (by decide), up2_c (by decide), t3]
            refine r_putI (ki := 14) a41_132 ty85 rfl ?_
            refine r_iinc_2 a41_135 rfl (by omega) ?_
            refine r_goto a41_138 ?_
            refine ih (i + 1) _ _ (by push_cast; omega) (fun c c1 c2 c3 => ?_) ?_ ⟨?_, ?_, ?_, ?_, fun j hj => ?_⟩
            · rw [up2_c c1, up2_c c1, up2_c c1, up2_c c1, up2_c c3, up2_c c2]; exact fr c c1 c2 c3
            · rw [up2_k (by decide), up2_k (by decide), up2_k (by decide), up2_k (by decide), up2_c (by decide), up2_c (by decide)]; exact f0
            · rw [up2_k (by decide), up2_k (by decide), up2_k (by decide), up2_s, Int.toNat_natCast]; rfl
            · rw [up2_s, Int.toNat_natCast]; rfl
            · rw [up2_k (by decide), up2_k (by decide), up2_s, Int.toNat_natCast]
              first | exact tl1 (by omega) | exact tl0 (by omega) (by omega)
            · rw [up2_k (by decide), up2_s, Int.toNat_natCast]; rfl
            · have hj' : j = i ∨ (j : Int) < i := by push_cast at hj; omega
              rw [show (85 + 11 : Nat) = 96 from rfl, show (85 + 12 : Nat) = 97 from rfl]
              refine ⟨?_, ?_⟩
              · rw [up2_c (by decide), up2_c (by decide), up2_c (by decide), up2_c (by decide), up2_c (by decide)]
                rcases hj' with q | q
                · rw [q, up2_s]
                · rw [up2_k (by omega)]; exact (g5 j q).1
              · rw [up2_c (by decide), up2_c (by decide), up2_c (by decide), up2_c (by decide)]
                rcases hj' with q | q
                · rw [q, up2_s]
                · rw [up2_k (by omega), up2_c (by decide)]; exact (g5 j q).2
  refine r_entry mx41 rfl ?_
  refine r_loadA a41_0 rfl (by decide) ?_
  refine r_pushI a41_1 ?_
  refine r_putI (ki := 13) a41_2 ty85 rfl ?_
  refine r_loadA a41_5 rfl (by decide) ?_
  refine r_pushI a41_6 ?_
  refine r_putI (ki := 14) a41_7 ty85 rfl ?_
  refine r_loadA a41_10 rfl (by decide) ?_
  refine r_pushI a41_11 ?_
  refine r_putZ (ki := 15) a41_12 ty85 rfl (by omega) ?_
  refine r_loadA a41_15 rfl (by decide) ?_
  refine r_pushL a41_16 ?_
  refine r_putL (ki := 16) a41_17 ty85 rfl ?_
  refine r_pushI a41_20 ?_
  refine r_storeI_2 a41_21 rfl ?_
  refine loop N.toNat 0 _ _ (by omega) (fun c c1 c2 c3 => ?_) ?_ ⟨?_, ?_, ?_, ?_, fun j hj => ?_⟩
  · rw [up2_c c1, up2_c c1, up2_c c1, up2_c c1]
  · rw [up2_k (by decide), up2_k (by decide), up2_k (by decide), up2_k (by decide)]; exact hm
  · rw [up2_k (by decide), up2_k (by decide), up2_k (by decide), up2_s]; rfl
  · rw [up2_k (by decide), up2_k (by decide), up2_s]; rfl
  · rw [up2_k (by decide), up2_s]; rfl
  · rw [up2_s]; rfl
  · exfalso
    have : (j : Int) < ((0 : Nat) : Int) := hj
    omega
theorem c_Pa_go_85_95 (d z : Nat) (m : XM) (O T B : TF) (N : Int) (hd : 2 ≤ d) (hN : 0 ≤ N ∧ N ≤ 7) (hm : m 85 0 = N)
    (hT : TbE m 85 O T B N) (hR : RgE O T B N) (hl : ∀ i, 0 ≤ i → i < N → 0 ≤ m 95 i ∧ m 95 i < 3) :
    CV d k_Pa_go z m [vR 85, vR 95] (fun m' => (∀ c, c ≠ 85 → c ≠ 96 → c ≠ 97 → m' c = m c) ∧ m' 85 0 = N ∧ GoP m' 85 O T B (m 95) N) := by
  obtain ⟨dd, rfl⟩ : ∃ dd, d = dd + 1 := ⟨d - 1, by omega⟩
  generalize hL : m 95 = l at hl
  have loop : ∀ (c i : Nat) (m1 : XM) (y3 : XV), (i : Int) + c = N → (∀ c, c ≠ 85 → c ≠ 96 → c ≠ 97 → m1 c = m c) → m1 85 0 = N → GoP m1 85 O T B l i →
      RZ (dd + 1) k_Pa_go 22 [vR 85, vR 95, vI (i : Int), y3] [] (zH z m1) (qz z (qv fun m' => (∀ c, c ≠ 85 → c ≠ 96 → c ≠ 97 → m' c = m c) ∧ m' 85 0 = N ∧ GoP m' 85 O T B l N)) := by
    intro c
    induction c with
    | zero =>
      intro i m1 y3 hi fr f0 hG
      have hi2 : (i : Int) = N := by omega
      refine r_loadI a41_22 rfl ?_
      refine r_loadA a41_23 rfl (by decide) ?_
      refine r_getI (ki := 0) a41_24 ty85 rfl ?_
      rw [f0]
      refine r_icge a41_27 (fun h_27 => ?_) (fun h_27 => ?_)
      · refine r_retVq a41_141 ?_
        refine ⟨fr, f0, ?_⟩
        rw [hi2] at hG; exact hG
      · exfalso
        omega
    | succ c ih =>
      intro i m1 y3 hi fr f0 ⟨g1, g2, g3, g4, g5⟩
      have hin : (i : Int) < N := by omega
      have ei : ((i : Int)).toNat = i := by omega
      rw [ei] at g1 g2 g3 g4
      have hp := rnP_r hR hl i (by omega)
      have ht := rnT_r hR hl i (by omega)
      have hu := rnU_r hR hl i (by omega)
      have hpl := p20_le i (by omega)
      have hli := hl i (by omega) hin
      obtain ⟨r1, r2, r3⟩ := hR i (rnP B l i) (l i) (by omega) hin hp.1 hp.2 hli.1 hli.2
      have tab := TbE_cong (fr 87 (by decide) (by decide) (by decide)) (fr 88 (by decide) (by decide) (by decide)) (fr 89 (by decide) (by decide) (by decide)) hT
      obtain ⟨t1, t2, t3⟩ := tab i (rnP B l i) (l i) (by omega) hin hp.1 hp.2 hli.1 hli.2
      have eq1 : m1 95 = l := by rw [fr 95 (by decide) (by decide) (by decide)]; exact hL
      have hz := rnZ_r O B l i
      have hmul : 0 ≤ rnU O B l i * (20 - O i (rnP B l i) (l i)) ∧ rnU O B l i * (20 - O i (rnP B l i) (l i)) ≤ 25600000000 := by
        refine ⟨Int.mul_nonneg hu.1 (by omega), ?_⟩
        have a := Int.mul_le_mul_of_nonneg_left (show 20 - O i (rnP B l i) (l i) ≤ 20 by omega) hu.1
        omega
      have tl1 : rnZ O B l i ≠ 0 ∨ O i (rnP B l i) (l i) > 0 → (1 : Int) = rnZ O B l (i + 1) := by
        intro w
        show (1 : Int) = if rnZ O B l i = 1 ∨ O i (rnP B l i) (l i) > 0 then 1 else 0
        rw [if_pos (by omega)]
      have tl0 : rnZ O B l i = 0 → O i (rnP B l i) (l i) ≤ 0 → (0 : Int) = rnZ O B l (i + 1) := by
        intro w w2
        show (0 : Int) = if rnZ O B l i = 1 ∨ O i (rnP B l i) (l i) > 0 then 1 else 0
        rw [if_neg (by omega)]
      refine r_loadI a41_22 rfl ?_
      refine r_loadA a41_23 rfl (by decide) ?_
      refine r_getI (ki := 0) a41_24 ty85 rfl ?_
      rw [f0]
      refine r_icge a41_27 (fun h_27 => ?_) (fun h_27 => ?_)
      · exfalso
        omega
      · refine r_loadI a41_30 rfl ?_
        refine r_loadA a41_31 rfl (by decide) ?_
        refine r_getI (ki := 14) a41_32 ty85 rfl ?_
        rw [g2]
        refine r_loadA a41_35 rfl (by decide) ?_
        refine r_loadI a41_36 rfl ?_
        refine r_iald a41_37 ty95 (by omega) ?_
        rw [eq1]
        refine r_callI_3 a41_38 (Nat.le_of_ble_eq_true rfl) (le_mx mx31 (Nat.le_of_ble_eq_true rfl)) (Or.inl rfl) (c_Pa_cell dd z m1 i (rnP B l i) (l i) (by omega) hp hli) (fun x_38 m_38 h_38 => ?_)
        obtain ⟨hm_38, h_38⟩ := h_38
        rw [hm_38]
        rw [h_38]
        refine r_storeI_3 a41_41 rfl ?_
        refine r_loadA a41_42 rfl (by decide) ?_
        refine r_getR a41_43 ty85 rf85_11 (by decide) ?_
        refine r_loadI a41_46 rfl ?_
        refine r_loadA a41_47 rfl (by decide) ?_
        refine r_getR a41_48 ty85 rf85_3 (by decide) ?_
        refine r_loadI a41_51 rfl ?_
        refine r_iald a41_52 ty88 (by omega) ?_
        rw [t2]
        refine r_iast a41_53 ty96 (by omega) ?_
        refine r_loadA a41_54 rfl (by decide) ?_
        refine r_getR a41_55 ty85 rf85_12 (by decide) ?_
        refine r_loadI a41_58 rfl ?_
        refine r_loadA a41_59 rfl (by decide) ?_
        refine r_getR a41_60 ty85 rf85_2 (by decide) ?_
        refine r_loadI a41_63 rfl ?_
        refine r_iald a41_64 ty87 (by omega) ?_
        rw [up2_c (by decide), t1]
        refine r_iast a41_65 ty97 (by omega) ?_
        refine r_loadA a41_66 rfl (by decide) ?_
        refine r_dup a41_67 rfl ?_
        refine r_getI (ki := 13) a41_68 ty85 rfl ?_
        refine r_loadA a41_71 rfl (by decide) ?_
        refine r_getR a41_72 ty85 rf85_3 (by decide) ?_
        refine r_loadI a41_75 rfl ?_
        refine r_iald a41_76 ty88 (by omega) ?_
        rw [up2_c (by decide), up2_c (by decide), t2, up2_c (by decide), up2_c (by decide), g1]
        refine r_add a41_77 (by omega) ?_
        refine r_putI (ki := 13) a41_78 ty85 rfl ?_
        refine r_loadA a41_81 rfl (by decide) ?_
        refine r_loadA a41_82 rfl (by decide) ?_
        refine r_getI (ki := 15) a41_83 ty85 rfl ?_
        rw [up2_k (by decide), up2_c (by decide), up2_c (by decide), g3]
        refine r_ifne a41_86 (fun h_86 => ?_) (fun h_86 => ?_)
        · refine r_pushI a41_98 ?_
          refine r_goto a41_99 ?_
          refine r_putZ (ki := 15) a41_103 ty85 rfl (by omega) ?_
          refine r_loadA a41_106 rfl (by decide) ?_
          refine r_dup a41_107 rfl ?_
          refine r_getL (ki := 16) a41_108 ty85 rfl ?_
          rw [up2_k (by decide), up2_k (by decide), up2_c (by decide), up2_c (by decide), g4]
          refine r_pushI a41_111 ?_
          refine r_loadA a41_113 rfl (by decide) ?_
          refine r_getR a41_114 ty85 rf85_2 (by decide) ?_
          refine r_loadI a41_117 rfl ?_
          refine r_iald a41_118 ty87 (by omega) ?_
          rw [up2_c (by decide), up2_c (by decide), up2_c (by decide), up2_c (by decide), t1]
          refine r_sub a41_119 (by omega) ?_
          refine r_i2l a41_120 ?_
          refine r_lmul a41_121 (by omega) ?_
          refine r_putL (ki := 16) a41_122 ty85 rfl ?_
          refine r_loadA a41_125 rfl (by decide) ?_
          refine r_loadA a41_126 rfl (by decide) ?_
          refine r_getR a41_127 ty85 rf85_4 (by decide) ?_
          refine r_loadI a41_130 rfl ?_
          refine r_iald a41_131 ty89 (by omega) ?_
          rw [up2_c (by decide), up2_c (by decide), up2_c (by decide), up2_c (by decide), up2_c (by decide), t3]
          refine r_putI (ki := 14) a41_132 ty85 rfl ?_
          refine r_iinc_2 a41_135 rfl (by omega) ?_
          refine r_goto a41_138 ?_
          refine ih (i + 1) _ _ (by push_cast; omega) (fun c c1 c2 c3 => ?_) ?_ ⟨?_, ?_, ?_, ?_, fun j hj => ?_⟩
          · rw [up2_c c1, up2_c c1, up2_c c1, up2_c c1, up2_c c3, up2_c c2]; exact fr c c1 c2 c3
          · rw [up2_k (by decide), up2_k (by decide), up2_k (by decide), up2_k (by decide), up2_c (by decide), up2_c (by decide)]; exact f0
          · rw [up2_k (by decide), up2_k (by decide), up2_k (by decide), up2_s, Int.toNat_natCast]; rfl
          · rw [up2_s, Int.toNat_natCast]; rfl
          · rw [up2_k (by decide), up2_k (by decide), up2_s, Int.toNat_natCast]
            first | exact tl1 (by omega) | exact tl0 (by omega) (by omega)
          · rw [up2_k (by decide), up2_s, Int.toNat_natCast]; rfl
          · have hj' : j = i ∨ (j : Int) < i := by push_cast at hj; omega
            rw [show (85 + 11 : Nat) = 96 from rfl, show (85 + 12 : Nat) = 97 from rfl]
            refine ⟨?_, ?_⟩
            · rw [up2_c (by decide), up2_c (by decide), up2_c (by decide), up2_c (by decide), up2_c (by decide)]
              rcases hj' with q | q
              · rw [q, up2_s]
              · rw [up2_k (by omega)]; exact (g5 j q).1
            · rw [up2_c (by decide), up2_c (by decide), up2_c (by decide), up2_c (by decide)]
              rcases hj' with q | q
              · rw [q, up2_s]
              · rw [up2_k (by omega), up2_c (by decide)]; exact (g5 j q).2
        · refine r_loadA a41_89 rfl (by decide) ?_
          refine r_getR a41_90 ty85 rf85_2 (by decide) ?_
          refine r_loadI a41_93 rfl ?_
          refine r_iald a41_94 ty87 (by omega) ?_
          rw [up2_c (by decide), up2_c (by decide), up2_c (by decide), t1]
          refine r_ifle a41_95 (fun h_95 => ?_) (fun h_95 => ?_)
          · refine r_pushI a41_102 ?_
            refine r_putZ (ki := 15) a41_103 ty85 rfl (by omega) ?_
            refine r_loadA a41_106 rfl (by decide) ?_
            refine r_dup a41_107 rfl ?_
            refine r_getL (ki := 16) a41_108 ty85 rfl ?_
            rw [up2_k (by decide), up2_k (by decide), up2_c (by decide), up2_c (by decide), g4]
            refine r_pushI a41_111 ?_
            refine r_loadA a41_113 rfl (by decide) ?_
            refine r_getR a41_114 ty85 rf85_2 (by decide) ?_
            refine r_loadI a41_117 rfl ?_
            refine r_iald a41_118 ty87 (by omega) ?_
            rw [up2_c (by decide), up2_c (by decide), up2_c (by decide), up2_c (by decide), t1]
            refine r_sub a41_119 (by omega) ?_
            refine r_i2l a41_120 ?_
            refine r_lmul a41_121 (by omega) ?_
            refine r_putL (ki := 16) a41_122 ty85 rfl ?_
            refine r_loadA a41_125 rfl (by decide) ?_
            refine r_loadA a41_126 rfl (by decide) ?_
            refine r_getR a41_127 ty85 rf85_4 (by decide) ?_
            refine r_loadI a41_130 rfl ?_
            refine r_iald a41_131 ty89 (by omega) ?_
            rw [up2_c (by decide), up2_c (by decide), up2_c (by decide), up2_c (by decide), up2_c (by decide), t3]
            refine r_putI (ki := 14) a41_132 ty85 rfl ?_
            refine r_iinc_2 a41_135 rfl (by omega) ?_
            refine r_goto a41_138 ?_
            refine ih (i + 1) _ _ (by push_cast; omega) (fun c c1 c2 c3 => ?_) ?_ ⟨?_, ?_, ?_, ?_, fun j hj => ?_⟩
            · rw [up2_c c1, up2_c c1, up2_c c1, up2_c c1, up2_c c3, up2_c c2]; exact fr c c1 c2 c3
            · rw [up2_k (by decide), up2_k (by decide), up2_k (by decide), up2_k (by decide), up2_c (by decide), up2_c (by decide)]; exact f0
            · rw [up2_k (by decide), up2_k (by decide), up2_k (by decide), up2_s, Int.toNat_natCast]; rfl
            · rw [up2_s, Int.toNat_natCast]; rfl
            · rw [up2_k (by decide), up2_k (by decide), up2_s, Int.toNat_natCast]
              first | exact tl1 (by omega) | exact tl0 (by omega) (by omega)
            · rw [up2_k (by decide), up2_s, Int.toNat_natCast]; rfl
            · have hj' : j = i ∨ (j : Int) < i := by push_cast at hj; omega
              rw [show (85 + 11 : Nat) = 96 from rfl, show (85 + 12 : Nat) = 97 from rfl]
              refine ⟨?_, ?_⟩
              · rw [up2_c (by decide), up2_c (by decide), up2_c (by decide), up2_c (by decide), up2_c (by decide)]
                rcases hj' with q | q
                · rw [q, up2_s]
                · rw [up2_k (by omega)]; exact (g5 j q).1
              · rw [up2_c (by decide), up2_c (by decide), up2_c (by decide), up2_c (by decide)]
                rcases hj' with q | q
                · rw [q, up2_s]
                · rw [up2_k (by omega), up2_c (by decide)]; exact (g5 j q).2
          · refine r_pushI a41_98 ?_
            refine r_goto a41_99 ?_
            refine r_putZ (ki := 15) a41_103 ty85 rfl (by omega) ?_
            refine r_loadA a41_106 rfl (by decide) ?_
            refine r_dup a41_107 rfl ?_
            refine r_getL (ki := 16) a41_108 ty85 rfl ?_
            rw [up2_k (by decide), up2_k (by decide), up2_c (by decide), up2_c (by decide), g4]
            refine r_pushI a41_111 ?_
            refine r_loadA a41_113 rfl (by decide) ?_
            refine r_getR a41_114 ty85 rf85_2 (by decide) ?_
            refine r_loadI a41_117 rfl ?_
            refine r_iald a41_118 ty87 (by omega) ?_
            rw [up2_c (by decide), up2_c (by decide), up2_c (by decide), up2_c (by decide), t1]
            refine r_sub a41_119 (by omega) ?_
            refine r_i2l a41_120 ?_
            refine r_lmul a41_121 (by omega) ?_
            refine r_putL (ki := 16) a41_122 ty85 rfl ?_
            refine r_loadA a41_125 rfl (by decide) ?_
            refine r_loadA a41_126 rfl (by decide) ?_
            refine r_getR a41_127 ty85 rf85_4 (by decide) ?_
            refine r_loadI a41_130 rfl ?_
            refine r_iald a41_131 ty89 (by omega) ?_
            rw [up2_c (by decide), up2_c (by decide), up2_c (by decide), up2_c (by decide), up2_c (by decide), t3]
            refine r_putI (ki := 14) a41_132 ty85 rfl ?_
            refine r_iinc_2 a41_135 rfl (by omega) ?_
            refine r_goto a41_138 ?_
            refine ih (i + 1) _ _ (by push_cast; omega) (fun c c1 c2 c3 => ?_) ?_ ⟨?_, ?_, ?_, ?_, fun j hj => ?_⟩
            · rw [up2_c c1, up2_c c1, up2_c c1, up2_c c1, up2_c c3, up2_c c2]; exact fr c c1 c2 c3
            · rw [up2_k (by decide), up2_k (by decide), up2_k (by decide), up2_k (by decide), up2_c (by decide), up2_c (by decide)]; exact f0
            · rw [up2_k (by decide), up2_k (by decide), up2_k (by decide), up2_s, Int.toNat_natCast]; rfl
            · rw [up2_s, Int.toNat_natCast]; rfl
            · rw [up2_k (by decide), up2_k (by decide), up2_s, Int.toNat_natCast]
              first | exact tl1 (by omega) | exact tl0 (by omega) (by omega)
            · rw [up2_k (by decide), up2_s, Int.toNat_natCast]; rfl
            · have hj' : j = i ∨ (j : Int) < i := by push_cast at hj; omega
              rw [show (85 + 11 : Nat) = 96 from rfl, show (85 + 12 : Nat) = 97 from rfl]
              refine ⟨?_, ?_⟩
              · rw [up2_c (by decide), up2_c (by decide), up2_c (by decide), up2_c (by decide), up2_c (by decide)]
                rcases hj' with q | q
                · rw [q, up2_s]
                · rw [up2_k (by omega)]; exact (g5 j q).1
              · rw [up2_c (by decide), up2_c (by decide), up2_c (by decide), up2_c (by decide)]
                rcases hj' with q | q
                · rw [q, up2_s]
                · rw [up2_k (by omega), up2_c (by decide)]; exact (g5 j q).2
  refine r_entry mx41 rfl ?_
  refine r_loadA a41_0 rfl (by decide) ?_
  refine r_pushI a41_1 ?_
  refine r_putI (ki := 13) a41_2 ty85 rfl ?_
  refine r_loadA a41_5 rfl (by decide) ?_
  refine r_pushI a41_6 ?_
  refine r_putI (ki := 14) a41_7 ty85 rfl ?_
  refine r_loadA a41_10 rfl (by decide) ?_
  refine r_pushI a41_11 ?_
  refine r_putZ (ki := 15) a41_12 ty85 rfl (by omega) ?_
  refine r_loadA a41_15 rfl (by decide) ?_
  refine r_pushL a41_16 ?_
  refine r_putL (ki := 16) a41_17 ty85 rfl ?_
  refine r_pushI a41_20 ?_
  refine r_storeI_2 a41_21 rfl ?_
  refine loop N.toNat 0 _ _ (by omega) (fun c c1 c2 c3 => ?_) ?_ ⟨?_, ?_, ?_, ?_, fun j hj => ?_⟩
  · rw [up2_c c1, up2_c c1, up2_c c1, up2_c c1]
  · rw [up2_k (by decide), up2_k (by decide), up2_k (by decide), up2_k (by decide)]; exact hm
  · rw [up2_k (by decide), up2_k (by decide), up2_k (by decide), up2_s]; rfl
  · rw [up2_k (by decide), up2_k (by decide), up2_s]; rfl
  · rw [up2_k (by decide), up2_s]; rfl
  · rw [up2_s]; rfl
  · exfalso
    have : (j : Int) < ((0 : Nat) : Int) := hj
    omega
theorem c_Pa_go_98_108 (d z : Nat) (m : XM) (O T B : TF) (N : Int) (hd : 2 ≤ d) (hN : 0 ≤ N ∧ N ≤ 7) (hm : m 98 0 = N)
    (hT : TbE m 98 O T B N) (hR : RgE O T B N) (hl : ∀ i, 0 ≤ i → i < N → 0 ≤ m 108 i ∧ m 108 i < 3) :
    CV d k_Pa_go z m [vR 98, vR 108] (fun m' => (∀ c, c ≠ 98 → c ≠ 109 → c ≠ 110 → m' c = m c) ∧ m' 98 0 = N ∧ GoP m' 98 O T B (m 108) N) := by
  obtain ⟨dd, rfl⟩ : ∃ dd, d = dd + 1 := ⟨d - 1, by omega⟩
  generalize hL : m 108 = l at hl
  have loop : ∀ (c i : Nat) (m1 : XM) (y3 : XV), (i : Int) + c = N → (∀ c, c ≠ 98 → c ≠ 109 → c ≠ 110 → m1 c = m c) → m1 98 0 = N → GoP m1 98 O T B l i →
      RZ (dd + 1) k_Pa_go 22 [vR 98, vR 108, vI (i : Int), y3] [] (zH z m1) (qz z (qv fun m' => (∀ c, c ≠ 98 → c ≠ 109 → c ≠ 110 → m' c = m c) ∧ m' 98 0 = N ∧ GoP m' 98 O T B l N)) := by
    intro c
    induction c with
    | zero =>
      intro i m1 y3 hi fr f0 hG
      have hi2 : (i : Int) = N := by omega
      refine r_loadI a41_22 rfl ?_
      refine r_loadA a41_23 rfl (by decide) ?_
      refine r_getI (ki := 0) a41_24 ty98 rfl ?_
      rw [f0]
      refine r_icge a41_27 (fun h_27 => ?_) (fun h_27 => ?_)
      · refine r_retVq a41_141 ?_
        refine ⟨fr, f0, ?_⟩
        rw [hi2] at hG; exact hG
      · exfalso
        omega
    | succ c ih =>
      intro i m1 y3 hi fr f0 ⟨g1, g2, g3, g4, g5⟩
      have hin : (i : Int) < N := by omega
      have ei : ((i : Int)).toNat = i := by omega
      rw [ei] at g1 g2 g3 g4
      have hp := rnP_r hR hl i (by omega)
      have ht := rnT_r hR hl i (by omega)
      have hu := rnU_r hR hl i (by omega)
      have hpl := p20_le i (by omega)
      have hli := hl i (by omega) hin
      obtain ⟨r1, r2, r3⟩ := hR i (rnP B l i) (l i) (by omega) hin hp.1 hp.2 hli.1 hli.2
      have tab := TbE_cong (fr 100 (by decide) (by decide) (by decide)) (fr 101 (by decide) (by decide) (by decide)) (fr 102 (by decide) (by decide) (by decide)) hT
      obtain ⟨t1, t2, t3⟩ := tab i (rnP B l i) (l i) (by omega) hin hp.1 hp.2 hli.1 hli.2
      have eq1 : m1 108 = l := by rw [fr 108 (by decide) (by decide) (by decide)]; exact hL
      have hz := rnZ_r O B l i
      have hmul : 0 ≤ rnU O B l i * (20 - O i (rnP B l i) (l i)) ∧ rnU O B l i * (20 - O i (rnP B l i) (l i)) ≤ 25600000000 := by
        refine ⟨Int.mul_nonneg hu.1 (by omega), ?_⟩
        have a := Int.mul_le_mul_of_nonneg_left (show 20 - O i (rnP B l i) (l i) ≤ 20 by omega) hu.1
        omega
      have tl1 : rnZ O B l i ≠ 0 ∨ O i (rnP B l i) (l i) > 0 → (1 : Int) = rnZ O B l (i + 1) := by
        intro w
        show (1 : Int) = if rnZ O B l i = 1 ∨ O i (rnP B l i) (l i) > 0 then 1 else 0
        rw [if_pos (by omega)]
      have tl0 : rnZ O B l i = 0 → O i (rnP B l i) (l i) ≤ 0 → (0 : Int) = rnZ O B l (i + 1) := by
        intro w w2
        show (0 : Int) = if rnZ O B l i = 1 ∨ O i (rnP B l i) (l i) > 0 then 1 else 0
        rw [if_neg (by omega)]
      refine r_loadI a41_22 rfl ?_
      refine r_loadA a41_23 rfl (by decide) ?_
      refine r_getI (ki := 0) a41_24 ty98 rfl ?_
      rw [f0]
      refine r_icge a41_27 (fun h_27 => ?_) (fun h_27 => ?_)
      · exfalso
        omega
      · refine r_loadI a41_30 rfl ?_
        refine r_loadA a41_31 rfl (by decide) ?_
        refine r_getI (ki := 14) a41_32 ty98 rfl ?_
        rw [g2]
        refine r_loadA a41_35 rfl (by decide) ?_
        refine r_loadI a41_36 rfl ?_
        refine r_iald a41_37 ty108 (by omega) ?_
        rw [eq1]
        refine r_callI_3 a41_38 (Nat.le_of_ble_eq_true rfl) (le_mx mx31 (Nat.le_of_ble_eq_true rfl)) (Or.inl rfl) (c_Pa_cell dd z m1 i (rnP B l i) (l i) (by omega) hp hli) (fun x_38 m_38 h_38 => ?_)
        obtain ⟨hm_38, h_38⟩ := h_38
        rw [hm_38]
        rw [h_38]
        refine r_storeI_3 a41_41 rfl ?_
        refine r_loadA a41_42 rfl (by decide) ?_
        refine r_getR a41_43 ty98 rf98_11 (by decide) ?_
        refine r_loadI a41_46 rfl ?_
        refine r_loadA a41_47 rfl (by decide) ?_
        refine r_getR a41_48 ty98 rf98_3 (by decide) ?_
        refine r_loadI a41_51 rfl ?_
        refine r_iald a41_52 ty101 (by omega) ?_
        rw [t2]
        refine r_iast a41_53 ty109 (by omega) ?_
        refine r_loadA a41_54 rfl (by decide) ?_
        refine r_getR a41_55 ty98 rf98_12 (by decide) ?_
        refine r_loadI a41_58 rfl ?_
        refine r_loadA a41_59 rfl (by decide) ?_
        refine r_getR a41_60 ty98 rf98_2 (by decide) ?_
        refine r_loadI a41_63 rfl ?_
        refine r_iald a41_64 ty100 (by omega) ?_
        rw [up2_c (by decide), t1]
        refine r_iast a41_65 ty110 (by omega) ?_
        refine r_loadA a41_66 rfl (by decide) ?_
        refine r_dup a41_67 rfl ?_
        refine r_getI (ki := 13) a41_68 ty98 rfl ?_
        refine r_loadA a41_71 rfl (by decide) ?_
        refine r_getR a41_72 ty98 rf98_3 (by decide) ?_
        refine r_loadI a41_75 rfl ?_
        refine r_iald a41_76 ty101 (by omega) ?_
        rw [up2_c (by decide), up2_c (by decide), t2, up2_c (by decide), up2_c (by decide), g1]
        refine r_add a41_77 (by omega) ?_
        refine r_putI (ki := 13) a41_78 ty98 rfl ?_
        refine r_loadA a41_81 rfl (by decide) ?_
        refine r_loadA a41_82 rfl (by decide) ?_
        refine r_getI (ki := 15) a41_83 ty98 rfl ?_
        rw [up2_k (by decide), up2_c (by decide), up2_c (by decide), g3]
        refine r_ifne a41_86 (fun h_86 => ?_) (fun h_86 => ?_)
        · refine r_pushI a41_98 ?_
          refine r_goto a41_99 ?_
          refine r_putZ (ki := 15) a41_103 ty98 rfl (by omega) ?_
          refine r_loadA a41_106 rfl (by decide) ?_
          refine r_dup a41_107 rfl ?_
          refine r_getL (ki := 16) a41_108 ty98 rfl ?_
          rw [up2_k (by decide), up2_k (by decide), up2_c (by decide), up2_c (by decide), g4]
          refine r_pushI a41_111 ?_
          refine r_loadA a41_113 rfl (by decide) ?_
          refine r_getR a41_114 ty98 rf98_2 (by decide) ?_
          refine r_loadI a41_117 rfl ?_
          refine r_iald a41_118 ty100 (by omega) ?_
          rw [up2_c (by decide), up2_c (by decide), up2_c (by decide), up2_c (by decide), t1]
          refine r_sub a41_119 (by omega) ?_
          refine r_i2l a41_120 ?_
          refine r_lmul a41_121 (by omega) ?_
          refine r_putL (ki := 16) a41_122 ty98 rfl ?_
          refine r_loadA a41_125 rfl (by decide) ?_
          refine r_loadA a41_126 rfl (by decide) ?_
          refine r_getR a41_127 ty98 rf98_4 (by decide) ?_
          refine r_loadI a41_130 rfl ?_
          refine r_iald a41_131 ty102 (by omega) ?_
          rw [up2_c (by decide), up2_c (by decide), up2_c (by decide), up2_c (by decide), up2_c (by decide), t3]
          refine r_putI (ki := 14) a41_132 ty98 rfl ?_
          refine r_iinc_2 a41_135 rfl (by omega) ?_
          refine r_goto a41_138 ?_
          refine ih (i + 1) _ _ (by push_cast; omega) (fun c c1 c2 c3 => ?_) ?_ ⟨?_, ?_, ?_, ?_, fun j hj => ?_⟩
          · rw [up2_c c1, up2_c c1, up2_c c1, up2_c c1, up2_c c3, up2_c c2]; exact fr c c1 c2 c3
          · rw [up2_k (by decide), up2_k (by decide), up2_k (by decide), up2_k (by decide), up2_c (by decide), up2_c (by decide)]; exact f0
          · rw [up2_k (by decide), up2_k (by decide), up2_k (by decide), up2_s, Int.toNat_natCast]; rfl
          · rw [up2_s, Int.toNat_natCast]; rfl
          · rw [up2_k (by decide), up2_k (by decide), up2_s, Int.toNat_natCast]
            first | exact tl1 (by omega) | exact tl0 (by omega) (by omega)
          · rw [up2_k (by decide), up2_s, Int.toNat_natCast]; rfl
          · have hj' : j = i ∨ (j : Int) < i := by push_cast at hj; omega
            rw [show (98 + 11 : Nat) = 109 from rfl, show (98 + 12 : Nat) = 110 from rfl]
            refine ⟨?_, ?_⟩
            · rw [up2_c (by decide), up2_c (by decide), up2_c (by decide), up2_c (by decide), up2_c (by decide)]
              rcases hj' with q | q
              · rw [q, up2_s]
              · rw [up2_k (by omega)]; exact (g5 j q).1
            · rw [up2_c (by decide), up2_c (by decide), up2_c (by decide), up2_c (by decide)]
              rcases hj' with q | q
              · rw [q, up2_s]
              · rw [up2_k (by omega), up2_c (by decide)]; exact (g5 j q).2
        · refine r_loadA a41_89 rfl (by decide) ?_
          refine r_getR a41_90 ty98 rf98_2 (by decide) ?_
          refine r_loadI a41_93 rfl ?_
          refine r_iald a41_94 ty100 (by omega) ?_
          rw [up2_c (by decide), up2_c (by decide), up2_c (by decide), t1]
          refine r_ifle a41_95 (fun h_95 => ?_) (fun h_95 => ?_)
          · refine r_pushI a41_102 ?_
            refine r_putZ (ki := 15) a41_103 ty98 rfl (by omega) ?_
            refine r_loadA a41_106 rfl (by decide) ?_
            refine r_dup a41_107 rfl ?_
            refine r_getL (ki := 16) a41_108 ty98 rfl ?_
            rw [up2_k (by decide), up2_k (by decide), up2_c (by decide), up2_c (by decide), g4]
            refine r_pushI a41_111 ?_
            refine r_loadA a41_113 rfl (by decide) ?_
            refine r_getR a41_114 ty98 rf98_2 (by decide) ?_
            refine r_loadI a41_117 rfl ?_
            refine r_iald a41_118 ty100 (by omega) ?_
            rw [up2_c (by decide), up2_c (by decide), up2_c (by decide), up2_c (by decide), t1]
            refine r_sub a41_119 (by omega) ?_
            refine r_i2l a41_120 ?_
            refine r_lmul a41_121 (by omega) ?_
            refine r_putL (ki := 16) a41_122 ty98 rfl ?_
            refine r_loadA a41_125 rfl (by decide) ?_
            refine r_loadA a41_126 rfl (by decide) ?_
            refine r_getR a41_127 ty98 rf98_4 (by decide) ?_
            refine r_loadI a41_130 rfl ?_
            refine r_iald a41_131 ty102 (by omega) ?_
            rw [up2_c (by decide), up2_c (by decide), up2_c (by decide), up2_c (by decide), up2_c (by decide), t3]
            refine r_putI (ki := 14) a41_132 ty98 rfl ?_
            refine r_iinc_2 a41_135 rfl (by omega) ?_
            refine r_goto a41_138 ?_
            refine ih (i + 1) _ _ (by push_cast; omega) (fun c c1 c2 c3 => ?_) ?_ ⟨?_, ?_, ?_, ?_, fun j hj => ?_⟩
            · rw [up2_c c1, up2_c c1, up2_c c1, up2_c c1, up2_c c3, up2_c c2]; exact fr c c1 c2 c3
            · rw [up2_k (by decide), up2_k (by decide), up2_k (by decide), up2_k (by decide), up2_c (by decide), up2_c (by decide)]; exact f0
            · rw [up2_k (by decide), up2_k (by decide), up2_k (by decide), up2_s, Int.toNat_natCast]; rfl
            · rw [up2_s, Int.toNat_natCast]; rfl
            · rw [up2_k (by decide), up2_k (by decide), up2_s, Int.toNat_natCast]
              first | exact tl1 (by omega) | exact tl0 (by omega) (by omega)
            · rw [up2_k (by decide), up2_s, Int.toNat_natCast]; rfl
            · have hj' : j = i ∨ (j : Int) < i := by push_cast at hj; omega
              rw [show (98 + 11 : Nat) = 109 from rfl, show (98 + 12 : Nat) = 110 from rfl]
              refine ⟨?_, ?_⟩
              · rw [up2_c (by decide), up2_c (by decide), up2_c (by decide), up2_c (by decide), up2_c (by decide)]
                rcases hj' with q | q
                · rw [q, up2_s]
                · rw [up2_k (by omega)]; exact (g5 j q).1
              · rw [up2_c (by decide), up2_c (by decide), up2_c (by decide), up2_c (by decide)]
                rcases hj' with q | q
                · rw [q, up2_s]
                · rw [up2_k (by omega), up2_c (by decide)]; exact (g5 j q).2
          · refine r_pushI a41_98 ?_
            refine r_goto a41_99 ?_
            refine r_putZ (ki := 15) a41_103 ty98 rfl (by omega) ?_
            refine r_loadA a41_106 rfl (by decide) ?_
            refine r_dup a41_107 rfl ?_
            refine r_getL (ki := 16) a41_108 ty98 rfl ?_
            rw [up2_k (by decide), up2_k (by decide), up2_c (by decide), up2_c (by decide), g4]
            refine r_pushI a41_111 ?_
            refine r_loadA a41_113 rfl (by decide) ?_
            refine r_getR a41_114 ty98 rf98_2 (by decide) ?_
            refine r_loadI a41_117 rfl ?_
            refine r_iald a41_118 ty100 (by omega) ?_
            rw [up2_c (by decide), up2_c (by decide), up2_c (by decide), up2_c (by decide), t1]
            refine r_sub a41_119 (by omega) ?_
            refine r_i2l a41_120 ?_
            refine r_lmul a41_121 (by omega) ?_
            refine r_putL (ki := 16) a41_122 ty98 rfl ?_
            refine r_loadA a41_125 rfl (by decide) ?_
            refine r_loadA a41_126 rfl (by decide) ?_
            refine r_getR a41_127 ty98 rf98_4 (by decide) ?_
            refine r_loadI a41_130 rfl ?_
            refine r_iald a41_131 ty102 (by omega) ?_
            rw [up2_c (by decide), up2_c (by decide), up2_c (by decide), up2_c (by decide), up2_c (by decide), t3]
            refine r_putI (ki := 14) a41_132 ty98 rfl ?_
            refine r_iinc_2 a41_135 rfl (by omega) ?_
            refine r_goto a41_138 ?_
            refine ih (i + 1) _ _ (by push_cast; omega) (fun c c1 c2 c3 => ?_) ?_ ⟨?_, ?_, ?_, ?_, fun j hj => ?_⟩
            · rw [up2_c c1, up2_c c1, up2_c c1, up2_c c1, up2_c c3, up2_c c2]; exact fr c c1 c2 c3
            · rw [up2_k (by decide), up2_k (by decide), up2_k (by decide), up2_k (by decide), up2_c (by decide), up2_c (by decide)]; exact f0
            · rw [up2_k (by decide), up2_k (by decide), up2_k (by decide), up2_s, Int.toNat_natCast]; rfl
            · rw [up2_s, Int.toNat_natCast]; rfl
            · rw [up2_k (by decide), up2_k (by decide), up2_s, Int.toNat_natCast]
              first | exact tl1 (by omega) | exact tl0 (by omega) (by omega)
            · rw [up2_k (by decide), up2_s, Int.toNat_natCast]; rfl
            · have hj' : j = i ∨ (j : Int) < i := by push_cast at hj; omega
              rw [show (98 + 11 : Nat) = 109 from rfl, show (98 + 12 : Nat) = 110 from rfl]
              refine ⟨?_, ?_⟩
              · rw [up2_c (by decide), up2_c (by decide), up2_c (by decide), up2_c (by decide), up2_c (by decide)]
                rcases hj' with q | q
                · rw [q, up2_s]
                · rw [up2_k (by omega)]; exact (g5 j q).1
              · rw [up2_c (by decide), up2_c (by decide), up2_c (by decide), up2_c (by decide)]
                rcases hj' with q | q
                · rw [q, up2_s]
                · rw [up2_k (by omega), up2_c (by decide)]; exact (g5 j q).2
  refine r_entry mx41 rfl ?_
  refine r_loadA a41_0 rfl (by decide) ?_
  refine r_pushI a41_1 ?_
  refine r_putI (ki := 13) a41_2 ty98 rfl ?_
  refine r_loadA a41_5 rfl (by decide) ?_
  refine r_pushI a41_6 ?_
  refine r_putI (ki := 14) a41_7 ty98 rfl ?_
  refine r_loadA a41_10 rfl (by decide) ?_
  refine r_pushI a41_11 ?_
  refine r_putZ (ki := 15) a41_12 ty98 rfl (by omega) ?_
  refine r_loadA a41_15 rfl (by decide) ?_
  refine r_pushL a41_16 ?_
  refine r_putL (ki := 16) a41_17 ty98 rfl ?_
  refine r_pushI a41_20 ?_
  refine r_storeI_2 a41_21 rfl ?_
  refine loop N.toNat 0 _ _ (by omega) (fun c c1 c2 c3 => ?_) ?_ ⟨?_, ?_, ?_, ?_, fun j hj => ?_⟩
  · rw [up2_c c1, up2_c c1, up2_c c1, up2_c c1]
  · rw [up2_k (by decide), up2_k (by decide), up2_k (by decide), up2_k (by decide)]; exact hm
  · rw [up2_k (by decide), up2_k (by decide), up2_k (by decide), up2_s]; rfl
  · rw [up2_k (by decide), up2_k (by decide), up2_s]; rfl
  · rw [up2_k (by decide), up2_s]; rfl
  · rw [up2_s]; rfl
  · exfalso
    have : (j : Int) < ((0 : Nat) : Int) := hj
    omega
-- ===== the best line =====
theorem pathL_head (O T B : TF) (ns : Prop) [Decidable ns] (n : Nat) (i p : Int) : pathL O T B ns (n + 1) i p i = (LC O T B ns (n + 1) i p).2 := if_pos rfl
theorem pathL_tail (O T B : TF) (ns : Prop) [Decidable ns] (n : Nat) (i p k : Int) (h : k ≠ i) : pathL O T B ns (n + 1) i p k = pathL O T B ns n (i + 1) (B i p (LC O T B ns (n + 1) i p).2) k := if_neg h
/-- gate by gate: the line of the least time at the pace that it brings -/
theorem pathL_at (O T B : TF) (ns : Prop) [Decidable ns] (N : Nat) : ∀ (i : Nat) (n : Nat), i + n = N → ∀ k : Int, (i : Int) ≤ k →
    pathL O T B ns N 0 3 k = pathL O T B ns n i (rnP B (pathL O T B ns N 0 3) i) k := by
  intro i
  induction i with
  | zero => intro n h k _; have : n = N := by omega
            rw [this]; rfl
  | succ i ih =>
    intro n h k hk
    push_cast at hk
    have h1 := ih (n + 1) (by omega) k (by omega)
    have h2 := ih (n + 1) (by omega) i (by omega)
    rw [pathL_head] at h2
    rw [h1, pathL_tail _ _ _ _ _ _ _ _ (by omega), ← h2]
    rfl
theorem pathL_lc (O T B : TF) (ns : Prop) [Decidable ns] (N i : Nat) (h : i < N) : pathL O T B ns N 0 3 i = (LC O T B ns (N - i) i (rnP B (pathL O T B ns N 0 3) i)).2 := by
  obtain ⟨n, rfl⟩ : ∃ n, N = i + (n + 1) := ⟨N - i - 1, by omega⟩
  rw [pathL_at O T B ns (i + (n + 1)) i (n + 1) rfl i (by omega), pathL_head]
  have e : i + (n + 1) - i = n + 1 := by omega
  rw [e]
theorem pathL_r {O T B : TF} {N : Int} (ns : Prop) [Decidable ns] (hR : RgE O T B N) : ∀ (n : Nat) (i p k : Int), 0 ≤ i → i + n ≤ N → 0 ≤ p → p < 10 → 0 ≤ pathL O T B ns n i p k ∧ pathL O T B ns n i p k < 3 := by
  intro n
  induction n with
  | zero => intro i p k _ _ _ _; show 0 ≤ (0 : Int) ∧ (0 : Int) < 3; omega
  | succ n ih =>
    intro i p k hi hn p1 p2
    obtain ⟨_, _, h1, h2⟩ := LC_r ns hR (n + 1) i p hi hn p1 p2
    by_cases hk : k = i
    · rw [hk, pathL_head]; omega
    · rw [pathL_tail _ _ _ _ _ _ _ _ hk]
      have hB := (hR i p _ hi (by omega) p1 p2 h1 (by omega)).2.2
      exact ih (i + 1) _ k (by omega) (by push_cast at hn; omega) hB.1 (by omega)
theorem c_Pa_goByBest_85 (d z : Nat) (m : XM) (O T B : TF) (N f : Int) (hd : 3 ≤ d) (hN : 0 ≤ N ∧ N ≤ 7) (hm : m 85 0 = N)
    (hT : TbE m 85 O T B N) (hR : RgE O T B N) (hS : SolP m 85 O T B (f = 1) N) :
    CV d k_Pa_goByBest z m [vR 85] (fun m' => (∀ c, c ≠ 85 → c ≠ 95 → c ≠ 96 → c ≠ 97 → m' c = m c) ∧ m' 85 0 = N ∧
      (∀ i, 0 ≤ i → i < N → m' 95 i = pathL O T B (f = 1) N.toNat 0 3 i) ∧ GoP m' 85 O T B (pathL O T B (f = 1) N.toNat 0 3) N) := by
  obtain ⟨dd, rfl⟩ : ∃ dd, d = dd + 1 := ⟨d - 1, by omega⟩
  have hr := pathL_r (f = 1) hR N.toNat 0 3
  generalize hpa : pathL O T B (f = 1) N.toNat 0 3 = pa at hr
  have hr2 : ∀ i, 0 ≤ i → i < N → 0 ≤ pa i ∧ pa i < 3 := fun i _ _ => hr i (by omega) (by omega) (by omega) (by omega)
  have loop : ∀ (c i : Nat) (m1 : XM), (i : Int) + c = N → (∀ c, c ≠ 95 → m1 c = m c) → (∀ j, 0 ≤ j → j < (i : Int) → m1 95 j = pa j) →
      RZ (dd + 1) k_Pa_goByBest 4 [vR 85, vI (rnP B pa i), vI (i : Int)] [] (zH z m1) (qz z (qv fun m' => (∀ c, c ≠ 85 → c ≠ 95 → c ≠ 96 → c ≠ 97 → m' c = m c) ∧ m' 85 0 = N ∧
      (∀ i, 0 ≤ i → i < N → m' 95 i = pa i) ∧ GoP m' 85 O T B pa N)) := by
    intro c
    induction c with
    | zero =>
      intro i m1 hi fr hb
      have hi2 : (i : Int) = N := by omega
      have f0 : m1 85 0 = N := by rw [fr 85 (by decide)]; exact hm
      rw [hi2] at hb
      refine r_loadI a40_4 rfl ?_
      refine r_loadA a40_5 rfl (by decide) ?_
      refine r_getI (ki := 0) a40_6 ty85 rfl ?_
      rw [f0]
      refine r_icge a40_9 (fun h_9 => ?_) (fun h_9 => ?_)
      · refine r_loadA a40_48 rfl (by decide) ?_
        refine r_loadA a40_49 rfl (by decide) ?_
        refine r_getR a40_50 ty85 rf85_10 (by decide) ?_
        refine r_callV_2 a40_53 (Nat.le_of_ble_eq_true rfl) (le_mx mx41 (Nat.le_of_ble_eq_true rfl)) (Or.inr (recv_ok ty85 ow41 (by decide))) (c_Pa_go_85_95 dd z m1 O T B N (by omega) hN f0 (TbE_cong (fr 87 (by decide)) (fr 88 (by decide)) (fr 89 (by decide)) hT) hR (fun i a b => by rw [hb i a b]; exact hr2 i a b)) (fun m_53 h_53 => ?_)
        refine r_retVq a40_56 ?_
        obtain ⟨k1, k2, k3, k4, k5, k6, k7⟩ := h_53
        have cg := rn_cong (O := O) (T := T) (B := B) (l := m1 95) (l' := pa)
        obtain ⟨q1, q2, q3, q4⟩ := cg N.toNat (fun i hi => hb i (by omega) (by omega))
        refine ⟨fun c c1 c2 c3 c4 => by rw [k1 c c1 c3 c4]; exact fr c c2, k2, fun i a b => by rw [k1 95 (by decide) (by decide) (by decide)]; exact hb i a b, by rw [k3, q2], by rw [k4, q1], by rw [k5, q4], by rw [k6, q3], fun i hi => ?_⟩
        obtain ⟨w1, w2⟩ := k7 i hi
        rw [w1, w2, (cg i (fun j hj => hb j (by omega) (by omega))).1, hb i (by omega) hi]
        exact ⟨rfl, rfl⟩
      · exfalso
        omega
    | succ c ih =>
      intro i m1 hi fr hb
      have hin : (i : Int) < N := by omega
      have f0 : m1 85 0 = N := by rw [fr 85 (by decide)]; exact hm
      have hp := rnP_r hR hr2 i (by omega)
      have hpi : m1 94 ((i : Int) * 10 + rnP B pa i) = pa i := by
        rw [fr 94 (by decide)]
        have a := (hS i (rnP B pa i) (by omega) (by omega) hp.1 hp.2).2 hin
        have b := pathL_lc O T B (f = 1) N.toNat i (by omega)
        rw [hpa] at b
        rw [a, b]
        have e : (N - (i : Int)).toNat = N.toNat - i := by omega
        rw [e]
      have hpr := hr2 i (by omega) hin
      have t3 := (hT i (rnP B pa i) (pa i) (by omega) hin hp.1 hp.2 hpr.1 hpr.2).2.2
      refine r_loadI a40_4 rfl ?_
      refine r_loadA a40_5 rfl (by decide) ?_
      refine r_getI (ki := 0) a40_6 ty85 rfl ?_
      rw [f0]
      refine r_icge a40_9 (fun h_9 => ?_) (fun h_9 => ?_)
      · exfalso
        omega
      · refine r_loadA a40_12 rfl (by decide) ?_
        refine r_getR a40_13 ty85 rf85_10 (by decide) ?_
        refine r_loadI a40_16 rfl ?_
        refine r_loadA a40_17 rfl (by decide) ?_
        refine r_getR a40_18 ty85 rf85_9 (by decide) ?_
        refine r_loadI a40_21 rfl ?_
        refine r_pushI a40_22 ?_
        refine r_mul a40_24 (by omega) ?_
        refine r_loadI a40_25 rfl ?_
        refine r_add a40_26 (by omega) ?_
        refine r_iald a40_27 ty94 (by omega) ?_
        rw [hpi]
        refine r_iast a40_28 ty95 (by omega) ?_
        refine r_loadA a40_29 rfl (by decide) ?_
        refine r_loadI a40_30 rfl ?_
        refine r_loadI a40_31 rfl ?_
        refine r_loadA a40_32 rfl (by decide) ?_
        refine r_getR a40_33 ty85 rf85_10 (by decide) ?_
        refine r_loadI a40_36 rfl ?_
        refine r_iald a40_37 ty95 (by omega) ?_
        rw [up2_s]
        refine r_callI_4 a40_38 (Nat.le_of_ble_eq_true rfl) (le_mx mx35 (Nat.le_of_ble_eq_true rfl)) (Or.inr (recv_ok ty85 ow35 (by decide))) (c_Pa_paceAfter_85 dd z _ i (rnP B pa i) (pa i) (by omega) (by omega) hp hpr) (fun x_38 m_38 h_38 => ?_)
        obtain ⟨hm_38, h_38⟩ := h_38
        rw [hm_38]
        have ex38 : x_38 = rnP B pa (i + 1) := by rw [h_38, up2_c (by decide), fr 89 (by decide), t3]; rfl
        rw [ex38]
        refine r_storeI_1 a40_41 rfl ?_
        refine r_iinc_2 a40_42 rfl (by omega) ?_
        refine r_goto a40_45 ?_
        refine ih (i + 1) _ (by push_cast; omega) (fun c c1 => by rw [up2_c c1]; exact fr c c1) (fun j a b => ?_)
        by_cases q : j = i
        · rw [q, up2_s]
        · rw [up2_k q]; exact hb j a (by push_cast at b; omega)
  refine r_entry mx40 rfl ?_
  refine r_pushI a40_0 ?_
  refine r_storeI_1 a40_1 rfl ?_
  refine r_pushI a40_2 ?_
  refine r_storeI_2 a40_3 rfl ?_
  exact loop N.toNat 0 m (by omega) (fun _ _ => rfl) (fun j a b => by exfalso; have : j < ((0 : Nat) : Int) := b; omega)
theorem c_Pa_goByBest_98 (d z : Nat) (m : XM) (O T B : TF) (N f : Int) (hd : 3 ≤ d) (hN : 0 ≤ N ∧ N ≤ 7) (hm : m 98 0 = N)
    (hT : TbE m 98 O T B N) (hR : RgE O T B N) (hS : SolP m 98 O T B (f = 1) N) :
    CV d k_Pa_goByBest z m [vR 98] (fun m' => (∀ c, c ≠ 98 → c ≠ 108 → c ≠ 109 → c ≠ 110 → m' c = m c) ∧ m' 98 0 = N ∧
      (∀ i, 0 ≤ i → i < N → m' 108 i = pathL O T B (f = 1) N.toNat 0 3 i) ∧ GoP m' 98 O T B (pathL O T B (f = 1) N.toNat 0 3) N) := by
  obtain ⟨dd, rfl⟩ : ∃ dd, d = dd + 1 := ⟨d - 1, by omega⟩
  have hr := pathL_r (f = 1) hR N.toNat 0 3
  generalize hpa : pathL O T B (f = 1) N.toNat 0 3 = pa at hr
  have hr2 : ∀ i, 0 ≤ i → i < N → 0 ≤ pa i ∧ pa i < 3 := fun i _ _ => hr i (by omega) (by omega) (by omega) (by omega)
  have loop : ∀ (c i : Nat) (m1 : XM), (i : Int) + c = N → (∀ c, c ≠ 108 → m1 c = m c) → (∀ j, 0 ≤ j → j < (i : Int) → m1 108 j = pa j) →
      RZ (dd + 1) k_Pa_goByBest 4 [vR 98, vI (rnP B pa i), vI (i : Int)] [] (zH z m1) (qz z (qv fun m' => (∀ c, c ≠ 98 → c ≠ 108 → c ≠ 109 → c ≠ 110 → m' c = m c) ∧ m' 98 0 = N ∧
      (∀ i, 0 ≤ i → i < N → m' 108 i = pa i) ∧ GoP m' 98 O T B pa N)) := by
    intro c
    induction c with
    | zero =>
      intro i m1 hi fr hb
      have hi2 : (i : Int) = N := by omega
      have f0 : m1 98 0 = N := by rw [fr 98 (by decide)]; exact hm
      rw [hi2] at hb
      refine r_loadI a40_4 rfl ?_
      refine r_loadA a40_5 rfl (by decide) ?_
      refine r_getI (ki := 0) a40_6 ty98 rfl ?_
      rw [f0]
      refine r_icge a40_9 (fun h_9 => ?_) (fun h_9 => ?_)
      · refine r_loadA a40_48 rfl (by decide) ?_
        refine r_loadA a40_49 rfl (by decide) ?_
        refine r_getR a40_50 ty98 rf98_10 (by decide) ?_
        refine r_callV_2 a40_53 (Nat.le_of_ble_eq_true rfl) (le_mx mx41 (Nat.le_of_ble_eq_true rfl)) (Or.inr (recv_ok ty98 ow41 (by decide))) (c_Pa_go_98_108 dd z m1 O T B N (by omega) hN f0 (TbE_cong (fr 100 (by decide)) (fr 101 (by decide)) (fr 102 (by decide)) hT) hR (fun i a b => by rw [hb i a b]; exact hr2 i a b)) (fun m_53 h_53 => ?_)
        refine r_retVq a40_56 ?_
        obtain ⟨k1, k2, k3, k4, k5, k6, k7⟩ := h_53
        have cg := rn_cong (O := O) (T := T) (B := B) (l := m1 108) (l' := pa)
        obtain ⟨q1, q2, q3, q4⟩ := cg N.toNat (fun i hi => hb i (by omega) (by omega))
        refine ⟨fun c c1 c2 c3 c4 => by rw [k1 c c1 c3 c4]; exact fr c c2, k2, fun i a b => by rw [k1 108 (by decide) (by decide) (by decide)]; exact hb i a b, by rw [k3, q2], by rw [k4, q1], by rw [k5, q4], by rw [k6, q3], fun i hi => ?_⟩
        obtain ⟨w1, w2⟩ := k7 i hi
        rw [w1, w2, (cg i (fun j hj => hb j (by omega) (by omega))).1, hb i (by omega) hi]
        exact ⟨rfl, rfl⟩
      · exfalso
        omega
    | succ c ih =>
      intro i m1 hi fr hb
      have hin : (i : Int) < N := by omega
      have f0 : m1 98 0 = N := by rw [fr 98 (by decide)]; exact hm
      have hp := rnP_r hR hr2 i (by omega)
      have hpi : m1 107 ((i : Int) * 10 + rnP B pa i) = pa i := by
        rw [fr 107 (by decide)]
        have a := (hS i (rnP B pa i) (by omega) (by omega) hp.1 hp.2).2 hin
        have b := pathL_lc O T B (f = 1) N.toNat i (by omega)
        rw [hpa] at b
        rw [a, b]
        have e : (N - (i : Int)).toNat = N.toNat - i := by omega
        rw [e]
      have hpr := hr2 i (by omega) hin
      have t3 := (hT i (rnP B pa i) (pa i) (by omega) hin hp.1 hp.2 hpr.1 hpr.2).2.2
      refine r_loadI a40_4 rfl ?_
      refine r_loadA a40_5 rfl (by decide) ?_
      refine r_getI (ki := 0) a40_6 ty98 rfl ?_
      rw [f0]
      refine r_icge a40_9 (fun h_9 => ?_) (fun h_9 => ?_)
      · exfalso
        omega
      · refine r_loadA a40_12 rfl (by decide) ?_
        refine r_getR a40_13 ty98 rf98_10 (by decide) ?_
        refine r_loadI a40_16 rfl ?_
        refine r_loadA a40_17 rfl (by decide) ?_
        refine r_getR a40_18 ty98 rf98_9 (by decide) ?_
        refine r_loadI a40_21 rfl ?_
        refine r_pushI a40_22 ?_
        refine r_mul a40_24 (by omega) ?_
        refine r_loadI a40_25 rfl ?_
        refine r_add a40_26 (by omega) ?_
        refine r_iald a40_27 ty107 (by omega) ?_
        rw [hpi]
        refine r_iast a40_28 ty108 (by omega) ?_
        refine r_loadA a40_29 rfl (by decide) ?_
        refine r_loadI a40_30 rfl ?_
        refine r_loadI a40_31 rfl ?_
        refine r_loadA a40_32 rfl (by decide) ?_
        refine r_getR a40_33 ty98 rf98_10 (by decide) ?_
        refine r_loadI a40_36 rfl ?_
        refine r_iald a40_37 ty108 (by omega) ?_
        rw [up2_s]
        refine r_callI_4 a40_38 (Nat.le_of_ble_eq_true rfl) (le_mx mx35 (Nat.le_of_ble_eq_true rfl)) (Or.inr (recv_ok ty98 ow35 (by decide))) (c_Pa_paceAfter_98 dd z _ i (rnP B pa i) (pa i) (by omega) (by omega) hp hpr) (fun x_38 m_38 h_38 => ?_)
        obtain ⟨hm_38, h_38⟩ := h_38
        rw [hm_38]
        have ex38 : x_38 = rnP B pa (i + 1) := by rw [h_38, up2_c (by decide), fr 102 (by decide), t3]; rfl
        rw [ex38]
        refine r_storeI_1 a40_41 rfl ?_
        refine r_iinc_2 a40_42 rfl (by omega) ?_
        refine r_goto a40_45 ?_
        refine ih (i + 1) _ (by push_cast; omega) (fun c c1 => by rw [up2_c c1]; exact fr c c1) (fun j a b => ?_)
        by_cases q : j = i
        · rw [q, up2_s]
        · rw [up2_k q]; exact hb j a (by push_cast at b; omega)
  refine r_entry mx40 rfl ?_
  refine r_pushI a40_0 ?_
  refine r_storeI_1 a40_1 rfl ?_
  refine r_pushI a40_2 ?_
  refine r_storeI_2 a40_3 rfl ?_
  exact loop N.toNat 0 m (by omega) (fun _ _ => rfl) (fun j a b => by exfalso; have : j < ((0 : Nat) : Int) := b; omega)
theorem c_Pa_hasRowOf (d z : Nat) (m : XM) (N : Int) (hN : 0 ≤ N ∧ N ≤ 7) (hm : m 98 0 = N) :
    CI d k_Pa_hasRowOf z m [vR 98, vR 85] (fun x m' => m' = m ∧ ((x = 1 ∧ ∀ i, 0 ≤ i → i < N → m 108 i = m 95 i) ∨ (x = 0 ∧ ∃ i, 0 ≤ i ∧ i < N ∧ m 108 i ≠ m 95 i))) := by
  have loop : ∀ (c : Nat) (i : Int), i + c = N → 0 ≤ i → (∀ j, 0 ≤ j → j < i → m 108 j = m 95 j) →
      RZ d k_Pa_hasRowOf 2 [vR 98, vR 85, vI i] [] (zH z m) (qz z (qi fun x m' => m' = m ∧ ((x = 1 ∧ ∀ i, 0 ≤ i → i < N → m 108 i = m 95 i) ∨ (x = 0 ∧ ∃ i, 0 ≤ i ∧ i < N ∧ m 108 i ≠ m 95 i)))) := by
    intro c
    induction c with
    | zero =>
      intro i hi h0 hj
      have hi2 : i = N := by omega
      refine r_loadI a42_2 rfl ?_
      refine r_loadA a42_3 rfl (by decide) ?_
      refine r_getI (ki := 0) a42_4 ty98 rfl ?_
      rw [hm]
      refine r_icge a42_7 (fun h_7 => ?_) (fun h_7 => ?_)
      · refine r_pushI a42_33 ?_
        refine r_retZq a42_34 (by omega) ?_
        refine ⟨rfl, Or.inl ⟨rfl, ?_⟩⟩
        rw [← hi2]; exact hj
      · exfalso
        omega
    | succ c ih =>
      intro i hi h0 hj
      refine r_loadI a42_2 rfl ?_
      refine r_loadA a42_3 rfl (by decide) ?_
      refine r_getI (ki := 0) a42_4 ty98 rfl ?_
      rw [hm]
      refine r_icge a42_7 (fun h_7 => ?_) (fun h_7 => ?_)
      · exfalso
        omega
      · refine r_loadA a42_10 rfl (by decide) ?_
        refine r_getR a42_11 ty98 rf98_10 (by decide) ?_
        refine r_loadI a42_14 rfl ?_
        refine r_iald a42_15 ty108 (by omega) ?_
        refine r_loadA a42_16 rfl (by decide) ?_
        refine r_getR a42_17 ty85 rf85_10 (by decide) ?_
        refine r_loadI a42_20 rfl ?_
        refine r_iald a42_21 ty95 (by omega) ?_
        refine r_iceq a42_22 (fun h_22 => ?_) (fun h_22 => ?_)
        · refine r_iinc_2 a42_27 rfl (by omega) ?_
          refine r_goto a42_30 ?_
          refine ih (i + 1) (by omega) (by omega) (fun j a b => ?_)
          by_cases q : j = i
          · rw [q]; exact h_22
          · exact hj j a (by omega)
        · refine r_pushI a42_25 ?_
          refine r_retZq a42_26 (by omega) ?_
          exact ⟨rfl, Or.inr ⟨rfl, i, h0, by omega, h_22⟩⟩
  refine r_entry mx42 rfl ?_
  refine r_pushI a42_0 ?_
  refine r_storeI_2 a42_1 rfl ?_
  exact loop N.toNat 0 (by omega) (by omega) (fun j a b => by omega)
