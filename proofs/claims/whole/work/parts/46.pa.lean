-- ===== what stands in the class's rows =====
def rutS (s : Int → Int) : Int := if s 6 = -1 then 0 else s (199 + s 6)
def fogS (s : Int → Int) : Int := if s 6 = -1 then 0 else s (204 + s 6)
/-- a hill holds the same numbers -/
def RepB (m : XM) (s : Int → Int) (b : Nat) : Prop :=
  (m (b + 1) 0 = s 0 ∧ ∀ g, 0 ≤ g → g < 7 → m (b + 2) g = s (8 + g) ∧ m (b + 3) g = s (15 + g) ∧ m (b + 4) g = s (22 + g) ∧ m (b + 5) g = s (29 + g)) ∧
  (∀ k, 0 ≤ k → k < 28 → m (b + 6) k = s (36 + k)) ∧
  (m b 2 = s 1 ∧ m b 3 = s 7 ∧ m b 6 = s 2 ∧ ∀ p, 0 ≤ p → p < 5 → m (b + 7) p = s (64 + p)) ∧
  (m (b + 8) 0 = s 5 ∧ ∀ i, 0 ≤ i → i < 100 → m (b + 9) i = s (99 + i)) ∧
  (m (b + 10) 0 = rutS s ∧ m (b + 10) 1 = fogS s) ∧
  (m (b + 16) 0 = s 3 ∧ ∀ k, 0 ≤ k → k < 7 → m (b + 17) k = s (69 + k) ∧ m (b + 18) k = s (76 + k)) ∧
  (m (b + 19) 0 = s 4 ∧ ∀ k, 0 ≤ k → k < 8 → m (b + 20) k = s (83 + k) ∧ m (b + 21) k = s (91 + k))
/-- a hill's clauses -/
def ClB (m : XM) (b : Nat) (cl : CLs) : Prop :=
  (∃ en, en ≤ 100 ∧ ClR m (b + 10) 0 0 cl (m (b + 10) 2) en) ∧ (∀ c ∈ cl, okC c) ∧ cl.length ≤ 10
theorem RepB_cong {m m' : XM} {s : Int → Int} {b : Nat} (h : ∀ x, b ≤ x → x ≤ b + 21 → x ≠ b + 15 → m' x = m x) (hR : RepB m s b) : RepB m' s b := by
  unfold RepB
  rw [h b (by omega) (by omega) (by omega), h (b + 1) (by omega) (by omega) (by omega), h (b + 2) (by omega) (by omega) (by omega), h (b + 3) (by omega) (by omega) (by omega), h (b + 4) (by omega) (by omega) (by omega), h (b + 5) (by omega) (by omega) (by omega),
    h (b + 6) (by omega) (by omega) (by omega), h (b + 7) (by omega) (by omega) (by omega), h (b + 8) (by omega) (by omega) (by omega), h (b + 9) (by omega) (by omega) (by omega), h (b + 10) (by omega) (by omega) (by omega),
    h (b + 16) (by omega) (by omega) (by omega), h (b + 17) (by omega) (by omega) (by omega), h (b + 18) (by omega) (by omega) (by omega), h (b + 19) (by omega) (by omega) (by omega), h (b + 20) (by omega) (by omega) (by omega), h (b + 21) (by omega) (by omega) (by omega)]
  exact hR
theorem ClB_cong {m m' : XM} {b : Nat} {cl : CLs} (h : ∀ x, b + 10 ≤ x → x ≤ b + 14 → m' x = m x) (hC : ClB m b cl) : ClB m' b cl := by
  obtain ⟨⟨en, h1, h2⟩, h3, h4⟩ := hC
  refine ⟨⟨en, h1, ?_⟩, h3, h4⟩
  rw [h (b + 10) (by omega) (by omega)]
  exact ClR_cong (h (b + 10 + 1) (by omega) (by omega)) (h (b + 10 + 2) (by omega) (by omega)) (h (b + 10 + 3) (by omega) (by omega)) (h (b + 10 + 4) (by omega) (by omega)) h2
theorem okS_rut {s : Int → Int} (h : okS s) : 0 ≤ rutS s ∧ rutS s ≤ 99 := by
  have h2 := h.1.2.2.1
  have h6 := h.1.2.2.2.2.2.2.1
  unfold rutS
  split
  · omega
  · exact (h.2.2.2.2.2.2.2 (s 6) (by omega) (by omega)).1
theorem okS_fog {s : Int → Int} (h : okS s) : 0 ≤ fogS s ∧ fogS s ≤ 99 := by
  have h2 := h.1.2.2.1
  have h6 := h.1.2.2.2.2.2.2.1
  unfold fogS
  split
  · omega
  · exact (h.2.2.2.2.2.2.2 (s 6) (by omega) (by omega)).2.1
-- ===== a pass by the numbers =====
/-- what tests ask of: a gate, runs, a skier -/
def fcts (s : Int → Int) (k n g : Int) : Int → Int := fun w => if w = 0 then g else if w = 1 then s (8 + g) else if w = 2 then s (22 + g) else if w = 4 then n % 10 else s (64 + k)
def eI (w : Bool) (s : Int → Int) (cl : CLs) (k n g p : Int) : Int := sumC w (vAt (fcts s k n g) p.toNat) cl
def eTg (s : Int → Int) (k g : Int) : Int := tgV (s (8 + g)) (s (22 + g)) (s (15 + g)) (fogS s) (s (64 + k))
def eRu (s : Int → Int) (n g : Int) : Int := ruV (s (8 + g)) (rutS s) n (s (36 + 4 * g + n % 4))
def eO (s : Int → Int) (cl : CLs) (k n g p c : Int) : Int := psO (s (8 + g)) (eTg s k g) (s (64 + k)) (eI false s cl k n g p) p c
def eT (s : Int → Int) (cl : CLs) (k n w g p c : Int) : Int := psT (s (8 + g)) (eRu s n g) (if w = 1 then eI true s cl k n g p else 0) p c (eO s cl k n g p c)
def eB (s : Int → Int) (cl : CLs) (k n g p c : Int) : Int := psB (s (8 + g)) (eTg s k g) p c (eO s cl k n g p c)
theorem sumC_r (w : Bool) (v : Int → Bool) : ∀ (cl : CLs), (∀ c ∈ cl, okC c) → 0 ≤ sumC w v cl ∧ sumC w v cl ≤ 99 * cl.length := by
  intro cl
  induction cl with
  | nil => intro _; exact ⟨Int.le_refl _, Int.le_refl _⟩
  | cons c cs ih =>
    intro h
    have h1 := ih (fun x hx => h x (List.mem_cons_of_mem _ hx))
    have h2 := (h c (List.mem_cons_self ..)).1
    rw [List.length_cons]; push_cast
    show 0 ≤ (if _ then _ else _) + sumC w v cs ∧ (if _ then _ else _) + sumC w v cs ≤ _
    split <;> omega
theorem evB_cong {v v' : Int → Bool} (hv : ∀ t, okTok t → 0 ≤ t → v t = v' t) : ∀ (ts : List Int) (st : List Bool) (a b : Nat), wfR ts a b → evB v ts st = evB v' ts st := by
  intro ts
  induction ts with
  | nil => intro st a b _; rfl
  | cons t ts ih =>
    intro st a b ⟨hk, h⟩
    show evB v ts _ = evB v' ts _
    by_cases h0 : 0 ≤ t
    · rw [if_pos h0] at h
      rw [if_pos h0, if_pos h0, hv t hk h0]
      exact ih _ _ _ h.2
    · rw [if_neg h0] at h
      rw [if_neg h0, if_neg h0]
      by_cases h1 : t = -1
      · rw [if_pos h1] at h; exact ih _ _ _ h.2
      · rw [if_neg h1] at h; exact ih _ _ _ h.2
theorem sumC_cong {v v' : Int → Bool} (w : Bool) (hv : ∀ t, okTok t → 0 ≤ t → v t = v' t) : ∀ (cl : CLs), (∀ c ∈ cl, okC c) → sumC w v cl = sumC w v' cl := by
  intro cl
  induction cl with
  | nil => intro _; rfl
  | cons c cs ih =>
    intro h
    have e1 := ih (fun x hx => h x (List.mem_cons_of_mem _ hx))
    have e2 : holdsC v c = holdsC v' c := by
      unfold holdsC
      rw [evB_cong hv c.2.2 [] 0 1 (h c (List.mem_cons_self ..)).2]
    show (if _ then _ else _) + _ = (if _ then _ else _) + _
    rw [e1, e2]
theorem vAt_cong {f f' : Int → Int} (h0 : f 0 = f' 0) (h1 : f 1 = f' 1) (h2 : f 2 = f' 2) (h4 : f 4 = f' 4) (h5 : f 5 = f' 5) (p : Nat) : ∀ t, okTok t → 0 ≤ t → vAt f p t = vAt f' p t := by
  intro t hk ht
  have h8 := (hk.2 ht).1
  have e : fcP f p (t % 8) = fcP f' p (t % 8) := by
    show (if t % 8 = 3 then _ else _) = if t % 8 = 3 then _ else _
    have : t % 8 = 0 ∨ t % 8 = 1 ∨ t % 8 = 2 ∨ t % 8 = 3 ∨ t % 8 = 4 ∨ t % 8 = 5 := by omega
    rcases this with q | q | q | q | q | q <;> rw [q]
    · rw [h0]
    · rw [h1]
    · rw [h2]
    · rfl
    · rw [h4]
    · rw [h5]
  show tkH t _ = tkH t _
  unfold tkH
  rw [e]
theorem eTg_r {s : Int → Int} {k g : Int} (h : okS s) (hg : 0 ≤ g ∧ g < 7) : 0 ≤ eTg s k g ∧ eTg s k g ≤ 20 := by
  obtain ⟨h1, h2, h3, h4⟩ := h.2.1 g hg.1 hg.2
  unfold eTg tgV; (repeat' split) <;> omega
theorem eRu_r {s : Int → Int} {n g : Int} (h : okS s) (hg : 0 ≤ g ∧ g < 7) (hn : 0 ≤ n ∧ n ≤ 9999) : 0 ≤ eRu s n g ∧ eRu s n g ≤ 20000 := by
  obtain ⟨h1, h2⟩ := (h.2.2.1 (4 * g + n % 4) (by omega) (by omega)).1
  have e : 36 + 4 * g + n % 4 = 36 + (4 * g + n % 4) := by omega
  have hr := okS_rut h
  have hq : 0 ≤ n / rutS s ∧ n / rutS s ≤ n := ⟨Int.ediv_nonneg hn.1 hr.1, Int.ediv_le_self _ hn.1⟩
  unfold eRu ruV; rw [e]; (repeat' split) <;> omega
theorem eI_r {w : Bool} {s : Int → Int} {cl : CLs} {k n g p : Int} (hc : ∀ c ∈ cl, okC c) (hl : cl.length ≤ 10) : 0 ≤ eI w s cl k n g p ∧ eI w s cl k n g p ≤ 990 := by
  have := sumC_r w (vAt (fcts s k n g) p.toNat) cl hc
  unfold eI; omega
theorem eO_r (s : Int → Int) (cl : CLs) (k n g p c : Int) : 0 ≤ eO s cl k n g p c ∧ eO s cl k n g p c ≤ 20 := clI_r _ _ (by decide)
theorem eB_r (s : Int → Int) (cl : CLs) (k n g p c : Int) : 0 ≤ eB s cl k n g p c ∧ eB s cl k n g p c ≤ 9 := clI_r _ _ (by decide)
theorem eT_r {s : Int → Int} {cl : CLs} {k n w g p c : Int} (h : okS s) (hc : ∀ c ∈ cl, okC c) (hl : cl.length ≤ 10) (hg : 0 ≤ g ∧ g < 7) (hn : 0 ≤ n ∧ n ≤ 9999) (hp : 0 ≤ p ∧ p < 10) (hcc : 0 ≤ c ∧ c < 3) : 1 ≤ eT s cl k n w g p c ∧ eT s cl k n w g p c ≤ 21000 := by
  have h1 := eRu_r h hg hn
  have h2 := eI_r (w := true) (s := s) (k := k) (n := n) (g := g) (p := p) hc hl
  refine psT_r hp hcc (eO_r s cl k n g p c) h1 ?_
  split <;> omega
/-- the tables of a passage -/
def TabP (m : XM) (A B C : Nat) (s : Int → Int) (cl : CLs) (k n w N : Int) : Prop :=
  ∀ g p c, 0 ≤ g → g < N → 0 ≤ p → p < 10 → 0 ≤ c → c < 3 →
    m A ((g * 10 + p) * 3 + c) = eO s cl k n g p c ∧ m B ((g * 10 + p) * 3 + c) = eT s cl k n w g p c ∧ m C ((g * 10 + p) * 3 + c) = eB s cl k n g p c
def PrepP (m : XM) (P : Nat) (s : Int → Int) (cl : CLs) (k n w : Int) : Prop :=
  m P 0 = s 0 ∧ (∀ g, 0 ≤ g → g < s 0 → m (P + 1) g = g) ∧ TabP m (P + 2) (P + 3) (P + 4) s cl k n w (s 0)
/-- what a prepare leaves alone -/
def FrP (P : Nat) (m m' : XM) : Prop := (∀ x, ¬ (P ≤ x ∧ x ≤ P + 7) → x ≠ 48 → m' x = m x) ∧ m' (P + 5) 3 = m (P + 5) 3
theorem c_Pa_tightness (d z : Nat) (m : XM) (g sk : Int) (hg : 0 ≤ g ∧ g < 7) (h1 : 0 ≤ m 35 g ∧ m 35 g ≤ 6) (h2 : 0 ≤ m 37 g ∧ m 37 g ≤ 9) (h3 : 0 ≤ m 36 g ∧ m 36 g ≤ 9) :
    CI d k_Pa_tightness z m [vR 33, vI g, vI sk] (fun x m' => m' = m ∧ x = tgV (m 35 g) (m 37 g) (m 36 g) (m 43 1) sk) := by
  refine r_entry mx28 rfl ?_
  refine r_loadA a28_0 rfl (by decide) ?_
  refine r_getR a28_1 ty33 rf33_0 (by decide) ?_
  refine r_getR a28_4 ty34 rf34_3 (by decide) ?_
  refine r_loadI a28_7 rfl ?_
  refine r_iald a28_8 ty37 (by omega) ?_
  refine r_storeI_3 a28_9 rfl ?_
  refine r_loadA a28_10 rfl (by decide) ?_
  refine r_getR a28_11 ty33 rf33_0 (by decide) ?_
  refine r_getR a28_14 ty34 rf34_1 (by decide) ?_
  refine r_loadI a28_17 rfl ?_
  refine r_iald a28_18 ty35 (by omega) ?_
  refine r_switch a28_19 ?_
  refine r_sw_cons (fun h_19 => ?_) (fun n_19_2 => ?_)
  · refine r_loadI a28_44 rfl ?_
    refine r_pushI a28_45 ?_
    refine r_add a28_46 (by omega) ?_
    refine r_retIq a28_47 ?_
    exact ⟨rfl, by unfold tgV; (repeat' split) <;> omega⟩
  refine r_sw_cons (fun h_19 => ?_) (fun n_19_5 => ?_)
  · refine r_loadI a28_48 rfl ?_
    refine r_pushI a28_49 ?_
    refine r_add a28_50 (by omega) ?_
    refine r_loadA a28_51 rfl (by decide) ?_
    refine r_getR a28_52 ty33 rf33_5 (by decide) ?_
    refine r_getI (ki := 1) a28_55 ty43 rfl ?_
    refine r_loadI a28_58 rfl ?_
    refine r_icle a28_59 (fun h_59 => ?_) (fun h_59 => ?_)
    · refine r_pushI a28_74 ?_
      refine r_add a28_75 (by omega) ?_
      refine r_retIq a28_76 ?_
      exact ⟨rfl, by unfold tgV; (repeat' split) <;> omega⟩
    · refine r_loadA a28_62 rfl (by decide) ?_
      refine r_getR a28_63 ty33 rf33_0 (by decide) ?_
      refine r_getR a28_66 ty34 rf34_2 (by decide) ?_
      refine r_loadI a28_69 rfl ?_
      refine r_iald a28_70 ty36 (by omega) ?_
      refine r_goto a28_71 ?_
      refine r_add a28_75 (by omega) ?_
      refine r_retIq a28_76 ?_
      exact ⟨rfl, by unfold tgV; (repeat' split) <;> omega⟩
  refine r_sw_nil ?_
  refine r_loadI a28_77 rfl ?_
  refine r_retIq a28_78 ?_
  exact ⟨rfl, by unfold tgV; (repeat' split) <;> omega⟩
theorem c_Pa_ruts (d z : Nat) (m : XM) (g n : Int) (hg : 0 ≤ g ∧ g < 7) (hr : 0 ≤ m 43 0 ∧ m 43 0 ≤ 99) (hn : 0 ≤ n ∧ n ≤ 9999) (h2 : 0 ≤ m 39 (g * 4 + n % 4) ∧ m 39 (g * 4 + n % 4) ≤ 9) :
    CI d k_Pa_ruts z m [vR 33, vI g, vI n] (fun x m' => m' = m ∧ x = ruV (m 35 g) (m 43 0) n (m 39 (g * 4 + n % 4))) := by
  have hq : 0 ≤ n / m 43 0 ∧ n / m 43 0 ≤ n := ⟨Int.ediv_nonneg hn.1 hr.1, Int.ediv_le_self _ hn.1⟩
  refine r_entry mx29 rfl ?_
  refine r_loadA a29_0 rfl (by decide) ?_
  refine r_getR a29_1 ty33 rf33_5 (by decide) ?_
  refine r_getI (ki := 0) a29_4 ty43 rfl ?_
  refine r_storeI_3 a29_7 rfl ?_
  refine r_loadI a29_8 rfl ?_
  refine r_ifne a29_9 (fun h_9 => ?_) (fun h_9 => ?_)
  · refine r_loadI a29_16 rfl ?_
    refine r_loadI a29_17 rfl ?_
    refine r_div a29_18 (by omega) ?_
    refine r_storeI_4 a29_19 rfl ?_
    refine r_loadA a29_21 rfl (by decide) ?_
    refine r_getR a29_22 ty33 rf33_0 (by decide) ?_
    refine r_getR a29_25 ty34 rf34_1 (by decide) ?_
    refine r_loadI a29_28 rfl ?_
    refine r_iald a29_29 ty35 (by omega) ?_
    refine r_pushI a29_30 ?_
    refine r_icne a29_32 (fun h_32 => ?_) (fun h_32 => ?_)
    · refine r_loadI a29_56 rfl ?_
      refine r_retIq a29_58 ?_
      exact ⟨rfl, by unfold ruV; (repeat' split) <;> omega⟩
    · refine r_loadI a29_35 rfl ?_
      refine r_loadA a29_37 rfl (by decide) ?_
      refine r_getR a29_38 ty33 rf33_0 (by decide) ?_
      refine r_getR a29_41 ty34 rf34_5 (by decide) ?_
      refine r_loadI a29_44 rfl ?_
      refine r_pushI a29_45 ?_
      refine r_mul a29_46 (by omega) ?_
      refine r_loadI a29_47 rfl ?_
      refine r_pushI a29_48 ?_
      refine r_rem a29_49 (by omega) ?_
      refine r_add a29_50 (by omega) ?_
      refine r_iald a29_51 ty39 (by omega) ?_
      refine r_add a29_52 (by omega) ?_
      refine r_goto a29_53 ?_
      refine r_retIq a29_58 ?_
      exact ⟨rfl, by unfold ruV; (repeat' split) <;> omega⟩
  · refine r_pushI a29_12 ?_
    refine r_goto a29_13 ?_
    refine r_storeI_4 a29_19 rfl ?_
    refine r_loadA a29_21 rfl (by decide) ?_
    refine r_getR a29_22 ty33 rf33_0 (by decide) ?_
    refine r_getR a29_25 ty34 rf34_1 (by decide) ?_
    refine r_loadI a29_28 rfl ?_
    refine r_iald a29_29 ty35 (by omega) ?_
    refine r_pushI a29_30 ?_
    refine r_icne a29_32 (fun h_32 => ?_) (fun h_32 => ?_)
    · refine r_loadI a29_56 rfl ?_
      refine r_retIq a29_58 ?_
      exact ⟨rfl, by unfold ruV; (repeat' split) <;> omega⟩
    · refine r_loadI a29_35 rfl ?_
      refine r_loadA a29_37 rfl (by decide) ?_
      refine r_getR a29_38 ty33 rf33_0 (by decide) ?_
      refine r_getR a29_41 ty34 rf34_5 (by decide) ?_
      refine r_loadI a29_44 rfl ?_
      refine r_pushI a29_45 ?_
      refine r_mul a29_46 (by omega) ?_
      refine r_loadI a29_47 rfl ?_
      refine r_pushI a29_48 ?_
      refine r_rem a29_49 (by omega) ?_
      refine r_add a29_50 (by omega) ?_
      refine r_iald a29_51 ty39 (by omega) ?_
      refine r_add a29_52 (by omega) ?_
      refine r_goto a29_53 ?_
      refine r_retIq a29_58 ?_
      exact ⟨rfl, by unfold ruV; (repeat' split) <;> omega⟩
theorem c_Pa_prepare_85 (d z : Nat) (m : XM) (s : Int → Int) (cl : CLs) (k n w : Int) (hd : 5 ≤ d) (hS : okS s) (hR : RepB m s 33) (hC : ClB m 33 cl) (h3 : 0 ≤ m 90 3 ∧ m 90 3 ≤ 9) (hk : 0 ≤ k ∧ k < s 1) (hn : 0 ≤ n ∧ n ≤ 9999) (hw : w = 0 ∨ w = 1) :
    CV d k_Pa_prepare z m [vR 85, vR 33, vI k, vI n, vI w] (fun m' => FrP 85 m m' ∧ PrepP m' 85 s cl k n w) := by
  obtain ⟨dd, rfl⟩ : ∃ dd, d = dd + 1 := ⟨d - 1, by omega⟩
  have hN := hS.1.1
  have hK := hS.1.2.1
  have hsk := hS.2.2.2.1 k hk.1 (by omega)
  have r1 := hR.1
  have r2 : ∀ k, 0 ≤ k → k < 28 → m 39 k = s (36 + k) := hR.2.1
  have r3 : ∀ p, 0 ≤ p → p < 5 → m 40 p = s (64 + p) := hR.2.2.1.2.2.2
  have r4 : m 43 0 = rutS s ∧ m 43 1 = fogS s := hR.2.2.2.2.1
  have r0 : m 34 0 = s 0 := r1.1
  have rg : ∀ g, 0 ≤ g → g < 7 → m 35 g = s (8 + g) ∧ m 36 g = s (15 + g) ∧ m 37 g = s (22 + g) ∧ m 38 g = s (29 + g) := r1.2
  have hrut := okS_rut hS
  have hlen : m 43 2 ≤ 10 := by
    obtain ⟨⟨en, e1, e2⟩, e3, e4⟩ := hC
    have := (ClR_len e2).1
    have e5 : m (33 + 10) 2 = m 43 2 := rfl
    omega
  have loop : ∀ (c : Nat) (i : Int) (m1 : XM), s 0 < i + c → 0 ≤ i → i ≤ s 0 → (∀ x, ¬ (85 ≤ x ∧ x ≤ 92) → x ≠ 48 → m1 x = m x) → m1 90 3 = m 90 3 → m1 85 0 = s 0 →
      (∀ g, 0 ≤ g → g < i → m1 86 g = g) → TabP m1 87 88 89 s cl k n w i →
      RZ (dd + 1) k_Pa_prepare 22 [vR 85, vR 33, vI k, vI n, vI w, vI (s (64 + k)), vI i] [] (zH z m1) (qz z (qv fun m' => FrP 85 m m' ∧ PrepP m' 85 s cl k n w)) := by
    intro c
    induction c with
    | zero => intro i m1 q1 q2 q3; exfalso; omega
    | succ c ih =>
      intro i m1 q1 q2 q3 fr f3 fz ho ht
      have tail : ∀ (m2 : XM), i < s 0 → (∀ x, ¬ (85 ≤ x ∧ x ≤ 92) → x ≠ 48 → m2 x = m x) → m2 90 3 = m 90 3 → m2 85 0 = s 0 →
          (∀ g, 0 ≤ g → g ≤ i → m2 86 g = g) → TabP m2 87 88 89 s cl k n w i →
          m2 90 0 = i ∧ m2 90 1 = s (8 + i) ∧ m2 90 2 = s (22 + i) ∧ m2 90 4 = n % 10 ∧ m2 90 5 = s (64 + k) →
          RZ (dd + 1) k_Pa_prepare 98 [vR 85, vR 33, vI k, vI n, vI w, vI (s (64 + k)), vI i] [] (zH z m2) (qz z (qv fun m' => FrP 85 m m' ∧ PrepP m' 85 s cl k n w)) := by
        intro m2 hi fr f3 fz ho ht ⟨a0, a1, a2, a4, a5⟩
        obtain ⟨g1, g2, g3, g4⟩ := hS.2.1 i q2 (by omega)
        have hF : ∀ w, 0 ≤ w → w < 6 → 0 ≤ m2 90 w ∧ m2 90 w ≤ 9 := by
          intro w w1 w2
          have : w = 0 ∨ w = 1 ∨ w = 2 ∨ w = 3 ∨ w = 4 ∨ w = 5 := by omega
          rcases this with q | q | q | q | q | q <;> rw [q] <;> omega
        have hC2 : ClB m2 33 cl := ClB_cong (fun x x1 x2 => fr x (by omega) (by omega)) hC
        have hsum := fun (w : Bool) (p : Nat) => sumC_cong w (vAt_cong (f := m2 90) (f' := fcts s k n i) a0 a1 a2 a4 a5 p) cl hC.2.1
        have hsr := fun (w : Bool) (p : Nat) => sumC_r w (vAt (m2 90) p) cl hC.2.1
        have hcl10 := hC.2.2
        have e34 : ∀ m3 : XM, (∀ x, x ≠ 91 → x ≠ 92 → x ≠ 48 → m3 x = m2 x) → ∀ x, ¬ (85 ≤ x ∧ x ≤ 92) → x ≠ 48 → m3 x = m x := fun m3 h3 x x1 x2 => by
          rw [h3 x (by omega) (by omega) x2, fr x x1 x2]
        refine r_loadA a25_98 rfl (by decide) ?_
        refine r_loadA a25_99 rfl (by decide) ?_
        refine r_getR a25_100 ty33 rf33_5 (by decide) ?_
        refine r_loadI a25_103 rfl ?_
        refine r_callV_3 a25_105 (Nat.le_of_ble_eq_true rfl) (le_mx mx26 (Nat.le_of_ble_eq_true rfl)) (Or.inr (recv_ok ty85 ow26 (by decide))) (c_Pa_sum_85 dd z m2 cl w (by omega) hw hF hC2.1 hC.2.1 (by rw [fr 43 (by decide) (by decide)]; exact hlen)) (fun m_105 h_105 => ?_)
        obtain ⟨fr5, hsm⟩ := h_105
        have fr6 := e34 m_105 fr5
        have b35 : m_105 35 i = s (8 + i) := by rw [fr6 35 (by decide) (by decide)]; exact (rg i q2 (by omega)).1
        have b36 : m_105 36 i = s (15 + i) := by rw [fr6 36 (by decide) (by decide)]; exact (rg i q2 (by omega)).2.1
        have b37 : m_105 37 i = s (22 + i) := by rw [fr6 37 (by decide) (by decide)]; exact (rg i q2 (by omega)).2.2.1
        have b430 : m_105 43 0 = rutS s := by rw [fr6 43 (by decide) (by decide)]; exact r4.1
        have b431 : m_105 43 1 = fogS s := by rw [fr6 43 (by decide) (by decide)]; exact r4.2
        have b39 : m_105 39 (i * 4 + n % 4) = s (36 + 4 * i + n % 4) := by
          rw [fr6 39 (by decide) (by decide), r2 _ (by omega) (by omega)]; congr 1; omega
        have hrow := (hS.2.2.1 (4 * i + n % 4) (by omega) (by omega)).1
        have erow : 36 + (4 * i + n % 4) = 36 + 4 * i + n % 4 := by omega
        rw [erow] at hrow
        refine r_loadA a25_108 rfl (by decide) ?_
        refine r_loadI a25_109 rfl ?_
        refine r_loadA a25_111 rfl (by decide) ?_
        refine r_loadI a25_112 rfl ?_
        refine r_loadI a25_114 rfl ?_
        refine r_callI_3 a25_116 (Nat.le_of_ble_eq_true rfl) (le_mx mx28 (Nat.le_of_ble_eq_true rfl)) (Or.inl rfl) (c_Pa_tightness dd z m_105 i (s (64 + k)) ⟨q2, by omega⟩ (by rw [b35]; exact g1) (by rw [b37]; exact g3) (by rw [b36]; exact g2)) (fun x_116 m_116 h_116 => ?_)
        obtain ⟨hm_116, h_116⟩ := h_116
        rw [hm_116]
        have ex116 : x_116 = eTg s k i := by rw [h_116, b35, b37, b36, b431]; rfl
        rw [ex116]
        refine r_loadI a25_119 rfl ?_
        refine r_loadA a25_121 rfl (by decide) ?_
        refine r_loadI a25_122 rfl ?_
        refine r_loadI a25_124 rfl ?_
        refine r_callI_3 a25_125 (Nat.le_of_ble_eq_true rfl) (le_mx mx29 (Nat.le_of_ble_eq_true rfl)) (Or.inl rfl) (c_Pa_ruts dd z m_105 i n ⟨q2, by omega⟩ (by rw [b430]; exact hrut) hn (by rw [b39]; exact hrow)) (fun x_125 m_125 h_125 => ?_)
        obtain ⟨hm_125, h_125⟩ := h_125
        rw [hm_125]
        have ex125 : x_125 = eRu s n i := by rw [h_125, b35, b430, b39]; rfl
        rw [ex125]
        have e6 : ∀ p, 0 ≤ p → p < 10 → m_105 91 p = eI false s cl k n i p ∧ m_105 92 p = if w = 1 then eI true s cl k n i p else 0 := by
          intro p p1 p2
          have := hsm p.toNat (by omega)
          rw [hsum, hsum, Int.toNat_of_nonneg p1] at this
          exact this
        have e51 : m_105 90 1 = s (8 + i) := by rw [fr5 90 (by decide) (by decide) (by decide)]; exact a1
        refine r_callV_5 a25_128 (Nat.le_of_ble_eq_true rfl) (le_mx mx30 (Nat.le_of_ble_eq_true rfl)) (Or.inr (recv_ok ty85 ow30 (by decide))) (c_Pa_fillGate_85 dd z m_105 i (eTg s k i) (s (64 + k)) (eRu s n i) (by omega) ⟨q2, by omega⟩ (by rw [e51]; exact g1) (eTg_r hS ⟨q2, by omega⟩) hsk (eRu_r hS ⟨q2, by omega⟩ hn) (fun p p1 p2 => by
          obtain ⟨t1, t2⟩ := e6 p p1 p2
          have u1 := eI_r (w := false) (s := s) (k := k) (n := n) (g := i) (p := p) hC.2.1 hC.2.2
          have u2 := eI_r (w := true) (s := s) (k := k) (n := n) (g := i) (p := p) hC.2.1 hC.2.2
          rw [t1, t2]; refine ⟨by omega, ?_⟩; split <;> omega)) (fun m_128 h_128 => ?_)
        rw [h_128]
        refine r_iinc_6 a25_131 rfl (by omega) ?_
        refine r_goto a25_134 ?_
        refine ih (i + 1) _ (by omega) (by omega) (by omega) (fun x x1 x2 => ?_) ?_ ?_ (fun g u1 u2 => ?_) ?_
        · rw [fgM_n (by omega) (by omega) (by omega)]; exact fr6 x x1 x2
        · rw [fgM_n (by decide) (by decide) (by decide), fr5 90 (by decide) (by decide) (by decide)]; exact f3
        · rw [fgM_n (by decide) (by decide) (by decide), fr5 85 (by decide) (by decide) (by decide)]; exact fz
        · rw [fgM_n (by decide) (by decide) (by decide), fr5 86 (by decide) (by decide) (by decide)]; exact ho g u1 (by omega)
        · intro g p c g1 g2 p1 p2 c1 c2
          unfold fgM up3
          rw [if_pos rfl, if_neg (by decide), if_pos rfl, if_neg (by decide), if_neg (by decide), if_pos rfl]
          have ej : (g * 10 + p) * 3 + c = 30 * g + 3 * p + c := by omega
          by_cases hgi : g = i
          · rw [ej, hgi, fil_in (by omega), fil_in (by omega), fil_in (by omega), fO_at _ _ _ _ _ _ _ ⟨c1, c2⟩, fT_at _ _ _ _ _ _ _ _ _ ⟨c1, c2⟩, fB_at _ _ _ _ _ _ _ ⟨c1, c2⟩, e51, (e6 p p1 p2).1, (e6 p p1 p2).2]
            exact ⟨rfl, rfl, rfl⟩
          · have hlt : g < i := by omega
            rw [fil_out (by omega), fil_out (by omega), fil_out (by omega), fr5 87 (by decide) (by decide) (by decide), fr5 88 (by decide) (by decide) (by decide), fr5 89 (by decide) (by decide) (by decide)]
            exact ht g p c g1 hlt p1 p2 c1 c2
      have e34 : m1 34 = m 34 := fr 34 (by decide) (by decide)
      have e35 : m1 35 = m 35 := fr 35 (by decide) (by decide)
      have e37 : m1 37 = m 37 := fr 37 (by decide) (by decide)
      refine r_loadI a25_22 rfl ?_
      refine r_loadA a25_24 rfl (by decide) ?_
      refine r_getI (ki := 0) a25_25 ty85 rfl ?_
      rw [fz]
      refine r_icge a25_28 (fun h_28 => ?_) (fun h_28 => ?_)
      · refine r_retVq a25_137 ?_
        have hi : i = s 0 := by omega
        rw [hi] at ho ht
        exact ⟨⟨fr, f3⟩, fz, ho, ht⟩
      · refine r_loadA a25_31 rfl (by decide) ?_
        refine r_getR a25_32 ty85 rf85_1 (by decide) ?_
        refine r_loadI a25_35 rfl ?_
        refine r_loadI a25_37 rfl ?_
        refine r_iast a25_39 ty86 (by omega) ?_
        refine r_loadA a25_40 rfl (by decide) ?_
        refine r_getR a25_41 ty85 rf85_5 (by decide) ?_
        refine r_pushI a25_44 ?_
        refine r_loadI a25_45 rfl ?_
        refine r_iast a25_47 ty90 (by omega) ?_
        refine r_loadA a25_48 rfl (by decide) ?_
        refine r_getR a25_49 ty85 rf85_5 (by decide) ?_
        refine r_pushI a25_52 ?_
        refine r_loadA a25_53 rfl (by decide) ?_
        refine r_getR a25_54 ty33 rf33_0 (by decide) ?_
        refine r_getR a25_57 ty34 rf34_1 (by decide) ?_
        refine r_loadI a25_60 rfl ?_
        refine r_iald a25_62 ty35 (by omega) ?_
        refine r_iast a25_63 ty90 (by omega) ?_
        refine r_loadA a25_64 rfl (by decide) ?_
        refine r_getR a25_65 ty85 rf85_5 (by decide) ?_
        refine r_pushI a25_68 ?_
        refine r_loadA a25_69 rfl (by decide) ?_
        refine r_getR a25_70 ty33 rf33_0 (by decide) ?_
        refine r_getR a25_73 ty34 rf34_3 (by decide) ?_
        refine r_loadI a25_76 rfl ?_
        refine r_iald a25_78 ty37 (by omega) ?_
        refine r_iast a25_79 ty90 (by omega) ?_
        refine r_loadA a25_80 rfl (by decide) ?_
        refine r_getR a25_81 ty85 rf85_5 (by decide) ?_
        refine r_pushI a25_84 ?_
        refine r_loadI a25_85 rfl ?_
        refine r_pushI a25_86 ?_
        refine r_rem a25_88 (by omega) ?_
        refine r_iast a25_89 ty90 (by omega) ?_
        refine r_loadA a25_90 rfl (by decide) ?_
        refine r_getR a25_91 ty85 rf85_5 (by decide) ?_
        refine r_pushI a25_94 ?_
        refine r_loadI a25_95 rfl ?_
        refine r_iast a25_97 ty90 (by omega) ?_
        refine tail _ (by omega) (fun x x1 x2 => ?_) ?_ ?_ (fun g u1 u2 => ?_) (fun g p c u1 u2 u3 u4 u5 u6 => ?_) ⟨?_, ?_, ?_, ?_, ?_⟩
        · rw [up2_c (by omega), up2_c (by omega), up2_c (by omega), up2_c (by omega), up2_c (by omega), up2_c (by omega)]; exact fr x x1 x2
        · rw [up2_k (by decide), up2_k (by decide), up2_k (by decide), up2_k (by decide), up2_k (by decide), up2_c (by decide)]; exact f3
        · rw [up2_c (by decide), up2_c (by decide), up2_c (by decide), up2_c (by decide), up2_c (by decide), up2_c (by decide)]; exact fz
        · rw [up2_c (by decide), up2_c (by decide), up2_c (by decide), up2_c (by decide), up2_c (by decide)]
          by_cases q : g = i
          · rw [q, up2_s]
          · rw [up2_k q]; exact ho g u1 (by omega)
        · rw [up2_c (by decide), up2_c (by decide), up2_c (by decide), up2_c (by decide), up2_c (by decide), up2_c (by decide), up2_c (by decide), up2_c (by decide), up2_c (by decide), up2_c (by decide), up2_c (by decide), up2_c (by decide), up2_c (by decide), up2_c (by decide), up2_c (by decide), up2_c (by decide), up2_c (by decide), up2_c (by decide)]
          exact ht g p c u1 u2 u3 u4 u5 u6
        · rw [up2_k (by decide), up2_k (by decide), up2_k (by decide), up2_k (by decide), up2_s]
        · rw [up2_k (by decide), up2_k (by decide), up2_k (by decide), up2_s, up2_c (by decide), up2_c (by decide), e35]; exact (rg i q2 (by omega)).1
        · rw [up2_k (by decide), up2_k (by decide), up2_s, up2_c (by decide), up2_c (by decide), up2_c (by decide), e37]; exact (rg i q2 (by omega)).2.2.1
        · rw [up2_k (by decide), up2_s]
        · rw [up2_s]
  refine r_entry mx25 rfl ?_
  refine r_loadA a25_0 rfl (by decide) ?_
  refine r_loadA a25_1 rfl (by decide) ?_
  refine r_getR a25_2 ty33 rf33_0 (by decide) ?_
  refine r_getI (ki := 0) a25_5 ty34 rfl ?_
  refine r_putI (ki := 0) a25_8 ty85 rfl ?_
  refine r_loadA a25_11 rfl (by decide) ?_
  refine r_getR a25_12 ty33 rf33_1 (by decide) ?_
  refine r_loadI a25_15 rfl ?_
  have ek : up2 m 85 0 (m 34 0) 40 k = s (64 + k) := by rw [up2_c (by decide)]; exact r3 k hk.1 (by omega)
  refine r_iald a25_16 ty40 (by omega) ?_
  rw [ek]
  refine r_storeI_5 a25_17 rfl ?_
  refine r_pushI a25_19 ?_
  refine r_storeI_6 a25_20 rfl ?_
  refine loop 8 0 _ (by omega) (by omega) (by omega) (fun x x1 x2 => ?_) ?_ ?_ (fun g u1 u2 => by omega) (fun g p c u1 u2 => by omega)
  · rw [up2_c (by omega)]
  · rw [up2_c (by decide)]
  · rw [up2_s]; exact r0
theorem c_Pa_prepare_98 (d z : Nat) (m : XM) (s : Int → Int) (cl : CLs) (k n w : Int) (hd : 5 ≤ d) (hS : okS s) (hR : RepB m s 33) (hC : ClB m 33 cl) (h3 : 0 ≤ m 103 3 ∧ m 103 3 ≤ 9) (hk : 0 ≤ k ∧ k < s 1) (hn : 0 ≤ n ∧ n ≤ 9999) (hw : w = 0 ∨ w = 1) :
    CV d k_Pa_prepare z m [vR 98, vR 33, vI k, vI n, vI w] (fun m' => FrP 98 m m' ∧ PrepP m' 98 s cl k n w) := by
  obtain ⟨dd, rfl⟩ : ∃ dd, d = dd + 1 := ⟨d - 1, by omega⟩
  have hN := hS.1.1
  have hK := hS.1.2.1
  have hsk := hS.2.2.2.1 k hk.1 (by omega)
  have r1 := hR.1
  have r2 : ∀ k, 0 ≤ k → k < 28 → m 39 k = s (36 + k) := hR.2.1
  have r3 : ∀ p, 0 ≤ p → p < 5 → m 40 p = s (64 + p) := hR.2.2.1.2.2.2
  have r4 : m 43 0 = rutS s ∧ m 43 1 = fogS s := hR.2.2.2.2.1
  have r0 : m 34 0 = s 0 := r1.1
  have rg : ∀ g, 0 ≤ g → g < 7 → m 35 g = s (8 + g) ∧ m 36 g = s (15 + g) ∧ m 37 g = s (22 + g) ∧ m 38 g = s (29 + g) := r1.2
  have hrut := okS_rut hS
  have hlen : m 43 2 ≤ 10 := by
    obtain ⟨⟨en, e1, e2⟩, e3, e4⟩ := hC
    have := (ClR_len e2).1
    have e5 : m (33 + 10) 2 = m 43 2 := rfl
    omega
  have loop : ∀ (c : Nat) (i : Int) (m1 : XM), s 0 < i + c → 0 ≤ i → i ≤ s 0 → (∀ x, ¬ (98 ≤ x ∧ x ≤ 105) → x ≠ 48 → m1 x = m x) → m1 103 3 = m 103 3 → m1 98 0 = s 0 →
      (∀ g, 0 ≤ g → g < i → m1 99 g = g) → TabP m1 100 101 102 s cl k n w i →
      RZ (dd + 1) k_Pa_prepare 22 [vR 98, vR 33, vI k, vI n, vI w, vI (s (64 + k)), vI i] [] (zH z m1) (qz z (qv fun m' => FrP 98 m m' ∧ PrepP m' 98 s cl k n w)) := by
    intro c
    induction c with
    | zero => intro i m1 q1 q2 q3; exfalso; omega
    | succ c ih =>
      intro i m1 q1 q2 q3 fr f3 fz ho ht
      have tail : ∀ (m2 : XM), i < s 0 → (∀ x, ¬ (98 ≤ x ∧ x ≤ 105) → x ≠ 48 → m2 x = m x) → m2 103 3 = m 103 3 → m2 98 0 = s 0 →
          (∀ g, 0 ≤ g → g ≤ i → m2 99 g = g) → TabP m2 100 101 102 s cl k n w i →
          m2 103 0 = i ∧ m2 103 1 = s (8 + i) ∧ m2 103 2 = s (22 + i) ∧ m2 103 4 = n % 10 ∧ m2 103 5 = s (64 + k) →
          RZ (dd + 1) k_Pa_prepare 98 [vR 98, vR 33, vI k, vI n, vI w, vI (s (64 + k)), vI i] [] (zH z m2) (qz z (qv fun m' => FrP 98 m m' ∧ PrepP m' 98 s cl k n w)) := by
        intro m2 hi fr f3 fz ho ht ⟨a0, a1, a2, a4, a5⟩
        obtain ⟨g1, g2, g3, g4⟩ := hS.2.1 i q2 (by omega)
        have hF : ∀ w, 0 ≤ w → w < 6 → 0 ≤ m2 103 w ∧ m2 103 w ≤ 9 := by
          intro w w1 w2
          have : w = 0 ∨ w = 1 ∨ w = 2 ∨ w = 3 ∨ w = 4 ∨ w = 5 := by omega
          rcases this with q | q | q | q | q | q <;> rw [q] <;> omega
        have hC2 : ClB m2 33 cl := ClB_cong (fun x x1 x2 => fr x (by omega) (by omega)) hC
        have hsum := fun (w : Bool) (p : Nat) => sumC_cong w (vAt_cong (f := m2 103) (f' := fcts s k n i) a0 a1 a2 a4 a5 p) cl hC.2.1
        have hsr := fun (w : Bool) (p : Nat) => sumC_r w (vAt (m2 103) p) cl hC.2.1
        have hcl10 := hC.2.2
        have e34 : ∀ m3 : XM, (∀ x, x ≠ 104 → x ≠ 105 → x ≠ 48 → m3 x = m2 x) → ∀ x, ¬ (98 ≤ x ∧ x ≤ 105) → x ≠ 48 → m3 x = m x := fun m3 h3 x x1 x2 => by
          rw [h3 x (by omega) (by omega) x2, fr x x1 x2]
        refine r_loadA a25_98 rfl (by decide) ?_
        refine r_loadA a25_99 rfl (by decide) ?_
        refine r_getR a25_100 ty33 rf33_5 (by decide) ?_
        refine r_loadI a25_103 rfl ?_
        refine r_callV_3 a25_105 (Nat.le_of_ble_eq_true rfl) (le_mx mx26 (Nat.le_of_ble_eq_true rfl)) (Or.inr (recv_ok ty98 ow26 (by decide))) (c_Pa_sum_98 dd z m2 cl w (by omega) hw hF hC2.1 hC.2.1 (by rw [fr 43 (by decide) (by decide)]; exact hlen)) (fun m_105 h_105 => ?_)
        obtain ⟨fr5, hsm⟩ := h_105
        have fr6 := e34 m_105 fr5
        have b35 : m_105 35 i = s (8 + i) := by rw [fr6 35 (by decide) (by decide)]; exact (rg i q2 (by omega)).1
        have b36 : m_105 36 i = s (15 + i) := by rw [fr6 36 (by decide) (by decide)]; exact (rg i q2 (by omega)).2.1
        have b37 : m_105 37 i = s (22 + i) := by rw [fr6 37 (by decide) (by decide)]; exact (rg i q2 (by omega)).2.2.1
        have b430 : m_105 43 0 = rutS s := by rw [fr6 43 (by decide) (by decide)]; exact r4.1
        have b431 : m_105 43 1 = fogS s := by rw [fr6 43 (by decide) (by decide)]; exact r4.2
        have b39 : m_105 39 (i * 4 + n % 4) = s (36 + 4 * i + n % 4) := by
          rw [fr6 39 (by decide) (by decide), r2 _ (by omega) (by omega)]; congr 1; omega
        have hrow := (hS.2.2.1 (4 * i + n % 4) (by omega) (by omega)).1
        have erow : 36 + (4 * i + n % 4) = 36 + 4 * i + n % 4 := by omega
        rw [erow] at hrow
        refine r_loadA a25_108 rfl (by decide) ?_
        refine r_loadI a25_109 rfl ?_
        refine r_loadA a25_111 rfl (by decide) ?_
        refine r_loadI a25_112 rfl ?_
        refine r_loadI a25_114 rfl ?_
        refine r_callI_3 a25_116 (Nat.le_of_ble_eq_true rfl) (le_mx mx28 (Nat.le_of_ble_eq_true rfl)) (Or.inl rfl) (c_Pa_tightness dd z m_105 i (s (64 + k)) ⟨q2, by omega⟩ (by rw [b35]; exact g1) (by rw [b37]; exact g3) (by rw [b36]; exact g2)) (fun x_116 m_116 h_116 => ?_)
        obtain ⟨hm_116, h_116⟩ := h_116
        rw [hm_116]
        have ex116 : x_116 = eTg s k i := by rw [h_116, b35, b37, b36, b431]; rfl
        rw [ex116]
        refine r_loadI a25_119 rfl ?_
        refine r_loadA a25_121 rfl (by decide) ?_
        refine r_loadI a25_122 rfl ?_
        refine r_loadI a25_124 rfl ?_
        refine r_callI_3 a25_125 (Nat.le_of_ble_eq_true rfl) (le_mx mx29 (Nat.le_of_ble_eq_true rfl)) (Or.inl rfl) (c_Pa_ruts dd z m_105 i n ⟨q2, by omega⟩ (by rw [b430]; exact hrut) hn (by rw [b39]; exact hrow)) (fun x_125 m_125 h_125 => ?_)
        obtain ⟨hm_125, h_125⟩ := h_125
        rw [hm_125]
        have ex125 : x_125 = eRu s n i := by rw [h_125, b35, b430, b39]; rfl
        rw [ex125]
        have e6 : ∀ p, 0 ≤ p → p < 10 → m_105 104 p = eI false s cl k n i p ∧ m_105 105 p = if w = 1 then eI true s cl k n i p else 0 := by
          intro p p1 p2
          have := hsm p.toNat (by omega)
          rw [hsum, hsum, Int.toNat_of_nonneg p1] at this
          exact this
        have e51 : m_105 103 1 = s (8 + i) := by rw [fr5 103 (by decide) (by decide) (by decide)]; exact a1
        refine r_callV_5 a25_128 (Nat.le_of_ble_eq_true rfl) (le_mx mx30 (Nat.le_of_ble_eq_true rfl)) (Or.inr (recv_ok ty98 ow30 (by decide))) (c_Pa_fillGate_98 dd z m_105 i (eTg s k i) (s (64 + k)) (eRu s n i) (by omega) ⟨q2, by omega⟩ (by rw [e51]; exact g1) (eTg_r hS ⟨q2, by omega⟩) hsk (eRu_r hS ⟨q2, by omega⟩ hn) (fun p p1 p2 => by
          obtain ⟨t1, t2⟩ := e6 p p1 p2
          have u1 := eI_r (w := false) (s := s) (k := k) (n := n) (g := i) (p := p) hC.2.1 hC.2.2
          have u2 := eI_r (w := true) (s := s) (k := k) (n := n) (g := i) (p := p) hC.2.1 hC.2.2
          rw [t1, t2]; refine ⟨by omega, ?_⟩; split <;> omega)) (fun m_128 h_128 => ?_)
        rw [h_128]
        refine r_iinc_6 a25_131 rfl (by omega) ?_
        refine r_goto a25_134 ?_
        refine ih (i + 1) _ (by omega) (by omega) (by omega) (fun x x1 x2 => ?_) ?_ ?_ (fun g u1 u2 => ?_) ?_
        · rw [fgM_n (by omega) (by omega) (by omega)]; exact fr6 x x1 x2
        · rw [fgM_n (by decide) (by decide) (by decide), fr5 103 (by decide) (by decide) (by decide)]; exact f3
        · rw [fgM_n (by decide) (by decide) (by decide), fr5 98 (by decide) (by decide) (by decide)]; exact fz
        · rw [fgM_n (by decide) (by decide) (by decide), fr5 99 (by decide) (by decide) (by decide)]; exact ho g u1 (by omega)
        · intro g p c g1 g2 p1 p2 c1 c2
          unfold fgM up3
          rw [if_pos rfl, if_neg (by decide), if_pos rfl, if_neg (by decide), if_neg (by decide), if_pos rfl]
          have ej : (g * 10 + p) * 3 + c = 30 * g + 3 * p + c := by omega
          by_cases hgi : g = i
          · rw [ej, hgi, fil_in (by omega), fil_in (by omega), fil_in (by omega), fO_at _ _ _ _ _ _ _ ⟨c1, c2⟩, fT_at _ _ _ _ _ _ _ _ _ ⟨c1, c2⟩, fB_at _ _ _ _ _ _ _ ⟨c1, c2⟩, e51, (e6 p p1 p2).1, (e6 p p1 p2).2]
            exact ⟨rfl, rfl, rfl⟩
          · have hlt : g < i := by omega
            rw [fil_out (by omega), fil_out (by omega), fil_out (by omega), fr5 100 (by decide) (by decide) (by decide), fr5 101 (by decide) (by decide) (by decide), fr5 102 (by decide) (by decide) (by decide)]
            exact ht g p c g1 hlt p1 p2 c1 c2
      have e34 : m1 34 = m 34 := fr 34 (by decide) (by decide)
      have e35 : m1 35 = m 35 := fr 35 (by decide) (by decide)
      have e37 : m1 37 = m 37 := fr 37 (by decide) (by decide)
      refine r_loadI a25_22 rfl ?_
      refine r_loadA a25_24 rfl (by decide) ?_
      refine r_getI (ki := 0) a25_25 ty98 rfl ?_
      rw [fz]
      refine r_icge a25_28 (fun h_28 => ?_) (fun h_28 => ?_)
      · refine r_retVq a25_137 ?_
        have hi : i = s 0 := by omega
        rw [hi] at ho ht
        exact ⟨⟨fr, f3⟩, fz, ho, ht⟩
      · refine r_loadA a25_31 rfl (by decide) ?_
        refine r_getR a25_32 ty98 rf98_1 (by decide) ?_
        refine r_loadI a25_35 rfl ?_
        refine r_loadI a25_37 rfl ?_
        refine r_iast a25_39 ty99 (by omega) ?_
        refine r_loadA a25_40 rfl (by decide) ?_
        refine r_getR a25_41 ty98 rf98_5 (by decide) ?_
        refine r_pushI a25_44 ?_
        refine r_loadI a25_45 rfl ?_
        refine r_iast a25_47 ty103 (by omega) ?_
        refine r_loadA a25_48 rfl (by decide) ?_
        refine r_getR a25_49 ty98 rf98_5 (by decide) ?_
        refine r_pushI a25_52 ?_
        refine r_loadA a25_53 rfl (by decide) ?_
        refine r_getR a25_54 ty33 rf33_0 (by decide) ?_
        refine r_getR a25_57 ty34 rf34_1 (by decide) ?_
        refine r_loadI a25_60 rfl ?_
        refine r_iald a25_62 ty35 (by omega) ?_
        refine r_iast a25_63 ty103 (by omega) ?_
        refine r_loadA a25_64 rfl (by decide) ?_
        refine r_getR a25_65 ty98 rf98_5 (by decide) ?_
        refine r_pushI a25_68 ?_
        refine r_loadA a25_69 rfl (by decide) ?_
        refine r_getR a25_70 ty33 rf33_0 (by decide) ?_
        refine r_getR a25_73 ty34 rf34_3 (by decide) ?_
        refine r_loadI a25_76 rfl ?_
        refine r_iald a25_78 ty37 (by omega) ?_
        refine r_iast a25_79 ty103 (by omega) ?_
        refine r_loadA a25_80 rfl (by decide) ?_
        refine r_getR a25_81 ty98 rf98_5 (by decide) ?_
        refine r_pushI a25_84 ?_
        refine r_loadI a25_85 rfl ?_
        refine r_pushI a25_86 ?_
        refine r_rem a25_88 (by omega) ?_
        refine r_iast a25_89 ty103 (by omega) ?_
        refine r_loadA a25_90 rfl (by decide) ?_
        refine r_getR a25_91 ty98 rf98_5 (by decide) ?_
        refine r_pushI a25_94 ?_
        refine r_loadI a25_95 rfl ?_
        refine r_iast a25_97 ty103 (by omega) ?_
        refine tail _ (by omega) (fun x x1 x2 => ?_) ?_ ?_ (fun g u1 u2 => ?_) (fun g p c u1 u2 u3 u4 u5 u6 => ?_) ⟨?_, ?_, ?_, ?_, ?_⟩
        · rw [up2_c (by omega), up2_c (by omega), up2_c (by omega), up2_c (by omega), up2_c (by omega), up2_c (by omega)]; exact fr x x1 x2
        · rw [up2_k (by decide), up2_k (by decide), up2_k (by decide), up2_k (by decide), up2_k (by decide), up2_c (by decide)]; exact f3
        · rw [up2_c (by decide), up2_c (by decide), up2_c (by decide), up2_c (by decide), up2_c (by decide), up2_c (by decide)]; exact fz
        · rw [up2_c (by decide), up2_c (by decide), up2_c (by decide), up2_c (by decide), up2_c (by decide)]
          by_cases q : g = i
          · rw [q, up2_s]
          · rw [up2_k q]; exact ho g u1 (by omega)
        · rw [up2_c (by decide), up2_c (by decide), up2_c (by decide), up2_c (by decide), up2_c (by decide), up2_c (by decide), up2_c (by decide), up2_c (by decide), up2_c (by decide), up2_c (by decide), up2_c (by decide), up2_c (by decide), up2_c (by decide), up2_c (by decide), up2_c (by decide), up2_c (by decide), up2_c (by decide), up2_c (by decide)]
          exact ht g p c u1 u2 u3 u4 u5 u6
        · rw [up2_k (by decide), up2_k (by decide), up2_k (by decide), up2_k (by decide), up2_s]
        · rw [up2_k (by decide), up2_k (by decide), up2_k (by decide), up2_s, up2_c (by decide), up2_c (by decide), e35]; exact (rg i q2 (by omega)).1
        · rw [up2_k (by decide), up2_k (by decide), up2_s, up2_c (by decide), up2_c (by decide), up2_c (by decide), e37]; exact (rg i q2 (by omega)).2.2.1
        · rw [up2_k (by decide), up2_s]
        · rw [up2_s]
  refine r_entry mx25 rfl ?_
  refine r_loadA a25_0 rfl (by decide) ?_
  refine r_loadA a25_1 rfl (by decide) ?_
  refine r_getR a25_2 ty33 rf33_0 (by decide) ?_
  refine r_getI (ki := 0) a25_5 ty34 rfl ?_
  refine r_putI (ki := 0) a25_8 ty98 rfl ?_
  refine r_loadA a25_11 rfl (by decide) ?_
  refine r_getR a25_12 ty33 rf33_1 (by decide) ?_
  refine r_loadI a25_15 rfl ?_
  have ek : up2 m 98 0 (m 34 0) 40 k = s (64 + k) := by rw [up2_c (by decide)]; exact r3 k hk.1 (by omega)
  refine r_iald a25_16 ty40 (by omega) ?_
  rw [ek]
  refine r_storeI_5 a25_17 rfl ?_
  refine r_pushI a25_19 ?_
  refine r_storeI_6 a25_20 rfl ?_
  refine loop 8 0 _ (by omega) (by omega) (by omega) (fun x x1 x2 => ?_) ?_ ?_ (fun g u1 u2 => by omega) (fun g p c u1 u2 => by omega)
  · rw [up2_c (by omega)]
  · rw [up2_c (by decide)]
  · rw [up2_s]; exact r0
