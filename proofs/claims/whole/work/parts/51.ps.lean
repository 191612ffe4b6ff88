-- ===== the reference: one passage =====
theorem eI_mod (w : Bool) (s : Int → Int) (cl : CLs) (k n g p : Int) : eI w s cl k n g p = eI w s cl k (n % 10) g p := by
  unfold eI
  have : fcts s k n g = fcts s k (n % 10) g := by
    funext x; unfold fcts; rw [show n % 10 % 10 = n % 10 by omega]
  rw [this]
def MemoI (m : XM) (s : Int → Int) (cl : CLs) (k : Int) (od : Int → Int) : Prop :=
  ∀ r i p, 0 ≤ r → r < 10 → 0 ≤ i → i < 7 → 0 ≤ p → p < 10 → m 127 ((r * 7 + i) * 10 + p) = -1 ∨ (m 127 ((r * 7 + i) * 10 + p) = eI true s cl k r (od i) p ∧ m 128 ((r * 7 + i) * 10 + p) = eI false s cl k r (od i) p)
def MemoP (m : XM) (s : Int → Int) (cl : CLs) (k n w : Int) (od : Int → Int) : Prop :=
  ∀ i p c, 0 ≤ i → i < 7 → 0 ≤ p → p < 10 → 0 ≤ c → c < 3 → m 129 (30 * i + 3 * p + c) = -1 ∨ (m 129 (30 * i + 3 * p + c) = eT s cl k n w (od i) p c ∧ m 130 (30 * i + 3 * p + c) = eO s cl k n (od i) p c ∧ m 131 (30 * i + 3 * p + c) = eB s cl k n (od i) p c)
/-- the reference's asking: of a skier, runs, with wax or not, gates in an order -/
def RefA (m : XM) (s : Int → Int) (k n w : Int) (od : Int → Int) : Prop :=
  m 122 = s ∧ m 121 14 = k ∧ m 121 15 = n ∧ m 121 16 = 1 - w ∧ ∀ i, 0 ≤ i → i < 7 → m 126 i = od i ∧ 0 ≤ od i ∧ od i < 7
def RefQ (m : XM) (s : Int → Int) (cl : CLs) (k n w : Int) (od : Int → Int) : Prop :=
  RefA m s k n w od ∧ MemoI m s cl k od ∧ MemoP m s cl k n w od
/-- what is asked of -/
def AskOk (s : Int → Int) (cl : CLs) (k n w : Int) : Prop := okS s ∧ ClS s cl ∧ (0 ≤ k ∧ k < 5) ∧ (0 ≤ n ∧ n ≤ 9999) ∧ (w = 0 ∨ w = 1)
def PsF (m : XM) (s : Int → Int) (cl : CLs) (k : Int) (od : Int → Int) (m' : XM) : Prop :=
  (∀ x, x ≠ 121 → x ≠ 124 → x ≠ 125 → x ≠ 127 → x ≠ 128 → m' x = m x) ∧ (∀ y, y ≠ 11 → y ≠ 12 → y ≠ 22 → y ≠ 23 → y ≠ 24 → m' 121 y = m 121 y) ∧ MemoI m' s cl k od
theorem PsF_up {m m2 : XM} {s : Int → Int} {cl : CLs} {k : Int} {od : Int → Int} (h : PsF m s cl k od m2) {y v : Int} (hy : y = 22 ∨ y = 23 ∨ y = 24) : PsF m s cl k od (up2 m2 121 y v) := by
  obtain ⟨h1, h2, h3⟩ := h
  refine ⟨fun x a b c d e => by rw [up2_c a]; exact h1 x a b c d e, fun x a b c d e => by rw [up2_k (by omega)]; exact h2 x a b c d e, ?_⟩
  unfold MemoI; rw [up2_c (by decide), up2_c (by decide)]; exact h3
theorem tells_rut {s : Int → Int} {x : Int} (h : (s 6 = -1 ∧ x = 0) ∨ (0 ≤ s 6 ∧ x = s (199 + s 6))) : x = rutS s := by
  unfold rutS; rcases h with ⟨a, b⟩ | ⟨a, b⟩
  · rw [if_pos a, b]
  · rw [if_neg (by omega), b]
theorem tells_fog {s : Int → Int} {x : Int} (h : (s 6 = -1 ∧ x = 0) ∨ (0 ≤ s 6 ∧ x = s (204 + s 6))) : x = fogS s := by
  unfold fogS; rcases h with ⟨a, b⟩ | ⟨a, b⟩
  · rw [if_pos a, b]
  · rw [if_neg (by omega), b]
theorem c_Mo_looksForPass (d z : Nat) (m : XM) (s : Int → Int) (cl : CLs) (k n w : Int) (od : Int → Int) (i p c : Int) (hd : 2 ≤ d) (hA : AskOk s cl k n w) (hQ : RefA m s k n w od) (hMI : MemoI m s cl k od)
    (hi : 0 ≤ i ∧ i < 7) (hp : 0 ≤ p ∧ p < 10) (hc : 0 ≤ c ∧ c < 3) :
    CV d k_Mo_looksForPass z m [vR 121, vI i, vI p, vI c] (fun m' => PsF m s cl k od m' ∧ m' 121 22 = eO s cl k n (od i) p c ∧ m' 121 23 = eT s cl k n w (od i) p c ∧ m' 121 24 = eB s cl k n (od i) p c) := by
  obtain ⟨dd, rfl⟩ : ∃ dd, d = dd + 1 := ⟨d - 1, by omega⟩
  obtain ⟨hS, hC, hk, hn, hw⟩ := hA
  obtain ⟨q122, q14, q15, q16, qod⟩ := hQ
  obtain ⟨hod, hod1, hod2⟩ := qod i hi.1 hi.2
  have qod2 : ∀ i, 0 ≤ i → i < 7 → m 126 i = od i := fun i a b => (qod i a b).1
  have rI := fun w : Bool => eI_r (w := w) (s := s) (k := k) (n := n) (g := od i) (p := p) hC.2.1 hC.2.2
  have rI1 := rI true
  have rI2 := rI false
  have rO := eO_r s cl k n (od i) p c
  have rT := eTg_r (k := k) hS ⟨hod1, hod2⟩
  have rR := eRu_r hS ⟨hod1, hod2⟩ hn
  have rP := psP_r (kd := s (8 + od i)) hp
  have rS := hS.2.2.2.1 k hk.1 (by omega)
  have rG := hS.2.1 (od i) hod1 hod2
  have rrut := okS_rut hS
  have rfog := okS_fog hS
  have rrow := (hS.2.2.1 (4 * od i + n % 4) (by omega) (by omega)).1
  have erow : 36 + (4 * od i + n % 4) = 36 + 4 * od i + n % 4 := by omega
  rw [erow] at rrow
  have rq : 0 ≤ n / rutS s ∧ n / rutS s ≤ n := ⟨Int.ediv_nonneg hn.1 rrut.1, Int.ediv_le_self _ hn.1⟩
  obtain ⟨O, hO⟩ : ∃ O, eO s cl k n (od i) p c = O := ⟨_, rfl⟩
  obtain ⟨T, hTT⟩ : ∃ T, eT s cl k n w (od i) p c = T := ⟨_, rfl⟩
  obtain ⟨B, hB⟩ : ∃ B, eB s cl k n (od i) p c = B := ⟨_, rfl⟩
  rw [hO] at rO
  rw [hO, hTT, hB]
  obtain ⟨g, hg⟩ : ∃ g, od i = g := ⟨_, rfl⟩
  obtain ⟨tg, htg⟩ : ∃ tg, eTg s k (od i) = tg := ⟨_, rfl⟩
  obtain ⟨ic, hic⟩ : ∃ ic, eI false s cl k n (od i) p = ic := ⟨_, rfl⟩
  obtain ⟨wx, hwx⟩ : ∃ wx, eI true s cl k n (od i) p = wx := ⟨_, rfl⟩
  obtain ⟨P, hP⟩ : ∃ P, psP (s (8 + od i)) p = P := ⟨_, rfl⟩
  obtain ⟨ru, hru⟩ : ∃ ru, eRu s n (od i) = ru := ⟨_, rfl⟩
  have dO : O = clI (P + tg + ic - 3 * c - s (64 + k) - 4) 20 := by rw [← hO, ← hP, ← htg, ← hic]; rfl
  have dB : B = clI (P + (if s (8 + od i) = 1 ∨ s (8 + od i) = 4 then 3 else 1) + (if c = 2 then 1 else 0) - tg / 3 - O) 9 := by rw [← hB, ← hP, ← htg, ← hO]; rfl
  have dT : T = if (if s (8 + od i) = 4 then 90 - 8 * P else 60 - 4 * P) + 5 * c + 3 * O + ru - (if w = 1 then wx else 0) < 1 then 1 else (if s (8 + od i) = 4 then 90 - 8 * P else 60 - 4 * P) + 5 * c + 3 * O + ru - (if w = 1 then wx else 0) := by
    rw [← hTT, ← hP, ← hru, ← hO, ← hwx]; rfl
  have dtg : tg = s (22 + od i) + (if s (8 + od i) = 2 ∨ s (8 + od i) = 5 then 2 else 0) + (if s (8 + od i) = 5 ∧ s (64 + k) < fogS s then s (15 + od i) else 0) := by rw [← htg]; rfl
  have dru : ru = (if rutS s = 0 then 0 else n / rutS s) + (if s (8 + od i) = 6 then s (36 + 4 * od i + n % 4) else 0) := by rw [← hru]; rfl
  have dP : P = if (s (8 + od i) = 3 ∨ s (8 + od i) = 6) ∧ p < 9 then p + 1 else p := by rw [← hP]; rfl
  rw [hP] at rP
  rw [htg] at rT
  rw [hru] at rR
  rw [hic] at rI2
  rw [hwx] at rI1
  rw [hg] at dB dT dtg dru dP rG rrow hod hod1 hod2
  generalize hkd : s (8 + g) = kd at dB dT dtg dru dP rG
  generalize hsk : s (64 + k) = sk at dO dtg rS
  have t394 : ∀ (m2 : XM) (cc ru' : Int), PsF m s cl k od m2 → m2 121 22 = O → m2 121 23 = T → cc = (if c = 2 then 1 else 0) →
      RZ (dd + 1) k_Mo_looksForPass 394 [vR 121, vI i, vI p, vI c, vI g, vI kd, vI (((n % 10) * 7 + i) * 10 + p), vI P, vI sk, vI tg, vI ru'] [vI cc, vI (P + 1), vR 121] (zH z m2) (qz z (qv fun m' => PsF m s cl k od m' ∧ m' 121 22 = O ∧ m' 121 23 = T ∧ m' 121 24 = B)) := by
    intro m2 cc ru' hF h22 h23 hcc
    have hcc2 : 0 ≤ cc ∧ cc ≤ 1 := by rw [hcc]; split <;> omega
    rw [← hcc] at dB
    have q3 : 0 ≤ tg / 3 ∧ tg / 3 ≤ 7 := by omega
    have gain : ∀ a : Int, a = (if kd = 1 ∨ kd = 4 then 2 else 0) → (0 ≤ a ∧ a ≤ 2) ∧ B = clI (P + 1 + cc - tg / 3 - O + a) 9 := by
      intro a ha
      refine ⟨by rw [ha]; split <;> omega, ?_⟩
      rw [dB, ha]; congr 1; split <;> omega
    have t422 : ∀ a : Int, a = (if kd = 1 ∨ kd = 4 then 2 else 0) → RZ (dd + 1) k_Mo_looksForPass 422 [vR 121, vI i, vI p, vI c, vI g, vI kd, vI (((n % 10) * 7 + i) * 10 + p), vI P, vI sk, vI tg, vI ru'] [vI a, vI (P + 1 + cc - tg / 3 - O), vR 121] (zH z m2) (qz z (qv fun m' => PsF m s cl k od m' ∧ m' 121 22 = O ∧ m' 121 23 = T ∧ m' 121 24 = B)) := by
      intro a ha
      obtain ⟨ha2, hBB⟩ := gain a ha
      refine r_add a151_422 (by omega) ?_
      refine r_pushI a151_423 ?_
      refine r_pushI a151_424 ?_
      refine r_callI_3 a151_426 (Nat.le_of_ble_eq_true rfl) (le_mx mx120 (Nat.le_of_ble_eq_true rfl)) (Or.inl rfl) (c_Mo_within dd z m2 (P + 1 + cc - tg / 3 - O + a) 0 9) (fun x_426 m_426 h_426 => ?_)
      obtain ⟨hm_426, h_426⟩ := h_426
      rw [hm_426]
      have e : x_426 = B := by rw [hBB]; unfold clI; (repeat' split) <;> omega
      rw [e]
      refine r_putI (ki := 24) a151_429 ty121 rfl ?_
      refine r_retVq a151_432 ?_
      refine ⟨PsF_up hF (by omega), ?_, ?_, ?_⟩
      · rw [up2_k (by decide)]; exact h22
      · rw [up2_k (by decide)]; exact h23
      · rw [up2_s]
    refine r_add a151_394 (by omega) ?_
    refine r_loadI a151_395 rfl ?_
    refine r_pushI a151_397 ?_
    refine r_div a151_398 (by omega) ?_
    refine r_sub a151_399 (by omega) ?_
    refine r_loadA a151_400 rfl (by decide) ?_
    refine r_getI (ki := 22) a151_401 ty121 rfl ?_
    rw [h22]
    refine r_sub a151_404 (by omega) ?_
    refine r_loadI a151_405 rfl ?_
    refine r_pushI a151_407 ?_
    refine r_iceq a151_408 (fun h_408 => ?_) (fun h_408 => ?_)
    · refine r_pushI a151_417 ?_
      refine r_goto a151_418 ?_
      exact t422 _ (by first | rw [if_pos (by omega)] | rw [if_neg (by omega)])
    · refine r_loadI a151_411 rfl ?_
      refine r_pushI a151_413 ?_
      refine r_icne a151_414 (fun h_414 => ?_) (fun h_414 => ?_)
      · refine r_pushI a151_421 ?_
        exact t422 _ (by first | rw [if_pos (by omega)] | rw [if_neg (by omega)])
      · refine r_pushI a151_417 ?_
        refine r_goto a151_418 ?_
        exact t422 _ (by first | rw [if_pos (by omega)] | rw [if_neg (by omega)])
  have t376 : ∀ (m2 : XM) (x ru' : Int), PsF m s cl k od m2 → m2 121 22 = O → x = T →
      RZ (dd + 1) k_Mo_looksForPass 376 [vR 121, vI i, vI p, vI c, vI g, vI kd, vI (((n % 10) * 7 + i) * 10 + p), vI P, vI sk, vI tg, vI ru'] [vI x, vR 121] (zH z m2) (qz z (qv fun m' => PsF m s cl k od m' ∧ m' 121 22 = O ∧ m' 121 23 = T ∧ m' 121 24 = B)) := by
    intro m2 x ru' hF h22 hx
    refine r_putI (ki := 23) a151_376 ty121 rfl ?_
    refine r_loadA a151_379 rfl (by decide) ?_
    refine r_loadI a151_380 rfl ?_
    refine r_pushI a151_382 ?_
    refine r_add a151_383 (by omega) ?_
    refine r_loadI a151_384 rfl ?_
    refine r_pushI a151_385 ?_
    refine r_icne a151_386 (fun h_386 => ?_) (fun h_386 => ?_)
    · refine r_pushI a151_393 ?_
      exact t394 _ _ ru' (PsF_up hF (by omega)) (by rw [up2_k (by decide)]; exact h22) (by rw [up2_s]; exact hx) (by first | rw [if_pos (by omega)] | rw [if_neg (by omega)])
    · refine r_pushI a151_389 ?_
      refine r_goto a151_390 ?_
      exact t394 _ _ ru' (PsF_up hF (by omega)) (by rw [up2_k (by decide)]; exact h22) (by rw [up2_s]; exact hx) (by first | rw [if_pos (by omega)] | rw [if_neg (by omega)])
  have t355 : ∀ (m2 : XM) (x y ru' : Int), PsF m s cl k od m2 → m2 121 22 = O → y = (if w = 1 then wx else 0) → x = (if kd = 4 then 90 - 8 * P else 60 - 4 * P) + 5 * c + 3 * O + ru →
      RZ (dd + 1) k_Mo_looksForPass 355 [vR 121, vI i, vI p, vI c, vI g, vI kd, vI (((n % 10) * 7 + i) * 10 + p), vI P, vI sk, vI tg, vI ru'] [vI y, vI x, vR 121] (zH z m2) (qz z (qv fun m' => PsF m s cl k od m' ∧ m' 121 22 = O ∧ m' 121 23 = T ∧ m' 121 24 = B)) := by
    intro m2 x y ru' hF h22 hy hx
    have hy2 : 0 ≤ y ∧ y ≤ 990 := by rw [hy]; split <;> omega
    have hx2 : -100 ≤ x ∧ x ≤ 21000 := by rw [hx]; split <;> omega
    rw [← hy, ← hx] at dT
    refine r_sub a151_355 (by omega) ?_
    refine r_putI (ki := 23) a151_356 ty121 rfl ?_
    refine r_loadA a151_359 rfl (by decide) ?_
    refine r_loadA a151_360 rfl (by decide) ?_
    refine r_getI (ki := 23) a151_361 ty121 rfl ?_
    rw [up2_s]
    refine r_pushI a151_364 ?_
    refine r_icge a151_365 (fun h_365 => ?_) (fun h_365 => ?_)
    · refine r_loadA a151_372 rfl (by decide) ?_
      refine r_getI (ki := 23) a151_373 ty121 rfl ?_
      exact t376 _ _ ru' (PsF_up hF (by omega)) (by rw [up2_k (by decide)]; exact h22) (by rw [dT]; first | rw [if_pos (by omega)] | rw [up2_s, if_neg (by omega)])
    · refine r_pushI a151_368 ?_
      refine r_goto a151_369 ?_
      exact t376 _ _ ru' (PsF_up hF (by omega)) (by rw [up2_k (by decide)]; exact h22) (by rw [dT]; first | rw [if_pos (by omega)] | rw [up2_s, if_neg (by omega)])
  have t328 : ∀ (m2 : XM) (x y ru' : Int), PsF m s cl k od m2 → m2 121 22 = O → m2 127 (((n % 10) * 7 + i) * 10 + p) = wx → x + y = (if kd = 4 then 90 - 8 * P else 60 - 4 * P) + 5 * c + 3 * O + ru → (0 ≤ y ∧ y ≤ 9) →
      RZ (dd + 1) k_Mo_looksForPass 328 [vR 121, vI i, vI p, vI c, vI g, vI kd, vI (((n % 10) * 7 + i) * 10 + p), vI P, vI sk, vI tg, vI ru'] [vI y, vI x, vR 121] (zH z m2) (qz z (qv fun m' => PsF m s cl k od m' ∧ m' 121 22 = O ∧ m' 121 23 = T ∧ m' 121 24 = B)) := by
    intro m2 x y ru' hF h22 h127 hxy hy
    have hx2 : -100 ≤ x + y ∧ x + y ≤ 21000 := by rw [hxy]; split <;> omega
    have e16 : up2 m2 121 23 (x + y) 121 16 = 1 - w := by rw [up2_k (by decide), hF.2.1 16 (by decide) (by decide) (by decide) (by decide) (by decide)]; exact q16
    refine r_add a151_328 (by omega) ?_
    refine r_putI (ki := 23) a151_329 ty121 rfl ?_
    refine r_loadA a151_332 rfl (by decide) ?_
    refine r_dup a151_333 rfl ?_
    refine r_getI (ki := 23) a151_334 ty121 rfl ?_
    rw [up2_s]
    refine r_loadA a151_337 rfl (by decide) ?_
    refine r_getI (ki := 16) a151_338 ty121 rfl ?_
    rw [e16]
    refine r_ifeq a151_341 (fun h_341 => ?_) (fun h_341 => ?_)
    · refine r_loadA a151_348 rfl (by decide) ?_
      refine r_getR a151_349 ty121 rf121_17 (by decide) ?_
      refine r_loadI a151_352 rfl ?_
      refine r_iald a151_354 ty127 (by omega) ?_
      exact t355 _ _ _ ru' (PsF_up hF (by omega)) (by rw [up2_k (by decide)]; exact h22) (by first | (rw [if_pos (by omega), up2_c (by decide)]; exact h127) | rw [if_neg (by omega)]) hxy
    · refine r_pushI a151_344 ?_
      refine r_goto a151_345 ?_
      exact t355 _ _ _ ru' (PsF_up hF (by omega)) (by rw [up2_k (by decide)]; exact h22) (by first | (rw [if_pos (by omega), up2_c (by decide)]; exact h127) | rw [if_neg (by omega)]) hxy
  have t289 : ∀ (m2 : XM) (x y ru' : Int), PsF m s cl k od m2 → m2 121 22 = O → m2 127 (((n % 10) * 7 + i) * 10 + p) = wx → x = (if kd = 4 then 90 - 8 * P else 60 - 4 * P) + 5 * c + 3 * O → y = (if rutS s = 0 then 0 else n / rutS s) →
      RZ (dd + 1) k_Mo_looksForPass 289 [vR 121, vI i, vI p, vI c, vI g, vI kd, vI (((n % 10) * 7 + i) * 10 + p), vI P, vI sk, vI tg, vI ru'] [vI y, vI x, vR 121] (zH z m2) (qz z (qv fun m' => PsF m s cl k od m' ∧ m' 121 22 = O ∧ m' 121 23 = T ∧ m' 121 24 = B)) := by
    intro m2 x y ru' hF h22 h127 hx hy
    have hx2 : -100 ≤ x ∧ x ≤ 1000 := by rw [hx]; split <;> omega
    have hy2 : 0 ≤ y ∧ y ≤ 9999 := by rw [hy]; split <;> omega
    have e122 : up2 m2 121 23 (x + y) 122 = s := by rw [up2_c (by decide), hF.1 122 (by decide) (by decide) (by decide) (by decide) (by decide)]; exact q122
    have e15 : up2 m2 121 23 (x + y) 121 15 = n := by rw [up2_k (by decide), hF.2.1 15 (by decide) (by decide) (by decide) (by decide) (by decide)]; exact q15
    refine r_add a151_289 (by omega) ?_
    refine r_putI (ki := 23) a151_290 ty121 rfl ?_
    refine r_loadA a151_293 rfl (by decide) ?_
    refine r_dup a151_294 rfl ?_
    refine r_getI (ki := 23) a151_295 ty121 rfl ?_
    rw [up2_s]
    refine r_loadI a151_298 rfl ?_
    refine r_pushI a151_300 ?_
    refine r_icne a151_302 (fun h_302 => ?_) (fun h_302 => ?_)
    · refine r_pushI a151_327 ?_
      exact t328 _ _ _ ru' (PsF_up hF (by omega)) (by rw [up2_k (by decide)]; exact h22) (by rw [up2_c (by decide)]; exact h127) (by rw [← hx, dru, ← hy]; first | rw [if_pos (show kd = 6 by omega)]; omega | rw [if_neg (show ¬ kd = 6 by omega)]; omega) (by omega)
    · refine r_loadA a151_305 rfl (by decide) ?_
      refine r_getR a151_306 ty121 rf121_1 (by decide) ?_
      refine r_pushI a151_309 ?_
      refine r_pushI a151_311 ?_
      refine r_loadI a151_312 rfl ?_
      refine r_mul a151_314 (by omega) ?_
      refine r_add a151_315 (by omega) ?_
      refine r_loadA a151_316 rfl (by decide) ?_
      refine r_getI (ki := 15) a151_317 ty121 rfl ?_
      rw [e15]
      refine r_pushI a151_320 ?_
      refine r_rem a151_321 (by omega) ?_
      refine r_add a151_322 (by omega) ?_
      refine r_iald a151_323 ty122 (by omega) ?_
      rw [e122]
      refine r_goto a151_324 ?_
      exact t328 _ _ _ ru' (PsF_up hF (by omega)) (by rw [up2_k (by decide)]; exact h22) (by rw [up2_c (by decide)]; exact h127) (by rw [← hx, dru, ← hy]; first | rw [if_pos (show kd = 6 by omega)]; omega | rw [if_neg (show ¬ kd = 6 by omega)]; omega) (by omega)
  have t262 : ∀ (m2 : XM) (x : Int), PsF m s cl k od m2 → m2 121 22 = O → m2 127 (((n % 10) * 7 + i) * 10 + p) = wx → x = (if kd = 4 then 90 - 8 * P else 60 - 4 * P) →
      RZ (dd + 1) k_Mo_looksForPass 262 [vR 121, vI i, vI p, vI c, vI g, vI kd, vI (((n % 10) * 7 + i) * 10 + p), vI P, vI sk, vI tg, vI (rutS s)] [vI x, vR 121] (zH z m2) (qz z (qv fun m' => PsF m s cl k od m' ∧ m' 121 22 = O ∧ m' 121 23 = T ∧ m' 121 24 = B)) := by
    intro m2 x hF h22 h127 hx
    have hx2 : -100 ≤ x ∧ x ≤ 100 := by rw [hx]; split <;> omega
    have e15 : m2 121 15 = n := by rw [hF.2.1 15 (by decide) (by decide) (by decide) (by decide) (by decide)]; exact q15
    refine r_pushI a151_262 ?_
    refine r_loadI a151_263 rfl ?_
    refine r_mul a151_264 (by omega) ?_
    refine r_add a151_265 (by omega) ?_
    refine r_pushI a151_266 ?_
    refine r_loadA a151_267 rfl (by decide) ?_
    refine r_getI (ki := 22) a151_268 ty121 rfl ?_
    rw [h22]
    refine r_mul a151_271 (by omega) ?_
    refine r_add a151_272 (by omega) ?_
    refine r_loadI a151_273 rfl ?_
    refine r_ifne a151_275 (fun h_275 => ?_) (fun h_275 => ?_)
    · refine r_loadA a151_282 rfl (by decide) ?_
      refine r_getI (ki := 15) a151_283 ty121 rfl ?_
      rw [e15]
      refine r_loadI a151_286 rfl ?_
      refine r_div a151_288 (by omega) ?_
      exact t289 _ _ _ _ hF h22 h127 (by rw [hx]) (by first | rw [if_pos (by omega)] | rw [if_neg (by omega)])
    · refine r_pushI a151_278 ?_
      refine r_goto a151_279 ?_
      exact t289 _ _ _ _ hF h22 h127 (by rw [hx]) (by first | rw [if_pos (by omega)] | rw [if_neg (by omega)])
  have t192 : ∀ (m2 : XM) (x y : Int) (y9 y10 : XV), PsF m s cl k od m2 → m2 127 (((n % 10) * 7 + i) * 10 + p) = wx → m2 128 (((n % 10) * 7 + i) * 10 + p) = ic → x + y = tg →
      RZ (dd + 1) k_Mo_looksForPass 192 [vR 121, vI i, vI p, vI c, vI g, vI kd, vI (((n % 10) * 7 + i) * 10 + p), vI P, vI sk, y9, y10] [vI y, vI x] (zH z m2) (qz z (qv fun m' => PsF m s cl k od m' ∧ m' 121 22 = O ∧ m' 121 23 = T ∧ m' 121 24 = B)) := by
    intro m2 x y y9 y10 hF h127 h128 hxy
    have e122 : m2 122 = s := by rw [hF.1 122 (by decide) (by decide) (by decide) (by decide) (by decide)]; exact q122
    refine r_add a151_192 (by omega) ?_
    rw [hxy]
    refine r_storeI_9 a151_193 rfl ?_
    refine r_loadA a151_195 rfl (by decide) ?_
    refine r_pushI a151_196 ?_
    refine r_pushI a151_199 ?_
    refine r_callI_3 a151_200 (Nat.le_of_ble_eq_true rfl) (le_mx mx137 (Nat.le_of_ble_eq_true rfl)) (Or.inr (recv_ok ty121 ow137 (by decide))) (c_Mo_tellsOf dd z m2 199 0 (by rw [e122]; exact hS) (by omega)) (fun x_200 m_200 h_200 => ?_)
    obtain ⟨hm_200, h_200⟩ := h_200
    rw [hm_200]
    rw [e122] at h_200
    have hr := tells_rut h_200
    rw [hr]
    refine r_storeI_10 a151_203 rfl ?_
    refine r_loadA a151_205 rfl (by decide) ?_
    refine r_loadI a151_206 rfl ?_
    refine r_loadI a151_208 rfl ?_
    refine r_add a151_210 (by omega) ?_
    refine r_loadA a151_211 rfl (by decide) ?_
    refine r_getR a151_212 ty121 rf121_18 (by decide) ?_
    refine r_loadI a151_215 rfl ?_
    refine r_iald a151_217 ty128 (by omega) ?_
    rw [h128]
    refine r_add a151_218 (by omega) ?_
    refine r_pushI a151_219 ?_
    refine r_loadI a151_220 rfl ?_
    refine r_mul a151_221 (by omega) ?_
    refine r_sub a151_222 (by omega) ?_
    refine r_loadI a151_223 rfl ?_
    refine r_sub a151_225 (by omega) ?_
    refine r_pushI a151_226 ?_
    refine r_sub a151_227 (by omega) ?_
    refine r_pushI a151_228 ?_
    refine r_pushI a151_229 ?_
    refine r_callI_3 a151_231 (Nat.le_of_ble_eq_true rfl) (le_mx mx120 (Nat.le_of_ble_eq_true rfl)) (Or.inl rfl) (c_Mo_within dd z m2 (P + tg + ic - 3 * c - sk - 4) 0 20) (fun x_231 m_231 h_231 => ?_)
    obtain ⟨hm_231, h_231⟩ := h_231
    rw [hm_231]
    have e : x_231 = O := by rw [dO]; unfold clI; (repeat' split) <;> omega
    rw [e]
    refine r_putI (ki := 22) a151_234 ty121 rfl ?_
    refine r_loadA a151_237 rfl (by decide) ?_
    refine r_loadI a151_238 rfl ?_
    refine r_pushI a151_240 ?_
    refine r_icne a151_241 (fun h_241 => ?_) (fun h_241 => ?_)
    · refine r_pushI a151_255 ?_
      refine r_pushI a151_257 ?_
      refine r_loadI a151_258 rfl ?_
      refine r_mul a151_260 (by omega) ?_
      refine r_sub a151_261 (by omega) ?_
      exact t262 _ _ (PsF_up hF (by omega)) (by rw [up2_s]) (by rw [up2_c (by decide)]; exact h127) (by first | rw [if_pos (by omega)] | rw [if_neg (by omega)])
    · refine r_pushI a151_244 ?_
      refine r_pushI a151_246 ?_
      refine r_loadI a151_248 rfl ?_
      refine r_mul a151_250 (by omega) ?_
      refine r_sub a151_251 (by omega) ?_
      refine r_goto a151_252 ?_
      exact t262 _ _ (PsF_up hF (by omega)) (by rw [up2_s]) (by rw [up2_c (by decide)]; exact h127) (by first | rw [if_pos (by omega)] | rw [if_neg (by omega)])
  have t158 : ∀ (m2 : XM) (y : Int) (y9 y10 : XV), PsF m s cl k od m2 → m2 127 (((n % 10) * 7 + i) * 10 + p) = wx → m2 128 (((n % 10) * 7 + i) * 10 + p) = ic → y = (if kd = 2 ∨ kd = 5 then 2 else 0) →
      RZ (dd + 1) k_Mo_looksForPass 158 [vR 121, vI i, vI p, vI c, vI g, vI kd, vI (((n % 10) * 7 + i) * 10 + p), vI P, vI sk, y9, y10] [vI y, vI (s (22 + g))] (zH z m2) (qz z (qv fun m' => PsF m s cl k od m' ∧ m' 121 22 = O ∧ m' 121 23 = T ∧ m' 121 24 = B)) := by
    intro m2 y y9 y10 hF h127 h128 hy
    have e122 : m2 122 = s := by rw [hF.1 122 (by decide) (by decide) (by decide) (by decide) (by decide)]; exact q122
    have hy2 : 0 ≤ y ∧ y ≤ 2 := by rw [hy]; split <;> omega
    rw [← hy] at dtg
    refine r_add a151_158 (by omega) ?_
    refine r_loadI a151_159 rfl ?_
    refine r_pushI a151_161 ?_
    refine r_icne a151_162 (fun h_162 => ?_) (fun h_162 => ?_)
    · refine r_pushI a151_191 ?_
      exact t192 _ _ _ _ _ hF h127 h128 (by rw [dtg]; first | rw [if_pos (by omega)] | rw [if_neg (by omega)])
    · refine r_loadA a151_165 rfl (by decide) ?_
      refine r_pushI a151_166 ?_
      refine r_pushI a151_169 ?_
      refine r_callI_3 a151_170 (Nat.le_of_ble_eq_true rfl) (le_mx mx137 (Nat.le_of_ble_eq_true rfl)) (Or.inr (recv_ok ty121 ow137 (by decide))) (c_Mo_tellsOf dd z m2 204 0 (by rw [e122]; exact hS) (by omega)) (fun x_170 m_170 h_170 => ?_)
      obtain ⟨hm_170, h_170⟩ := h_170
      rw [hm_170]
      rw [e122] at h_170
      have hr := tells_fog h_170
      rw [hr]
      refine r_loadI a151_173 rfl ?_
      refine r_icle a151_175 (fun h_175 => ?_) (fun h_175 => ?_)
      · refine r_pushI a151_191 ?_
        exact t192 _ _ _ _ _ hF h127 h128 (by rw [dtg]; first | rw [if_pos (by omega)] | rw [if_neg (by omega)])
      · refine r_loadA a151_178 rfl (by decide) ?_
        refine r_getR a151_179 ty121 rf121_1 (by decide) ?_
        refine r_pushI a151_182 ?_
        refine r_loadI a151_184 rfl ?_
        refine r_add a151_186 (by omega) ?_
        refine r_iald a151_187 ty122 (by omega) ?_
        rw [e122]
        refine r_goto a151_188 ?_
        exact t192 _ _ _ _ _ hF h127 h128 (by rw [dtg]; first | rw [if_pos (by omega)] | rw [if_neg (by omega)])
  have t115 : ∀ (m2 : XM) (y7 y8 y9 y10 : XV), PsF m s cl k od m2 → m2 127 (((n % 10) * 7 + i) * 10 + p) = wx → m2 128 (((n % 10) * 7 + i) * 10 + p) = ic →
      RZ (dd + 1) k_Mo_looksForPass 115 [vR 121, vI i, vI p, vI c, vI g, vI kd, vI (((n % 10) * 7 + i) * 10 + p), y7, y8, y9, y10] [vI P] (zH z m2) (qz z (qv fun m' => PsF m s cl k od m' ∧ m' 121 22 = O ∧ m' 121 23 = T ∧ m' 121 24 = B)) := by
    intro m2 y7 y8 y9 y10 hF h127 h128
    have e122 : m2 122 = s := by rw [hF.1 122 (by decide) (by decide) (by decide) (by decide) (by decide)]; exact q122
    have e14 : m2 121 14 = k := by rw [hF.2.1 14 (by decide) (by decide) (by decide) (by decide) (by decide)]; exact q14
    refine r_storeI_7 a151_115 rfl ?_
    refine r_loadA a151_117 rfl (by decide) ?_
    refine r_getR a151_118 ty121 rf121_1 (by decide) ?_
    refine r_pushI a151_121 ?_
    refine r_loadA a151_123 rfl (by decide) ?_
    refine r_getI (ki := 14) a151_124 ty121 rfl ?_
    rw [e14]
    refine r_add a151_127 (by omega) ?_
    refine r_iald a151_128 ty122 (by omega) ?_
    rw [e122, hsk]
    refine r_storeI_8 a151_129 rfl ?_
    refine r_loadA a151_131 rfl (by decide) ?_
    refine r_getR a151_132 ty121 rf121_1 (by decide) ?_
    refine r_pushI a151_135 ?_
    refine r_loadI a151_137 rfl ?_
    refine r_add a151_139 (by omega) ?_
    refine r_iald a151_140 ty122 (by omega) ?_
    rw [e122]
    refine r_loadI a151_141 rfl ?_
    refine r_pushI a151_143 ?_
    refine r_iceq a151_144 (fun h_144 => ?_) (fun h_144 => ?_)
    · refine r_pushI a151_153 ?_
      refine r_goto a151_154 ?_
      exact t158 _ _ _ _ hF h127 h128 (by first | rw [if_pos (by omega)] | rw [if_neg (by omega)])
    · refine r_loadI a151_147 rfl ?_
      refine r_pushI a151_149 ?_
      refine r_icne a151_150 (fun h_150 => ?_) (fun h_150 => ?_)
      · refine r_pushI a151_157 ?_
        exact t158 _ _ _ _ hF h127 h128 (by first | rw [if_pos (by omega)] | rw [if_neg (by omega)])
      · refine r_pushI a151_153 ?_
        refine r_goto a151_154 ?_
        exact t158 _ _ _ _ hF h127 h128 (by first | rw [if_pos (by omega)] | rw [if_neg (by omega)])
  have t89 : ∀ (m2 : XM) (y7 y8 y9 y10 : XV), PsF m s cl k od m2 → m2 127 (((n % 10) * 7 + i) * 10 + p) = wx → m2 128 (((n % 10) * 7 + i) * 10 + p) = ic →
      RZ (dd + 1) k_Mo_looksForPass 89 [vR 121, vI i, vI p, vI c, vI g, vI kd, vI (((n % 10) * 7 + i) * 10 + p), y7, y8, y9, y10] [] (zH z m2) (qz z (qv fun m' => PsF m s cl k od m' ∧ m' 121 22 = O ∧ m' 121 23 = T ∧ m' 121 24 = B)) := by
    intro m2 y7 y8 y9 y10 hF h127 h128
    refine r_loadI a151_89 rfl ?_
    refine r_pushI a151_91 ?_
    refine r_iceq a151_92 (fun h_92 => ?_) (fun h_92 => ?_)
    · refine r_loadI a151_102 rfl ?_
      refine r_pushI a151_103 ?_
      refine r_add a151_104 (by omega) ?_
      refine r_pushI a151_105 ?_
      refine r_pushI a151_106 ?_
      refine r_callI_3 a151_108 (Nat.le_of_ble_eq_true rfl) (le_mx mx120 (Nat.le_of_ble_eq_true rfl)) (Or.inl rfl) (c_Mo_within dd z m2 (p + 1) 0 9) (fun x_108 m_108 h_108 => ?_)
      obtain ⟨hm_108, h_108⟩ := h_108
      rw [hm_108]
      have e : x_108 = P := by rw [dP]; (repeat' split) <;> omega
      rw [e]
      refine r_goto a151_111 ?_
      first
        | exact t115 _ _ _ _ _ hF h127 h128
        | (have e : p = P := by rw [dP, if_neg (by omega)]
           have q := t115 m2 y7 y8 y9 y10 hF h127 h128
           rw [← e] at q
           exact q)
    · refine r_loadI a151_95 rfl ?_
      refine r_pushI a151_97 ?_
      refine r_icne a151_99 (fun h_99 => ?_) (fun h_99 => ?_)
      · refine r_loadI a151_114 rfl ?_
        first
          | exact t115 _ _ _ _ _ hF h127 h128
          | (have e : p = P := by rw [dP, if_neg (by omega)]
             have q := t115 m2 y7 y8 y9 y10 hF h127 h128
             rw [← e] at q
             exact q)
      · refine r_loadI a151_102 rfl ?_
        refine r_pushI a151_103 ?_
        refine r_add a151_104 (by omega) ?_
        refine r_pushI a151_105 ?_
        refine r_pushI a151_106 ?_
        refine r_callI_3 a151_108 (Nat.le_of_ble_eq_true rfl) (le_mx mx120 (Nat.le_of_ble_eq_true rfl)) (Or.inl rfl) (c_Mo_within dd z m2 (p + 1) 0 9) (fun x_108 m_108 h_108 => ?_)
        obtain ⟨hm_108, h_108⟩ := h_108
        rw [hm_108]
        have e : x_108 = P := by rw [dP]; (repeat' split) <;> omega
        rw [e]
        refine r_goto a151_111 ?_
        first
          | exact t115 _ _ _ _ _ hF h127 h128
          | (have e : p = P := by rw [dP, if_neg (by omega)]
             have q := t115 m2 y7 y8 y9 y10 hF h127 h128
             rw [← e] at q
             exact q)
  have hidx : 0 ≤ ((n % 10) * 7 + i) * 10 + p ∧ ((n % 10) * 7 + i) * 10 + p < 700 := by omega
  have hmod := fun w : Bool => eI_mod w s cl k n (od i) p
  refine r_entry mx151 rfl ?_
  refine r_loadA a151_0 rfl (by decide) ?_
  refine r_getR a151_1 ty121 rf121_13 (by decide) ?_
  refine r_loadI a151_4 rfl ?_
  refine r_iald a151_5 ty126 (by omega) ?_
  rw [hod]
  refine r_storeI_4 a151_6 rfl ?_
  refine r_loadA a151_8 rfl (by decide) ?_
  refine r_getR a151_9 ty121 rf121_1 (by decide) ?_
  refine r_pushI a151_12 ?_
  refine r_loadI a151_14 rfl ?_
  refine r_add a151_16 (by omega) ?_
  refine r_iald a151_17 ty122 (by omega) ?_
  rw [q122, hkd]
  refine r_storeI_5 a151_18 rfl ?_
  refine r_loadA a151_20 rfl (by decide) ?_
  refine r_getI (ki := 15) a151_21 ty121 rfl ?_
  rw [q15]
  refine r_pushI a151_24 ?_
  refine r_rem a151_26 (by omega) ?_
  refine r_pushI a151_27 ?_
  refine r_mul a151_29 (by omega) ?_
  refine r_loadI a151_30 rfl ?_
  refine r_add a151_31 (by omega) ?_
  refine r_pushI a151_32 ?_
  refine r_mul a151_34 (by omega) ?_
  refine r_loadI a151_35 rfl ?_
  refine r_add a151_36 (by omega) ?_
  refine r_storeI_6 a151_37 rfl ?_
  refine r_loadA a151_39 rfl (by decide) ?_
  refine r_getR a151_40 ty121 rf121_17 (by decide) ?_
  refine r_loadI a151_43 rfl ?_
  refine r_iald a151_45 ty127 (by omega) ?_
  refine r_pushI a151_46 ?_
  refine r_icne a151_47 (fun h_47 => ?_) (fun h_47 => ?_)
  · have hM := hMI (n % 10) i p (by omega) (by omega) hi.1 hi.2 hp.1 hp.2
    rw [← hmod, ← hmod, hwx, hic] at hM
    refine t89 m _ _ _ _ ⟨fun _ _ _ _ _ _ => rfl, fun _ _ _ _ _ _ => rfl, hMI⟩ ?_ ?_
    · omega
    · omega
  · refine r_loadA a151_50 rfl (by decide) ?_
    refine r_loadA a151_51 rfl (by decide) ?_
    refine r_getI (ki := 14) a151_52 ty121 rfl ?_
    rw [q14]
    refine r_loadI a151_55 rfl ?_
    refine r_loadI a151_56 rfl ?_
    refine r_loadA a151_57 rfl (by decide) ?_
    refine r_getI (ki := 15) a151_58 ty121 rfl ?_
    rw [q15]
    refine r_pushI a151_61 ?_
    refine r_rem a151_63 (by omega) ?_
    refine r_callV_5 a151_64 (Nat.le_of_ble_eq_true rfl) (le_mx mx138 (Nat.le_of_ble_eq_true rfl)) (Or.inr (recv_ok ty121 ow138 (by decide))) (c_Mo_looks dd z m s cl k i p (n % 10) g (by omega) hS hC q122 hk hi hp (by omega) hod (by omega)) (fun m_64 h_64 => ?_)
    obtain ⟨l1, l2, l3, l4⟩ := h_64
    rw [← hg, ← hmod, hwx] at l3
    rw [← hg, ← hmod, hic] at l4
    refine r_loadA a151_67 rfl (by decide) ?_
    refine r_getR a151_68 ty121 rf121_17 (by decide) ?_
    refine r_loadI a151_71 rfl ?_
    refine r_loadA a151_73 rfl (by decide) ?_
    refine r_getI (ki := 11) a151_74 ty121 rfl ?_
    rw [l3]
    refine r_iast a151_77 ty127 (by omega) ?_
    refine r_loadA a151_78 rfl (by decide) ?_
    refine r_getR a151_79 ty121 rf121_18 (by decide) ?_
    refine r_loadI a151_82 rfl ?_
    refine r_loadA a151_84 rfl (by decide) ?_
    refine r_getI (ki := 12) a151_85 ty121 rfl ?_
    rw [up2_c (by decide), l4]
    refine r_iast a151_88 ty128 (by omega) ?_
    refine t89 _ _ _ _ _ ⟨fun x x1 x2 x3 x4 x5 => ?_, fun y y1 y2 y3 y4 y5 => ?_, fun r j q r1 r2 j1 j2 q1 q2 => ?_⟩ ?_ ?_
    · rw [up2_c x5, up2_c x4]; exact l1 x x1 x2 x3
    · rw [up2_c (by decide), up2_c (by decide)]; exact l2 y y1 y2
    · rw [up2_c (show 127 ≠ 128 by decide)]
      by_cases hh : r = n % 10 ∧ j = i ∧ q = p
      · obtain ⟨a, b, c⟩ := hh
        rw [a, b, c, up2_s, up2_s, ← hmod, ← hmod, hwx, hic]
        exact Or.inr ⟨rfl, rfl⟩
      · have hne : (r * 7 + j) * 10 + q ≠ ((n % 10) * 7 + i) * 10 + p := by omega
        rw [up2_k hne, up2_k hne, up2_c (by decide), l1 127 (by decide) (by decide) (by decide), l1 128 (by decide) (by decide) (by decide)]
        exact hMI r j q r1 r2 j1 j2 q1 q2
    · rw [up2_c (by decide), up2_s]
    · rw [up2_s]
theorem RefA_cong {m m' : XM} {s : Int → Int} {k n w : Int} {od : Int → Int} (h1 : m' 122 = m 122) (h2 : m' 126 = m 126) (h3 : m' 121 14 = m 121 14) (h4 : m' 121 15 = m 121 15) (h5 : m' 121 16 = m 121 16) (h : RefA m s k n w od) : RefA m' s k n w od := by
  unfold RefA; rw [h1, h2, h3, h4, h5]; exact h
/-- what passages may change -/
def PsG (m m' : XM) : Prop :=
  (∀ x, x ≠ 121 → ¬ (124 ≤ x ∧ x ≤ 125) → ¬ (127 ≤ x ∧ x ≤ 131) → m' x = m x) ∧ (∀ y, y ≠ 11 → y ≠ 12 → y ≠ 22 → y ≠ 23 → y ≠ 24 → m' 121 y = m 121 y)
theorem c_Mo_passes (d z : Nat) (m : XM) (s : Int → Int) (cl : CLs) (k n w : Int) (od : Int → Int) (i p c : Int) (hd : 3 ≤ d) (hA : AskOk s cl k n w) (hQ : RefQ m s cl k n w od)
    (hi : 0 ≤ i ∧ i < 7) (hp : 0 ≤ p ∧ p < 10) (hc : 0 ≤ c ∧ c < 3) :
    CV d k_Mo_passes z m [vR 121, vI i, vI p, vI c] (fun m' => PsG m m' ∧ RefQ m' s cl k n w od ∧ m' 121 22 = eO s cl k n (od i) p c ∧ m' 121 23 = eT s cl k n w (od i) p c ∧ m' 121 24 = eB s cl k n (od i) p c) := by
  obtain ⟨dd, rfl⟩ : ∃ dd, d = dd + 1 := ⟨d - 1, by omega⟩
  obtain ⟨hQA, hMI, hMP⟩ := hQ
  have fin : ∀ (m2 : XM) , PsG m m2 → MemoI m2 s cl k od → MemoP m2 s cl k n w od → m2 129 (30 * i + 3 * p + c) = eT s cl k n w (od i) p c → m2 130 (30 * i + 3 * p + c) = eO s cl k n (od i) p c → m2 131 (30 * i + 3 * p + c) = eB s cl k n (od i) p c →
      RZ (dd + 1) k_Mo_passes 63 [vR 121, vI i, vI p, vI c, vI (30 * i + 3 * p + c)] [] (zH z m2) (qz z (qv fun m' => PsG m m' ∧ RefQ m' s cl k n w od ∧ m' 121 22 = eO s cl k n (od i) p c ∧ m' 121 23 = eT s cl k n w (od i) p c ∧ m' 121 24 = eB s cl k n (od i) p c)) := by
    intro m2 hG h1 h2 h3 h4 h5
    refine r_loadA a152_63 rfl (by decide) ?_
    refine r_loadA a152_64 rfl (by decide) ?_
    refine r_getR a152_65 ty121 rf121_19 (by decide) ?_
    refine r_loadI a152_68 rfl ?_
    refine r_iald a152_70 ty129 (by omega) ?_
    rw [h3]
    refine r_putI (ki := 23) a152_71 ty121 rfl ?_
    refine r_loadA a152_74 rfl (by decide) ?_
    refine r_loadA a152_75 rfl (by decide) ?_
    refine r_getR a152_76 ty121 rf121_20 (by decide) ?_
    refine r_loadI a152_79 rfl ?_
    refine r_iald a152_81 ty130 (by omega) ?_
    rw [up2_c (by decide), h4]
    refine r_putI (ki := 22) a152_82 ty121 rfl ?_
    refine r_loadA a152_85 rfl (by decide) ?_
    refine r_loadA a152_86 rfl (by decide) ?_
    refine r_getR a152_87 ty121 rf121_21 (by decide) ?_
    refine r_loadI a152_90 rfl ?_
    refine r_iald a152_92 ty131 (by omega) ?_
    rw [up2_c (by decide), up2_c (by decide), h5]
    refine r_putI (ki := 24) a152_93 ty121 rfl ?_
    refine r_retVq a152_96 ?_
    refine ⟨⟨fun x x1 x2 x3 => ?_, fun y y1 y2 y3 y4 y5 => ?_⟩, ⟨RefA_cong ?_ ?_ ?_ ?_ ?_ hQA, ?_, ?_⟩, ?_, ?_, ?_⟩
    · rw [up2_c x1, up2_c x1, up2_c x1]; exact hG.1 x x1 x2 x3
    · rw [up2_k y5, up2_k y3, up2_k y4]; exact hG.2 y y1 y2 y3 y4 y5
    · rw [up2_c (by decide), up2_c (by decide), up2_c (by decide)]; exact hG.1 122 (by decide) (by decide) (by decide)
    · rw [up2_c (by decide), up2_c (by decide), up2_c (by decide)]; exact hG.1 126 (by decide) (by decide) (by decide)
    · rw [up2_k (by decide), up2_k (by decide), up2_k (by decide)]; exact hG.2 14 (by decide) (by decide) (by decide) (by decide) (by decide)
    · rw [up2_k (by decide), up2_k (by decide), up2_k (by decide)]; exact hG.2 15 (by decide) (by decide) (by decide) (by decide) (by decide)
    · rw [up2_k (by decide), up2_k (by decide), up2_k (by decide)]; exact hG.2 16 (by decide) (by decide) (by decide) (by decide) (by decide)
    · unfold MemoI; rw [up2_c (by decide), up2_c (by decide), up2_c (by decide), up2_c (by decide), up2_c (by decide), up2_c (by decide)]; exact h1
    · unfold MemoP; rw [up2_c (by decide), up2_c (by decide), up2_c (by decide), up2_c (by decide), up2_c (by decide), up2_c (by decide), up2_c (by decide), up2_c (by decide), up2_c (by decide)]; exact h2
    · rw [up2_k (by decide), up2_s]
    · rw [up2_k (by decide), up2_k (by decide), up2_s]
    · rw [up2_s]
  refine r_entry mx152 rfl ?_
  refine r_pushI a152_0 ?_
  refine r_loadI a152_2 rfl ?_
  refine r_mul a152_3 (by omega) ?_
  refine r_pushI a152_4 ?_
  refine r_loadI a152_5 rfl ?_
  refine r_mul a152_6 (by omega) ?_
  refine r_add a152_7 (by omega) ?_
  refine r_loadI a152_8 rfl ?_
  refine r_add a152_9 (by omega) ?_
  refine r_storeI_4 a152_10 rfl ?_
  refine r_loadA a152_12 rfl (by decide) ?_
  refine r_getR a152_13 ty121 rf121_19 (by decide) ?_
  refine r_loadI a152_16 rfl ?_
  refine r_iald a152_18 ty129 (by omega) ?_
  refine r_pushI a152_19 ?_
  refine r_icne a152_20 (fun h_20 => ?_) (fun h_20 => ?_)
  · have hM := hMP i p c hi.1 hi.2 hp.1 hp.2 hc.1 hc.2
    refine fin m ⟨fun _ _ _ _ => rfl, fun _ _ _ _ _ _ => rfl⟩ hMI hMP ?_ ?_ ?_ <;> omega
  · refine r_loadA a152_23 rfl (by decide) ?_
    refine r_loadI a152_24 rfl ?_
    refine r_loadI a152_25 rfl ?_
    refine r_loadI a152_26 rfl ?_
    refine r_callV_4 a152_27 (Nat.le_of_ble_eq_true rfl) (le_mx mx151 (Nat.le_of_ble_eq_true rfl)) (Or.inr (recv_ok ty121 ow151 (by decide))) (c_Mo_looksForPass dd z m s cl k n w od i p c (by omega) hA hQA hMI hi hp hc) (fun m_27 h_27 => ?_)
    obtain ⟨⟨l1, l2, l3⟩, l4, l5, l6⟩ := h_27
    refine r_loadA a152_30 rfl (by decide) ?_
    refine r_getR a152_31 ty121 rf121_19 (by decide) ?_
    refine r_loadI a152_34 rfl ?_
    refine r_loadA a152_36 rfl (by decide) ?_
    refine r_getI (ki := 23) a152_37 ty121 rfl ?_
    rw [l5]
    refine r_iast a152_40 ty129 (by omega) ?_
    refine r_loadA a152_41 rfl (by decide) ?_
    refine r_getR a152_42 ty121 rf121_20 (by decide) ?_
    refine r_loadI a152_45 rfl ?_
    refine r_loadA a152_47 rfl (by decide) ?_
    refine r_getI (ki := 22) a152_48 ty121 rfl ?_
    rw [up2_c (by decide), l4]
    refine r_iast a152_51 ty130 (by omega) ?_
    refine r_loadA a152_52 rfl (by decide) ?_
    refine r_getR a152_53 ty121 rf121_21 (by decide) ?_
    refine r_loadI a152_56 rfl ?_
    refine r_loadA a152_58 rfl (by decide) ?_
    refine r_getI (ki := 24) a152_59 ty121 rfl ?_
    rw [up2_c (by decide), up2_c (by decide), l6]
    refine r_iast a152_62 ty131 (by omega) ?_
    have e129 : m_27 129 = m 129 := l1 129 (by decide) (by decide) (by decide) (by decide) (by decide)
    have e130 : m_27 130 = m 130 := l1 130 (by decide) (by decide) (by decide) (by decide) (by decide)
    have e131 : m_27 131 = m 131 := l1 131 (by decide) (by decide) (by decide) (by decide) (by decide)
    refine fin _ ⟨fun x x1 x2 x3 => ?_, fun y y1 y2 y3 y4 y5 => ?_⟩ ?_ (fun j q b j1 j2 q1 q2 b1 b2 => ?_) ?_ ?_ ?_
    · rw [up2_c (by omega), up2_c (by omega), up2_c (by omega)]; exact l1 x x1 (by omega) (by omega) (by omega) (by omega)
    · rw [up2_c (by decide), up2_c (by decide), up2_c (by decide)]; exact l2 y y1 y2 y3 y4 y5
    · unfold MemoI; rw [up2_c (by decide), up2_c (by decide), up2_c (by decide), up2_c (by decide), up2_c (by decide), up2_c (by decide)]; exact l3
    · rw [up2_c (show 129 ≠ 131 by decide), up2_c (show 129 ≠ 130 by decide), up2_c (show 130 ≠ 131 by decide)]
      by_cases hh : j = i ∧ q = p ∧ b = c
      · obtain ⟨a1, a2, a3⟩ := hh
        rw [a1, a2, a3, up2_s, up2_s, up2_s]
        exact Or.inr ⟨rfl, rfl, rfl⟩
      · have hne : 30 * j + 3 * q + b ≠ 30 * i + 3 * p + c := by omega
        rw [up2_k hne, up2_k hne, up2_k hne, up2_c (show 130 ≠ 129 by decide), up2_c (show 131 ≠ 130 by decide), up2_c (show 131 ≠ 129 by decide), e129, e130, e131]
        exact hMP j q b j1 j2 q1 q2 b1 b2
    · rw [up2_c (by decide), up2_c (by decide), up2_s]
    · rw [up2_c (by decide), up2_s]
    · rw [up2_s]
