-- ===== the constructors =====
def kTY (n : Nat) (c : Nat) : Nat × Nat := if c < 32 + n then zTY c else (0, 0)
def kRF : List (Nat × Nat × Nat) → Nat → Nat → Nat
  | [], _, _ => 0
  | (a, b, q) :: l, o, k => if o = a then (if k = b then q else kRF l a k) else kRF l o k
def kH (n sl : Nat) (l : List (Nat × Nat × Nat)) (m : XM) : XH := (n, sl, kTY n, kRF l, m)
theorem kTY_at {n o : Nat} {t : Nat × Nat} (h : zTY o = t) (ho : o < 32 + n) : kTY n o = t := by
  unfold kTY; rw [if_pos ho]; exact h
theorem kTY_s {n n' o : Nat} {t : Nat × Nat} (hn : n + 1 = n') (ho : 32 + n = o) (h : zTY o = t) : up1 (kTY n) (32 + n) t = kTY n' := by
  subst hn; subst ho
  funext c
  show (if c = 32 + n then t else kTY n c) = kTY (n + 1) c
  unfold kTY
  by_cases q : c = 32 + n
  · rw [if_pos q, if_pos (by omega), q, h]
  · rw [if_neg q]
    by_cases w : c < 32 + n
    · rw [if_pos w, if_pos (by omega)]
    · rw [if_neg w, if_neg (by omega)]
theorem kRF_s (l : List (Nat × Nat × Nat)) (o b q : Nat) : upr (kRF l) o b q = kRF ((o, b, q) :: l) := by
  funext x y
  show (if x = o then (fun y => if y = b then q else kRF l o y) else kRF l x) y = (if x = o then (if y = b then q else kRF l o y) else kRF l x y)
  by_cases h : x = o
  · rw [if_pos h, if_pos h]
  · rw [if_neg h, if_neg h]
theorem kH_new {n n' sl sl' s o : Nat} {t : Nat × Nat} {l : List (Nat × Nat × Nat)} {m : XM} (hn : n + 1 = n') (ho : 32 + n = o) (h : zTY o = t) (hs : sl + s = sl') : newC (kH n sl l m) t s = kH n' sl' l m := by
  show (n + 1, sl + s, up1 (kTY n) (32 + n) t, kRF l, m) = _
  rw [kTY_s hn ho h, hn, hs]; rfl
section KR
variable {d M pc nx a b n n' sl sl' o q : Nat} {v x : Int} {ls st : List XV} {m : XM} {l : List (Nat × Nat × Nat)} {H : XH} {Q : Option XV → XH → Prop}
theorem k_obj (h : zA M pc = (66, nx, 0, 0, 0, [])) (hd : d ≠ 0) (ho : 32 ≤ o) (hc : catSum st ≤ 8) (k : RZ d M nx ls st H Q) : RZ d M pc ls (vR o :: st) H Q :=
  RZ.step h (fun C k => by show (if d = 0 ∨ o < 32 ∨ 8 < catSum st then none else k nx ls st H) = _; rw [if_neg (by omega)]) k
theorem k_new (h : zA M pc = (63, nx, a, 0, 0, [])) (hn : n + 1 = n') (ho : 32 + n = o) (ht : zTY o = (1, a)) (hs : sl + zNf a = sl') (k : RZ d M nx ls (vR o :: st) (kH n' sl' l m) Q) : RZ d M pc ls st (kH n sl l m) Q :=
  RZ.step h (fun C k => by
    show k nx ls (vR (32 + n) :: st) (newC (kH n sl l m) (1, a) (zNf a)) = _
    rw [kH_new hn ho ht hs, ho]) k
theorem k_newA (h : zA M pc = (62, nx, a, 0, 0, [])) (hx : 0 ≤ x ∧ x < 100000) (hn : n + 1 = n') (ho : 32 + n = o) (ht : zTY o = (a, x.toNat)) (hs : sl + x.toNat = sl') (k : RZ d M nx ls (vR o :: st) (kH n' sl' l m) Q) : RZ d M pc ls (vI x :: st) (kH n sl l m) Q :=
  RZ.step h (fun C k => by
    show (if 0 ≤ x ∧ x < 100000 then k nx ls (vR (32 + n) :: st) (newC (kH n sl l m) (a, x.toNat) x.toNat) else none) = _
    rw [if_pos hx, kH_new hn ho ht hs, ho]) k
theorem k_putR (h : zA M pc = (53, nx, a, b, v, [])) (ht : zTY o = (1, a)) (ho : o < 32 + n) (hq : 32 ≤ q) (k : RZ d M nx ls st (kH n sl ((o, b, q) :: l) m) Q) : RZ d M pc ls (vR q :: vR o :: st) (kH n sl l m) Q :=
  RZ.step h (fun C k => by
    show (if kTY n o = (1, a) ∧ 32 ≤ q then k nx ls st (n, sl, kTY n, upr (kRF l) o b q, m) else none) = _
    rw [if_pos ⟨kTY_at ht ho, hq⟩, kRF_s]; rfl) k
theorem k_getR (h : zA M pc = (49, nx, a, b, 0, [])) (ht : zTY o = (1, a)) (ho : o < 32 + n) (hr : kRF l o b = q) (hq : q ≠ 0) (k : RZ d M nx ls (vR q :: st) (kH n sl l m) Q) : RZ d M pc ls (vR o :: st) (kH n sl l m) Q :=
  RZ.step h (fun C kk => by
    show (if kTY n o = (1, a) ∧ kRF l o b ≠ 0 then kk nx ls (vR (kRF l o b) :: st) (kH n sl l m) else none) = kk nx ls (vR q :: st) (kH n sl l m)
    rw [hr, if_pos ⟨kTY_at ht ho, hq⟩]) k
theorem k_iast {i : Int} {w : Nat} (h : zA M pc = (59, nx, 0, 0, 0, [])) (ht : zTY o = (2, w)) (ho : o < 32 + n) (hi : 0 ≤ i ∧ i < (w : Int)) (k : RZ d M nx ls st (kH n sl l (up2 m o i x)) Q) : RZ d M pc ls (vI x :: vI i :: vR o :: st) (kH n sl l m) Q :=
  RZ.step h (fun C k => by
    show (if (kTY n o).1 = 2 ∧ 0 ≤ i ∧ i < ((kTY n o).2 : Int) then k nx ls st (n, sl, kTY n, kRF l, up2 m o i x) else none) = _
    rw [if_pos (by rw [kTY_at ht ho]; exact ⟨rfl, hi⟩)]; rfl) k
theorem k_recv {ow y : Nat} {as : List XV} (ht : zTY o = (1, ow)) (ho : o < 32 + n) (hw : zOwAt y = ow) (hlt : ow < 12) : recvOK (kH n sl l m) (zOwAt y) (vR o :: as) = true := by
  show ((decide (zOwAt y < 12) && decide (kTY n o = (1, zOwAt y))) || _) = true
  rw [hw, decide_eq_true hlt, decide_eq_true (kTY_at ht ho)]
  rfl
end KR
/-- a constructor: from one heap to another -/
abbrev KV (d M : Nat) (as : List XV) (H H' : XH) : Prop := RZ d M 0 (entryL M as) [] H (fun r X => r = none ∧ X = H')
theorem K_1 (d : Nat) (l : List (Nat × Nat × Nat)) (m : XM) (hd : 1 ≤ d) : KV d 11 [vR 34] (kH 3 25 l m) (kH 8 81 ((34, 5, 39) :: (34, 4, 38) :: (34, 3, 37) :: (34, 2, 36) :: (34, 1, 35) :: l) m) := by
  refine r_entry mx11 rfl ?_
  refine r_loadA a11_0 rfl (by decide) ?_
  refine k_obj a11_1 (by omega) (by decide) (Nat.le_of_ble_eq_true rfl) ?_
  refine r_loadA a11_4 rfl (by decide) ?_
  refine r_pushI a11_5 ?_
  refine k_newA (n' := 4) (sl' := 32) (o := 35) a11_7 (by decide) rfl rfl ty35 rfl ?_
  refine k_putR a11_9 ty34 (by decide) (by decide) ?_
  refine r_loadA a11_12 rfl (by decide) ?_
  refine r_pushI a11_13 ?_
  refine k_newA (n' := 5) (sl' := 39) (o := 36) a11_15 (by decide) rfl rfl ty36 rfl ?_
  refine k_putR a11_17 ty34 (by decide) (by decide) ?_
  refine r_loadA a11_20 rfl (by decide) ?_
  refine r_pushI a11_21 ?_
  refine k_newA (n' := 6) (sl' := 46) (o := 37) a11_23 (by decide) rfl rfl ty37 rfl ?_
  refine k_putR a11_25 ty34 (by decide) (by decide) ?_
  refine r_loadA a11_28 rfl (by decide) ?_
  refine r_pushI a11_29 ?_
  refine k_newA (n' := 7) (sl' := 53) (o := 38) a11_31 (by decide) rfl rfl ty38 rfl ?_
  refine k_putR a11_33 ty34 (by decide) (by decide) ?_
  refine r_loadA a11_36 rfl (by decide) ?_
  refine r_pushI a11_37 ?_
  refine k_newA (n' := 8) (sl' := 81) (o := 39) a11_39 (by decide) rfl rfl ty39 rfl ?_
  refine k_putR a11_41 ty34 (by decide) (by decide) ?_
  exact r_retV a11_44 ⟨rfl, rfl⟩
theorem K_2 (d : Nat) (l : List (Nat × Nat × Nat)) (m : XM) (hd : 1 ≤ d) : KV d 61 [vR 41] (kH 10 88 l m) (kH 11 188 ((41, 1, 42) :: l) m) := by
  refine r_entry mx61 rfl ?_
  refine r_loadA a61_0 rfl (by decide) ?_
  refine k_obj a61_1 (by omega) (by decide) (Nat.le_of_ble_eq_true rfl) ?_
  refine r_loadA a61_4 rfl (by decide) ?_
  refine r_pushI a61_5 ?_
  refine k_newA (n' := 11) (sl' := 188) (o := 42) a61_7 (by decide) rfl rfl ty42 rfl ?_
  refine k_putR a61_9 ty41 (by decide) (by decide) ?_
  exact r_retV a61_12 ⟨rfl, rfl⟩
theorem K_3 (d : Nat) (l : List (Nat × Nat × Nat)) (m : XM) (hd : 1 ≤ d) : KV d 4 [vR 43] (kH 12 197 l m) (kH 17 343 ((43, 8, 48) :: (43, 7, 47) :: (43, 6, 46) :: (43, 5, 45) :: (43, 4, 44) :: l) m) := by
  refine r_entry mx4 rfl ?_
  refine r_loadA a4_0 rfl (by decide) ?_
  refine k_obj a4_1 (by omega) (by decide) (Nat.le_of_ble_eq_true rfl) ?_
  refine r_loadA a4_4 rfl (by decide) ?_
  refine r_pushI a4_5 ?_
  refine k_newA (n' := 13) (sl' := 207) (o := 44) a4_7 (by decide) rfl rfl ty44 rfl ?_
  refine k_putR a4_9 ty43 (by decide) (by decide) ?_
  refine r_loadA a4_12 rfl (by decide) ?_
  refine r_pushI a4_13 ?_
  refine k_newA (n' := 14) (sl' := 217) (o := 45) a4_15 (by decide) rfl rfl ty45 rfl ?_
  refine k_putR a4_17 ty43 (by decide) (by decide) ?_
  refine r_loadA a4_20 rfl (by decide) ?_
  refine r_pushI a4_21 ?_
  refine k_newA (n' := 15) (sl' := 227) (o := 46) a4_23 (by decide) rfl rfl ty46 rfl ?_
  refine k_putR a4_25 ty43 (by decide) (by decide) ?_
  refine r_loadA a4_28 rfl (by decide) ?_
  refine r_pushI a4_29 ?_
  refine k_newA (n' := 16) (sl' := 327) (o := 47) a4_31 (by decide) rfl rfl ty47 rfl ?_
  refine k_putR a4_33 ty43 (by decide) (by decide) ?_
  refine r_loadA a4_36 rfl (by decide) ?_
  refine r_pushI a4_37 ?_
  refine k_newA (n' := 17) (sl' := 343) (o := 48) a4_39 (by decide) rfl rfl ty48 rfl ?_
  refine k_putR a4_41 ty43 (by decide) (by decide) ?_
  exact r_retV a4_44 ⟨rfl, rfl⟩
theorem K_4 (d : Nat) (l : List (Nat × Nat × Nat)) (m : XM) (hd : 1 ≤ d) : KV d 20 [vR 49, vI 7] (kH 18 346 l m) (kH 20 360 ((49, 2, 51) :: (49, 1, 50) :: l) m) := by
  refine r_entry mx20 rfl ?_
  refine r_loadA a20_0 rfl (by decide) ?_
  refine k_obj a20_1 (by omega) (by decide) (Nat.le_of_ble_eq_true rfl) ?_
  refine r_loadA a20_4 rfl (by decide) ?_
  refine r_loadI a20_5 rfl ?_
  refine k_newA (n' := 19) (sl' := 353) (o := 50) a20_6 (by decide) rfl rfl ty50 rfl ?_
  refine k_putR a20_8 ty49 (by decide) (by decide) ?_
  refine r_loadA a20_11 rfl (by decide) ?_
  refine r_loadI a20_12 rfl ?_
  refine k_newA (n' := 20) (sl' := 360) (o := 51) a20_13 (by decide) rfl rfl ty51 rfl ?_
  refine k_putR a20_15 ty49 (by decide) (by decide) ?_
  exact r_retV a20_18 ⟨rfl, rfl⟩
theorem K_5 (d : Nat) (l : List (Nat × Nat × Nat)) (m : XM) (hd : 1 ≤ d) : KV d 20 [vR 52, vI 8] (kH 21 363 l m) (kH 23 379 ((52, 2, 54) :: (52, 1, 53) :: l) m) := by
  refine r_entry mx20 rfl ?_
  refine r_loadA a20_0 rfl (by decide) ?_
  refine k_obj a20_1 (by omega) (by decide) (Nat.le_of_ble_eq_true rfl) ?_
  refine r_loadA a20_4 rfl (by decide) ?_
  refine r_loadI a20_5 rfl ?_
  refine k_newA (n' := 22) (sl' := 371) (o := 53) a20_6 (by decide) rfl rfl ty53 rfl ?_
  refine k_putR a20_8 ty52 (by decide) (by decide) ?_
  refine r_loadA a20_11 rfl (by decide) ?_
  refine r_loadI a20_12 rfl ?_
  refine k_newA (n' := 23) (sl' := 379) (o := 54) a20_13 (by decide) rfl rfl ty54 rfl ?_
  refine k_putR a20_15 ty52 (by decide) (by decide) ?_
  exact r_retV a20_18 ⟨rfl, rfl⟩
theorem K_6 (d : Nat) (l : List (Nat × Nat × Nat)) (m : XM) (hd : 2 ≤ d) : KV d 14 [vR 33] (kH 2 19 l m) (kH 23 379 ((33, 8, 52) :: (52, 2, 54) :: (52, 1, 53) :: (33, 7, 49) :: (49, 2, 51) :: (49, 1, 50) :: (33, 5, 43) :: (43, 8, 48) :: (43, 7, 47) :: (43, 6, 46) :: (43, 5, 45) :: (43, 4, 44) :: (33, 4, 41) :: (41, 1, 42) :: (33, 1, 40) :: (33, 0, 34) :: (34, 5, 39) :: (34, 4, 38) :: (34, 3, 37) :: (34, 2, 36) :: (34, 1, 35) :: l) m) := by
  obtain ⟨d, rfl⟩ : ∃ e, d = e + 1 := ⟨d - 1, by omega⟩
  refine r_entry mx14 rfl ?_
  refine r_loadA a14_0 rfl (by decide) ?_
  refine k_obj a14_1 (by omega) (by decide) (Nat.le_of_ble_eq_true rfl) ?_
  refine r_loadA a14_4 rfl (by decide) ?_
  refine k_new (n' := 3) (sl' := 25) (o := 34) a14_5 rfl rfl ty34 rfl ?_
  refine r_dup a14_8 rfl ?_
  refine r_callH a14_9 (as := [vR 34]) (rest := [vR 34, vR 33]) rfl rfl (Nat.le_of_ble_eq_true rfl) (le_mx mx11 (Nat.le_of_ble_eq_true rfl)) (Or.inr (k_recv ty34 (by decide) ow11 (by decide))) (K_1 _ _ _ (by omega)) (fun r X hq => ?_)
  obtain ⟨rfl, rfl⟩ := hq
  refine k_putR a14_12 ty33 (by decide) (by decide) ?_
  refine r_loadA a14_15 rfl (by decide) ?_
  refine r_pushI a14_16 ?_
  refine k_newA (n' := 9) (sl' := 86) (o := 40) a14_17 (by decide) rfl rfl ty40 rfl ?_
  refine k_putR a14_19 ty33 (by decide) (by decide) ?_
  refine r_loadA a14_22 rfl (by decide) ?_
  refine k_new (n' := 10) (sl' := 88) (o := 41) a14_23 rfl rfl ty41 rfl ?_
  refine r_dup a14_26 rfl ?_
  refine r_callH a14_27 (as := [vR 41]) (rest := [vR 41, vR 33]) rfl rfl (Nat.le_of_ble_eq_true rfl) (le_mx mx61 (Nat.le_of_ble_eq_true rfl)) (Or.inr (k_recv ty41 (by decide) ow61 (by decide))) (K_2 _ _ _ (by omega)) (fun r X hq => ?_)
  obtain ⟨rfl, rfl⟩ := hq
  refine k_putR a14_30 ty33 (by decide) (by decide) ?_
  refine r_loadA a14_33 rfl (by decide) ?_
  refine k_new (n' := 12) (sl' := 197) (o := 43) a14_34 rfl rfl ty43 rfl ?_
  refine r_dup a14_37 rfl ?_
  refine r_callH a14_38 (as := [vR 43]) (rest := [vR 43, vR 33]) rfl rfl (Nat.le_of_ble_eq_true rfl) (le_mx mx4 (Nat.le_of_ble_eq_true rfl)) (Or.inr (k_recv ty43 (by decide) ow4 (by decide))) (K_3 _ _ _ (by omega)) (fun r X hq => ?_)
  obtain ⟨rfl, rfl⟩ := hq
  refine k_putR a14_41 ty33 (by decide) (by decide) ?_
  refine r_loadA a14_44 rfl (by decide) ?_
  refine k_new (n' := 18) (sl' := 346) (o := 49) a14_45 rfl rfl ty49 rfl ?_
  refine r_dup a14_48 rfl ?_
  refine r_pushI a14_49 ?_
  refine r_callH a14_51 (as := [vR 49, vI 7]) (rest := [vR 49, vR 33]) rfl rfl (Nat.le_of_ble_eq_true rfl) (le_mx mx20 (Nat.le_of_ble_eq_true rfl)) (Or.inr (k_recv ty49 (by decide) ow20 (by decide))) (K_4 _ _ _ (by omega)) (fun r X hq => ?_)
  obtain ⟨rfl, rfl⟩ := hq
  refine k_putR a14_54 ty33 (by decide) (by decide) ?_
  refine r_loadA a14_57 rfl (by decide) ?_
  refine k_new (n' := 21) (sl' := 363) (o := 52) a14_58 rfl rfl ty52 rfl ?_
  refine r_dup a14_61 rfl ?_
  refine r_pushI a14_62 ?_
  refine r_callH a14_64 (as := [vR 52, vI 8]) (rest := [vR 52, vR 33]) rfl rfl (Nat.le_of_ble_eq_true rfl) (le_mx mx20 (Nat.le_of_ble_eq_true rfl)) (Or.inr (k_recv ty52 (by decide) ow20 (by decide))) (K_5 _ _ _ (by omega)) (fun r X hq => ?_)
  obtain ⟨rfl, rfl⟩ := hq
  refine k_putR a14_67 ty33 (by decide) (by decide) ?_
  exact r_retV a14_70 ⟨rfl, rfl⟩
theorem K_7 (d : Nat) (l : List (Nat × Nat × Nat)) (m : XM) (hd : 1 ≤ d) : KV d 11 [vR 56] (kH 25 394 l m) (kH 30 450 ((56, 5, 61) :: (56, 4, 60) :: (56, 3, 59) :: (56, 2, 58) :: (56, 1, 57) :: l) m) := by
  refine r_entry mx11 rfl ?_
  refine r_loadA a11_0 rfl (by decide) ?_
  refine k_obj a11_1 (by omega) (by decide) (Nat.le_of_ble_eq_true rfl) ?_
  refine r_loadA a11_4 rfl (by decide) ?_
  refine r_pushI a11_5 ?_
  refine k_newA (n' := 26) (sl' := 401) (o := 57) a11_7 (by decide) rfl rfl ty57 rfl ?_
  refine k_putR a11_9 ty56 (by decide) (by decide) ?_
  refine r_loadA a11_12 rfl (by decide) ?_
  refine r_pushI a11_13 ?_
  refine k_newA (n' := 27) (sl' := 408) (o := 58) a11_15 (by decide) rfl rfl ty58 rfl ?_
  refine k_putR a11_17 ty56 (by decide) (by decide) ?_
  refine r_loadA a11_20 rfl (by decide) ?_
  refine r_pushI a11_21 ?_
  refine k_newA (n' := 28) (sl' := 415) (o := 59) a11_23 (by decide) rfl rfl ty59 rfl ?_
  refine k_putR a11_25 ty56 (by decide) (by decide) ?_
  refine r_loadA a11_28 rfl (by decide) ?_
  refine r_pushI a11_29 ?_
  refine k_newA (n' := 29) (sl' := 422) (o := 60) a11_31 (by decide) rfl rfl ty60 rfl ?_
  refine k_putR a11_33 ty56 (by decide) (by decide) ?_
  refine r_loadA a11_36 rfl (by decide) ?_
  refine r_pushI a11_37 ?_
  refine k_newA (n' := 30) (sl' := 450) (o := 61) a11_39 (by decide) rfl rfl ty61 rfl ?_
  refine k_putR a11_41 ty56 (by decide) (by decide) ?_
  exact r_retV a11_44 ⟨rfl, rfl⟩
theorem K_8 (d : Nat) (l : List (Nat × Nat × Nat)) (m : XM) (hd : 1 ≤ d) : KV d 61 [vR 63] (kH 32 457 l m) (kH 33 557 ((63, 1, 64) :: l) m) := by
  refine r_entry mx61 rfl ?_
  refine r_loadA a61_0 rfl (by decide) ?_
  refine k_obj a61_1 (by omega) (by decide) (Nat.le_of_ble_eq_true rfl) ?_
  refine r_loadA a61_4 rfl (by decide) ?_
  refine r_pushI a61_5 ?_
  refine k_newA (n' := 33) (sl' := 557) (o := 64) a61_7 (by decide) rfl rfl ty64 rfl ?_
  refine k_putR a61_9 ty63 (by decide) (by decide) ?_
  exact r_retV a61_12 ⟨rfl, rfl⟩
theorem K_9 (d : Nat) (l : List (Nat × Nat × Nat)) (m : XM) (hd : 1 ≤ d) : KV d 4 [vR 65] (kH 34 566 l m) (kH 39 712 ((65, 8, 70) :: (65, 7, 69) :: (65, 6, 68) :: (65, 5, 67) :: (65, 4, 66) :: l) m) := by
  refine r_entry mx4 rfl ?_
  refine r_loadA a4_0 rfl (by decide) ?_
  refine k_obj a4_1 (by omega) (by decide) (Nat.le_of_ble_eq_true rfl) ?_
  refine r_loadA a4_4 rfl (by decide) ?_
  refine r_pushI a4_5 ?_
  refine k_newA (n' := 35) (sl' := 576) (o := 66) a4_7 (by decide) rfl rfl ty66 rfl ?_
  refine k_putR a4_9 ty65 (by decide) (by decide) ?_
  refine r_loadA a4_12 rfl (by decide) ?_
  refine r_pushI a4_13 ?_
  refine k_newA (n' := 36) (sl' := 586) (o := 67) a4_15 (by decide) rfl rfl ty67 rfl ?_
  refine k_putR a4_17 ty65 (by decide) (by decide) ?_
  refine r_loadA a4_20 rfl (by decide) ?_
  refine r_pushI a4_21 ?_
  refine k_newA (n' := 37) (sl' := 596) (o := 68) a4_23 (by decide) rfl rfl ty68 rfl ?_
  refine k_putR a4_25 ty65 (by decide) (by decide) ?_
  refine r_loadA a4_28 rfl (by decide) ?_
  refine r_pushI a4_29 ?_
  refine k_newA (n' := 38) (sl' := 696) (o := 69) a4_31 (by decide) rfl rfl ty69 rfl ?_
  refine k_putR a4_33 ty65 (by decide) (by decide) ?_
  refine r_loadA a4_36 rfl (by decide) ?_
  refine r_pushI a4_37 ?_
  refine k_newA (n' := 39) (sl' := 712) (o := 70) a4_39 (by decide) rfl rfl ty70 rfl ?_
  refine k_putR a4_41 ty65 (by decide) (by decide) ?_
  exact r_retV a4_44 ⟨rfl, rfl⟩
theorem K_10 (d : Nat) (l : List (Nat × Nat × Nat)) (m : XM) (hd : 1 ≤ d) : KV d 20 [vR 71, vI 7] (kH 40 715 l m) (kH 42 729 ((71, 2, 73) :: (71, 1, 72) :: l) m) := by
  refine r_entry mx20 rfl ?_
  refine r_loadA a20_0 rfl (by decide) ?_
  refine k_obj a20_1 (by omega) (by decide) (Nat.le_of_ble_eq_true rfl) ?_
  refine r_loadA a20_4 rfl (by decide) ?_
  refine r_loadI a20_5 rfl ?_
  refine k_newA (n' := 41) (sl' := 722) (o := 72) a20_6 (by decide) rfl rfl ty72 rfl ?_
  refine k_putR a20_8 ty71 (by decide) (by decide) ?_
  refine r_loadA a20_11 rfl (by decide) ?_
  refine r_loadI a20_12 rfl ?_
  refine k_newA (n' := 42) (sl' := 729) (o := 73) a20_13 (by decide) rfl rfl ty73 rfl ?_
  refine k_putR a20_15 ty71 (by decide) (by decide) ?_
  exact r_retV a20_18 ⟨rfl, rfl⟩
theorem K_11 (d : Nat) (l : List (Nat × Nat × Nat)) (m : XM) (hd : 1 ≤ d) : KV d 20 [vR 74, vI 8] (kH 43 732 l m) (kH 45 748 ((74, 2, 76) :: (74, 1, 75) :: l) m) := by
  refine r_entry mx20 rfl ?_
  refine r_loadA a20_0 rfl (by decide) ?_
  refine k_obj a20_1 (by omega) (by decide) (Nat.le_of_ble_eq_true rfl) ?_
  refine r_loadA a20_4 rfl (by decide) ?_
  refine r_loadI a20_5 rfl ?_
  refine k_newA (n' := 44) (sl' := 740) (o := 75) a20_6 (by decide) rfl rfl ty75 rfl ?_
  refine k_putR a20_8 ty74 (by decide) (by decide) ?_
  refine r_loadA a20_11 rfl (by decide) ?_
  refine r_loadI a20_12 rfl ?_
  refine k_newA (n' := 45) (sl' := 748) (o := 76) a20_13 (by decide) rfl rfl ty76 rfl ?_
  refine k_putR a20_15 ty74 (by decide) (by decide) ?_
  exact r_retV a20_18 ⟨rfl, rfl⟩
theorem K_12 (d : Nat) (l : List (Nat × Nat × Nat)) (m : XM) (hd : 2 ≤ d) : KV d 14 [vR 55] (kH 24 388 l m) (kH 45 748 ((55, 8, 74) :: (74, 2, 76) :: (74, 1, 75) :: (55, 7, 71) :: (71, 2, 73) :: (71, 1, 72) :: (55, 5, 65) :: (65, 8, 70) :: (65, 7, 69) :: (65, 6, 68) :: (65, 5, 67) :: (65, 4, 66) :: (55, 4, 63) :: (63, 1, 64) :: (55, 1, 62) :: (55, 0, 56) :: (56, 5, 61) :: (56, 4, 60) :: (56, 3, 59) :: (56, 2, 58) :: (56, 1, 57) :: l) m) := by
  obtain ⟨d, rfl⟩ : ∃ e, d = e + 1 := ⟨d - 1, by omega⟩
  refine r_entry mx14 rfl ?_
  refine r_loadA a14_0 rfl (by decide) ?_
  refine k_obj a14_1 (by omega) (by decide) (Nat.le_of_ble_eq_true rfl) ?_
  refine r_loadA a14_4 rfl (by decide) ?_
  refine k_new (n' := 25) (sl' := 394) (o := 56) a14_5 rfl rfl ty56 rfl ?_
  refine r_dup a14_8 rfl ?_
  refine r_callH a14_9 (as := [vR 56]) (rest := [vR 56, vR 55]) rfl rfl (Nat.le_of_ble_eq_true rfl) (le_mx mx11 (Nat.le_of_ble_eq_true rfl)) (Or.inr (k_recv ty56 (by decide) ow11 (by decide))) (K_7 _ _ _ (by omega)) (fun r X hq => ?_)
  obtain ⟨rfl, rfl⟩ := hq
  refine k_putR a14_12 ty55 (by decide) (by decide) ?_
  refine r_loadA a14_15 rfl (by decide) ?_
  refine r_pushI a14_16 ?_
  refine k_newA (n' := 31) (sl' := 455) (o := 62) a14_17 (by decide) rfl rfl ty62 rfl ?_
  refine k_putR a14_19 ty55 (by decide) (by decide) ?_
  refine r_loadA a14_22 rfl (by decide) ?_
  refine k_new (n' := 32) (sl' := 457) (o := 63) a14_23 rfl rfl ty63 rfl ?_
  refine r_dup a14_26 rfl ?_
  refine r_callH a14_27 (as := [vR 63]) (rest := [vR 63, vR 55]) rfl rfl (Nat.le_of_ble_eq_true rfl) (le_mx mx61 (Nat.le_of_ble_eq_true rfl)) (Or.inr (k_recv ty63 (by decide) ow61 (by decide))) (K_8 _ _ _ (by omega)) (fun r X hq => ?_)
  obtain ⟨rfl, rfl⟩ := hq
  refine k_putR a14_30 ty55 (by decide) (by decide) ?_
  refine r_loadA a14_33 rfl (by decide) ?_
  refine k_new (n' := 34) (sl' := 566) (o := 65) a14_34 rfl rfl ty65 rfl ?_
  refine r_dup a14_37 rfl ?_
  refine r_callH a14_38 (as := [vR 65]) (rest := [vR 65, vR 55]) rfl rfl (Nat.le_of_ble_eq_true rfl) (le_mx mx4 (Nat.le_of_ble_eq_true rfl)) (Or.inr (k_recv ty65 (by decide) ow4 (by decide))) (K_9 _ _ _ (by omega)) (fun r X hq => ?_)
  obtain ⟨rfl, rfl⟩ := hq
  refine k_putR a14_41 ty55 (by decide) (by decide) ?_
  refine r_loadA a14_44 rfl (by decide) ?_
  refine k_new (n' := 40) (sl' := 715) (o := 71) a14_45 rfl rfl ty71 rfl ?_
  refine r_dup a14_48 rfl ?_
  refine r_pushI a14_49 ?_
  refine r_callH a14_51 (as := [vR 71, vI 7]) (rest := [vR 71, vR 55]) rfl rfl (Nat.le_of_ble_eq_true rfl) (le_mx mx20 (Nat.le_of_ble_eq_true rfl)) (Or.inr (k_recv ty71 (by decide) ow20 (by decide))) (K_10 _ _ _ (by omega)) (fun r X hq => ?_)
  obtain ⟨rfl, rfl⟩ := hq
  refine k_putR a14_54 ty55 (by decide) (by decide) ?_
  refine r_loadA a14_57 rfl (by decide) ?_
  refine k_new (n' := 43) (sl' := 732) (o := 74) a14_58 rfl rfl ty74 rfl ?_
  refine r_dup a14_61 rfl ?_
  refine r_pushI a14_62 ?_
  refine r_callH a14_64 (as := [vR 74, vI 8]) (rest := [vR 74, vR 55]) rfl rfl (Nat.le_of_ble_eq_true rfl) (le_mx mx20 (Nat.le_of_ble_eq_true rfl)) (Or.inr (k_recv ty74 (by decide) ow20 (by decide))) (K_11 _ _ _ (by omega)) (fun r X hq => ?_)
  obtain ⟨rfl, rfl⟩ := hq
  refine k_putR a14_67 ty55 (by decide) (by decide) ?_
  exact r_retV a14_70 ⟨rfl, rfl⟩
theorem K_13 (d : Nat) (l : List (Nat × Nat × Nat)) (m : XM) (hd : 1 ≤ d) : KV d 4 [vR 78] (kH 47 761 l m) (kH 52 907 ((78, 8, 83) :: (78, 7, 82) :: (78, 6, 81) :: (78, 5, 80) :: (78, 4, 79) :: l) m) := by
  refine r_entry mx4 rfl ?_
  refine r_loadA a4_0 rfl (by decide) ?_
  refine k_obj a4_1 (by omega) (by decide) (Nat.le_of_ble_eq_true rfl) ?_
  refine r_loadA a4_4 rfl (by decide) ?_
  refine r_pushI a4_5 ?_
  refine k_newA (n' := 48) (sl' := 771) (o := 79) a4_7 (by decide) rfl rfl ty79 rfl ?_
  refine k_putR a4_9 ty78 (by decide) (by decide) ?_
  refine r_loadA a4_12 rfl (by decide) ?_
  refine r_pushI a4_13 ?_
  refine k_newA (n' := 49) (sl' := 781) (o := 80) a4_15 (by decide) rfl rfl ty80 rfl ?_
  refine k_putR a4_17 ty78 (by decide) (by decide) ?_
  refine r_loadA a4_20 rfl (by decide) ?_
  refine r_pushI a4_21 ?_
  refine k_newA (n' := 50) (sl' := 791) (o := 81) a4_23 (by decide) rfl rfl ty81 rfl ?_
  refine k_putR a4_25 ty78 (by decide) (by decide) ?_
  refine r_loadA a4_28 rfl (by decide) ?_
  refine r_pushI a4_29 ?_
  refine k_newA (n' := 51) (sl' := 891) (o := 82) a4_31 (by decide) rfl rfl ty82 rfl ?_
  refine k_putR a4_33 ty78 (by decide) (by decide) ?_
  refine r_loadA a4_36 rfl (by decide) ?_
  refine r_pushI a4_37 ?_
  refine k_newA (n' := 52) (sl' := 907) (o := 83) a4_39 (by decide) rfl rfl ty83 rfl ?_
  refine k_putR a4_41 ty78 (by decide) (by decide) ?_
  exact r_retV a4_44 ⟨rfl, rfl⟩
theorem K_14 (d : Nat) (l : List (Nat × Nat × Nat)) (m : XM) (hd : 2 ≤ d) : KV d 43 [vR 77] (kH 46 752 l m) (kH 53 907 ((77, 3, 84) :: (77, 0, 78) :: (78, 8, 83) :: (78, 7, 82) :: (78, 6, 81) :: (78, 5, 80) :: (78, 4, 79) :: l) m) := by
  obtain ⟨d, rfl⟩ : ∃ e, d = e + 1 := ⟨d - 1, by omega⟩
  refine r_entry mx43 rfl ?_
  refine r_loadA a43_0 rfl (by decide) ?_
  refine k_obj a43_1 (by omega) (by decide) (Nat.le_of_ble_eq_true rfl) ?_
  refine r_loadA a43_4 rfl (by decide) ?_
  refine k_new (n' := 47) (sl' := 761) (o := 78) a43_5 rfl rfl ty78 rfl ?_
  refine r_dup a43_8 rfl ?_
  refine r_callH a43_9 (as := [vR 78]) (rest := [vR 78, vR 77]) rfl rfl (Nat.le_of_ble_eq_true rfl) (le_mx mx4 (Nat.le_of_ble_eq_true rfl)) (Or.inr (k_recv ty78 (by decide) ow4 (by decide))) (K_13 _ _ _ (by omega)) (fun r X hq => ?_)
  obtain ⟨rfl, rfl⟩ := hq
  refine k_putR a43_12 ty77 (by decide) (by decide) ?_
  refine r_loadA a43_15 rfl (by decide) ?_
  refine r_pushI a43_16 ?_
  refine k_newA (n' := 53) (sl' := 907) (o := 84) a43_17 (by decide) rfl rfl ty84 rfl ?_
  refine k_putR a43_19 ty77 (by decide) (by decide) ?_
  exact r_retV a43_22 ⟨rfl, rfl⟩
theorem K_15 (d : Nat) (l : List (Nat × Nat × Nat)) (m : XM) (hd : 1 ≤ d) : KV d 24 [vR 85] (kH 54 924 l m) (kH 66 1758 ((85, 12, 97) :: (85, 11, 96) :: (85, 10, 95) :: (85, 9, 94) :: (85, 8, 93) :: (85, 7, 92) :: (85, 6, 91) :: (85, 5, 90) :: (85, 4, 89) :: (85, 3, 88) :: (85, 2, 87) :: (85, 1, 86) :: l) m) := by
  refine r_entry mx24 rfl ?_
  refine r_loadA a24_0 rfl (by decide) ?_
  refine k_obj a24_1 (by omega) (by decide) (Nat.le_of_ble_eq_true rfl) ?_
  refine r_loadA a24_4 rfl (by decide) ?_
  refine r_pushI a24_5 ?_
  refine k_newA (n' := 55) (sl' := 931) (o := 86) a24_7 (by decide) rfl rfl ty86 rfl ?_
  refine k_putR a24_9 ty85 (by decide) (by decide) ?_
  refine r_loadA a24_12 rfl (by decide) ?_
  refine r_pushI a24_13 ?_
  refine k_newA (n' := 56) (sl' := 1141) (o := 87) a24_16 (by decide) rfl rfl ty87 rfl ?_
  refine k_putR a24_18 ty85 (by decide) (by decide) ?_
  refine r_loadA a24_21 rfl (by decide) ?_
  refine r_pushI a24_22 ?_
  refine k_newA (n' := 57) (sl' := 1351) (o := 88) a24_25 (by decide) rfl rfl ty88 rfl ?_
  refine k_putR a24_27 ty85 (by decide) (by decide) ?_
  refine r_loadA a24_30 rfl (by decide) ?_
  refine r_pushI a24_31 ?_
  refine k_newA (n' := 58) (sl' := 1561) (o := 89) a24_34 (by decide) rfl rfl ty89 rfl ?_
  refine k_putR a24_36 ty85 (by decide) (by decide) ?_
  refine r_loadA a24_39 rfl (by decide) ?_
  refine r_pushI a24_40 ?_
  refine k_newA (n' := 59) (sl' := 1567) (o := 90) a24_42 (by decide) rfl rfl ty90 rfl ?_
  refine k_putR a24_44 ty85 (by decide) (by decide) ?_
  refine r_loadA a24_47 rfl (by decide) ?_
  refine r_pushI a24_48 ?_
  refine k_newA (n' := 60) (sl' := 1577) (o := 91) a24_50 (by decide) rfl rfl ty91 rfl ?_
  refine k_putR a24_52 ty85 (by decide) (by decide) ?_
  refine r_loadA a24_55 rfl (by decide) ?_
  refine r_pushI a24_56 ?_
  refine k_newA (n' := 61) (sl' := 1587) (o := 92) a24_58 (by decide) rfl rfl ty92 rfl ?_
  refine k_putR a24_60 ty85 (by decide) (by decide) ?_
  refine r_loadA a24_63 rfl (by decide) ?_
  refine r_pushI a24_64 ?_
  refine k_newA (n' := 62) (sl' := 1667) (o := 93) a24_66 (by decide) rfl rfl ty93 rfl ?_
  refine k_putR a24_68 ty85 (by decide) (by decide) ?_
  refine r_loadA a24_71 rfl (by decide) ?_
  refine r_pushI a24_72 ?_
  refine k_newA (n' := 63) (sl' := 1737) (o := 94) a24_74 (by decide) rfl rfl ty94 rfl ?_
  refine k_putR a24_76 ty85 (by decide) (by decide) ?_
  refine r_loadA a24_79 rfl (by decide) ?_
  refine r_pushI a24_80 ?_
  refine k_newA (n' := 64) (sl' := 1744) (o := 95) a24_82 (by decide) rfl rfl ty95 rfl ?_
  refine k_putR a24_84 ty85 (by decide) (by decide) ?_
  refine r_loadA a24_87 rfl (by decide) ?_
  refine r_pushI a24_88 ?_
  refine k_newA (n' := 65) (sl' := 1751) (o := 96) a24_90 (by decide) rfl rfl ty96 rfl ?_
  refine k_putR a24_92 ty85 (by decide) (by decide) ?_
  refine r_loadA a24_95 rfl (by decide) ?_
  refine r_pushI a24_96 ?_
  refine k_newA (n' := 66) (sl' := 1758) (o := 97) a24_98 (by decide) rfl rfl ty97 rfl ?_
  refine k_putR a24_100 ty85 (by decide) (by decide) ?_
  exact r_retV a24_103 ⟨rfl, rfl⟩
theorem K_16 (d : Nat) (l : List (Nat × Nat × Nat)) (m : XM) (hd : 1 ≤ d) : KV d 24 [vR 98] (kH 67 1775 l m) (kH 79 2609 ((98, 12, 110) :: (98, 11, 109) :: (98, 10, 108) :: (98, 9, 107) :: (98, 8, 106) :: (98, 7, 105) :: (98, 6, 104) :: (98, 5, 103) :: (98, 4, 102) :: (98, 3, 101) :: (98, 2, 100) :: (98, 1, 99) :: l) m) := by
  refine r_entry mx24 rfl ?_
  refine r_loadA a24_0 rfl (by decide) ?_
  refine k_obj a24_1 (by omega) (by decide) (Nat.le_of_ble_eq_true rfl) ?_
  refine r_loadA a24_4 rfl (by decide) ?_
  refine r_pushI a24_5 ?_
  refine k_newA (n' := 68) (sl' := 1782) (o := 99) a24_7 (by decide) rfl rfl ty99 rfl ?_
  refine k_putR a24_9 ty98 (by decide) (by decide) ?_
  refine r_loadA a24_12 rfl (by decide) ?_
  refine r_pushI a24_13 ?_
  refine k_newA (n' := 69) (sl' := 1992) (o := 100) a24_16 (by decide) rfl rfl ty100 rfl ?_
  refine k_putR a24_18 ty98 (by decide) (by decide) ?_
  refine r_loadA a24_21 rfl (by decide) ?_
  refine r_pushI a24_22 ?_
  refine k_newA (n' := 70) (sl' := 2202) (o := 101) a24_25 (by decide) rfl rfl ty101 rfl ?_
  refine k_putR a24_27 ty98 (by decide) (by decide) ?_
  refine r_loadA a24_30 rfl (by decide) ?_
  refine r_pushI a24_31 ?_
  refine k_newA (n' := 71) (sl' := 2412) (o := 102) a24_34 (by decide) rfl rfl ty102 rfl ?_
  refine k_putR a24_36 ty98 (by decide) (by decide) ?_
  refine r_loadA a24_39 rfl (by decide) ?_
  refine r_pushI a24_40 ?_
  refine k_newA (n' := 72) (sl' := 2418) (o := 103) a24_42 (by decide) rfl rfl ty103 rfl ?_
  refine k_putR a24_44 ty98 (by decide) (by decide) ?_
  refine r_loadA a24_47 rfl (by decide) ?_
  refine r_pushI a24_48 ?_
  refine k_newA (n' := 73) (sl' := 2428) (o := 104) a24_50 (by decide) rfl rfl ty104 rfl ?_
  refine k_putR a24_52 ty98 (by decide) (by decide) ?_
  refine r_loadA a24_55 rfl (by decide) ?_
  refine r_pushI a24_56 ?_
  refine k_newA (n' := 74) (sl' := 2438) (o := 105) a24_58 (by decide) rfl rfl ty105 rfl ?_
  refine k_putR a24_60 ty98 (by decide) (by decide) ?_
  refine r_loadA a24_63 rfl (by decide) ?_
  refine r_pushI a24_64 ?_
  refine k_newA (n' := 75) (sl' := 2518) (o := 106) a24_66 (by decide) rfl rfl ty106 rfl ?_
  refine k_putR a24_68 ty98 (by decide) (by decide) ?_
  refine r_loadA a24_71 rfl (by decide) ?_
  refine r_pushI a24_72 ?_
  refine k_newA (n' := 76) (sl' := 2588) (o := 107) a24_74 (by decide) rfl rfl ty107 rfl ?_
  refine k_putR a24_76 ty98 (by decide) (by decide) ?_
  refine r_loadA a24_79 rfl (by decide) ?_
  refine r_pushI a24_80 ?_
  refine k_newA (n' := 77) (sl' := 2595) (o := 108) a24_82 (by decide) rfl rfl ty108 rfl ?_
  refine k_putR a24_84 ty98 (by decide) (by decide) ?_
  refine r_loadA a24_87 rfl (by decide) ?_
  refine r_pushI a24_88 ?_
  refine k_newA (n' := 78) (sl' := 2602) (o := 109) a24_90 (by decide) rfl rfl ty109 rfl ?_
  refine k_putR a24_92 ty98 (by decide) (by decide) ?_
  refine r_loadA a24_95 rfl (by decide) ?_
  refine r_pushI a24_96 ?_
  refine k_newA (n' := 79) (sl' := 2609) (o := 110) a24_98 (by decide) rfl rfl ty110 rfl ?_
  refine k_putR a24_100 ty98 (by decide) (by decide) ?_
  exact r_retV a24_103 ⟨rfl, rfl⟩
theorem K_17 (d : Nat) (l : List (Nat × Nat × Nat)) (m : XM) (hd : 1 ≤ d) : KV d 57 [vR 111] (kH 80 2613 l m) (kH 82 2627 ((111, 2, 113) :: (111, 1, 112) :: l) m) := by
  refine r_entry mx57 rfl ?_
  refine r_loadA a57_0 rfl (by decide) ?_
  refine k_obj a57_1 (by omega) (by decide) (Nat.le_of_ble_eq_true rfl) ?_
  refine r_loadA a57_4 rfl (by decide) ?_
  refine r_pushI a57_5 ?_
  refine k_newA (n' := 81) (sl' := 2620) (o := 112) a57_7 (by decide) rfl rfl ty112 rfl ?_
  refine k_putR a57_9 ty111 (by decide) (by decide) ?_
  refine r_loadA a57_12 rfl (by decide) ?_
  refine r_pushI a57_13 ?_
  refine k_newA (n' := 82) (sl' := 2627) (o := 113) a57_15 (by decide) rfl rfl ty113 rfl ?_
  refine k_putR a57_17 ty111 (by decide) (by decide) ?_
  exact r_retV a57_20 ⟨rfl, rfl⟩
theorem K_18 (d : Nat) (l : List (Nat × Nat × Nat)) (m : XM) (hd : 1 ≤ d) : KV d 16 [vR 114] (kH 83 2631 l m) (kH 86 2652 ((114, 2, 117) :: (114, 1, 116) :: (114, 0, 115) :: l) m) := by
  refine r_entry mx16 rfl ?_
  refine r_loadA a16_0 rfl (by decide) ?_
  refine k_obj a16_1 (by omega) (by decide) (Nat.le_of_ble_eq_true rfl) ?_
  refine r_loadA a16_4 rfl (by decide) ?_
  refine r_pushI a16_5 ?_
  refine k_newA (n' := 84) (sl' := 2638) (o := 115) a16_7 (by decide) rfl rfl ty115 rfl ?_
  refine k_putR a16_9 ty114 (by decide) (by decide) ?_
  refine r_loadA a16_12 rfl (by decide) ?_
  refine r_pushI a16_13 ?_
  refine k_newA (n' := 85) (sl' := 2645) (o := 116) a16_15 (by decide) rfl rfl ty116 rfl ?_
  refine k_putR a16_17 ty114 (by decide) (by decide) ?_
  refine r_loadA a16_20 rfl (by decide) ?_
  refine r_pushI a16_21 ?_
  refine k_newA (n' := 86) (sl' := 2652) (o := 117) a16_23 (by decide) rfl rfl ty117 rfl ?_
  refine k_putR a16_25 ty114 (by decide) (by decide) ?_
  exact r_retV a16_28 ⟨rfl, rfl⟩
theorem K_19 (d : Nat) (l : List (Nat × Nat × Nat)) (m : XM) (hd : 1 ≤ d) : KV d 0 [vR 118] (kH 87 2657 l m) (kH 88 2677 ((118, 1, 119) :: l) m) := by
  refine r_entry mx0 rfl ?_
  refine r_loadA a0_0 rfl (by decide) ?_
  refine k_obj a0_1 (by omega) (by decide) (Nat.le_of_ble_eq_true rfl) ?_
  refine r_loadA a0_4 rfl (by decide) ?_
  refine r_pushI a0_5 ?_
  refine k_newA (n' := 88) (sl' := 2677) (o := 119) a0_7 (by decide) rfl rfl ty119 rfl ?_
  refine k_putR a0_9 ty118 (by decide) (by decide) ?_
  exact r_retV a0_12 ⟨rfl, rfl⟩
theorem K_20 (d : Nat) (l : List (Nat × Nat × Nat)) (m : XM) (hd : 3 ≤ d) : KV d 63 [vR 32] (kH 1 10 l m) (kH 89 2682 ((32, 9, 120) :: (32, 8, 118) :: (118, 1, 119) :: (32, 7, 114) :: (114, 2, 117) :: (114, 1, 116) :: (114, 0, 115) :: (32, 6, 111) :: (111, 2, 113) :: (111, 1, 112) :: (32, 5, 98) :: (98, 12, 110) :: (98, 11, 109) :: (98, 10, 108) :: (98, 9, 107) :: (98, 8, 106) :: (98, 7, 105) :: (98, 6, 104) :: (98, 5, 103) :: (98, 4, 102) :: (98, 3, 101) :: (98, 2, 100) :: (98, 1, 99) :: (32, 4, 85) :: (85, 12, 97) :: (85, 11, 96) :: (85, 10, 95) :: (85, 9, 94) :: (85, 8, 93) :: (85, 7, 92) :: (85, 6, 91) :: (85, 5, 90) :: (85, 4, 89) :: (85, 3, 88) :: (85, 2, 87) :: (85, 1, 86) :: (32, 3, 77) :: (77, 3, 84) :: (77, 0, 78) :: (78, 8, 83) :: (78, 7, 82) :: (78, 6, 81) :: (78, 5, 80) :: (78, 4, 79) :: (32, 1, 55) :: (55, 8, 74) :: (74, 2, 76) :: (74, 1, 75) :: (55, 7, 71) :: (71, 2, 73) :: (71, 1, 72) :: (55, 5, 65) :: (65, 8, 70) :: (65, 7, 69) :: (65, 6, 68) :: (65, 5, 67) :: (65, 4, 66) :: (55, 4, 63) :: (63, 1, 64) :: (55, 1, 62) :: (55, 0, 56) :: (56, 5, 61) :: (56, 4, 60) :: (56, 3, 59) :: (56, 2, 58) :: (56, 1, 57) :: (32, 0, 33) :: (33, 8, 52) :: (52, 2, 54) :: (52, 1, 53) :: (33, 7, 49) :: (49, 2, 51) :: (49, 1, 50) :: (33, 5, 43) :: (43, 8, 48) :: (43, 7, 47) :: (43, 6, 46) :: (43, 5, 45) :: (43, 4, 44) :: (33, 4, 41) :: (41, 1, 42) :: (33, 1, 40) :: (33, 0, 34) :: (34, 5, 39) :: (34, 4, 38) :: (34, 3, 37) :: (34, 2, 36) :: (34, 1, 35) :: l) m) := by
  obtain ⟨d, rfl⟩ : ∃ e, d = e + 1 := ⟨d - 1, by omega⟩
  refine r_entry mx63 rfl ?_
  refine r_loadA a63_0 rfl (by decide) ?_
  refine k_obj a63_1 (by omega) (by decide) (Nat.le_of_ble_eq_true rfl) ?_
  refine r_loadA a63_4 rfl (by decide) ?_
  refine k_new (n' := 2) (sl' := 19) (o := 33) a63_5 rfl rfl ty33 rfl ?_
  refine r_dup a63_8 rfl ?_
  refine r_callH a63_9 (as := [vR 33]) (rest := [vR 33, vR 32]) rfl rfl (Nat.le_of_ble_eq_true rfl) (le_mx mx14 (Nat.le_of_ble_eq_true rfl)) (Or.inr (k_recv ty33 (by decide) ow14 (by decide))) (K_6 _ _ _ (by omega)) (fun r X hq => ?_)
  obtain ⟨rfl, rfl⟩ := hq
  refine k_putR a63_12 ty32 (by decide) (by decide) ?_
  refine r_loadA a63_15 rfl (by decide) ?_
  refine k_new (n' := 24) (sl' := 388) (o := 55) a63_16 rfl rfl ty55 rfl ?_
  refine r_dup a63_19 rfl ?_
  refine r_callH a63_20 (as := [vR 55]) (rest := [vR 55, vR 32]) rfl rfl (Nat.le_of_ble_eq_true rfl) (le_mx mx14 (Nat.le_of_ble_eq_true rfl)) (Or.inr (k_recv ty55 (by decide) ow14 (by decide))) (K_12 _ _ _ (by omega)) (fun r X hq => ?_)
  obtain ⟨rfl, rfl⟩ := hq
  refine k_putR a63_23 ty32 (by decide) (by decide) ?_
  refine r_loadA a63_26 rfl (by decide) ?_
  refine k_new (n' := 46) (sl' := 752) (o := 77) a63_27 rfl rfl ty77 rfl ?_
  refine r_dup a63_30 rfl ?_
  refine r_callH a63_31 (as := [vR 77]) (rest := [vR 77, vR 32]) rfl rfl (Nat.le_of_ble_eq_true rfl) (le_mx mx43 (Nat.le_of_ble_eq_true rfl)) (Or.inr (k_recv ty77 (by decide) ow43 (by decide))) (K_14 _ _ _ (by omega)) (fun r X hq => ?_)
  obtain ⟨rfl, rfl⟩ := hq
  refine k_putR a63_34 ty32 (by decide) (by decide) ?_
  refine r_loadA a63_37 rfl (by decide) ?_
  refine k_new (n' := 54) (sl' := 924) (o := 85) a63_38 rfl rfl ty85 rfl ?_
  refine r_dup a63_41 rfl ?_
  refine r_callH a63_42 (as := [vR 85]) (rest := [vR 85, vR 32]) rfl rfl (Nat.le_of_ble_eq_true rfl) (le_mx mx24 (Nat.le_of_ble_eq_true rfl)) (Or.inr (k_recv ty85 (by decide) ow24 (by decide))) (K_15 _ _ _ (by omega)) (fun r X hq => ?_)
  obtain ⟨rfl, rfl⟩ := hq
  refine k_putR a63_45 ty32 (by decide) (by decide) ?_
  refine r_loadA a63_48 rfl (by decide) ?_
  refine k_new (n' := 67) (sl' := 1775) (o := 98) a63_49 rfl rfl ty98 rfl ?_
  refine r_dup a63_52 rfl ?_
  refine r_callH a63_53 (as := [vR 98]) (rest := [vR 98, vR 32]) rfl rfl (Nat.le_of_ble_eq_true rfl) (le_mx mx24 (Nat.le_of_ble_eq_true rfl)) (Or.inr (k_recv ty98 (by decide) ow24 (by decide))) (K_16 _ _ _ (by omega)) (fun r X hq => ?_)
  obtain ⟨rfl, rfl⟩ := hq
  refine k_putR a63_56 ty32 (by decide) (by decide) ?_
  refine r_loadA a63_59 rfl (by decide) ?_
  refine k_new (n' := 80) (sl' := 2613) (o := 111) a63_60 rfl rfl ty111 rfl ?_
  refine r_dup a63_63 rfl ?_
  refine r_callH a63_64 (as := [vR 111]) (rest := [vR 111, vR 32]) rfl rfl (Nat.le_of_ble_eq_true rfl) (le_mx mx57 (Nat.le_of_ble_eq_true rfl)) (Or.inr (k_recv ty111 (by decide) ow57 (by decide))) (K_17 _ _ _ (by omega)) (fun r X hq => ?_)
  obtain ⟨rfl, rfl⟩ := hq
  refine k_putR a63_67 ty32 (by decide) (by decide) ?_
  refine r_loadA a63_70 rfl (by decide) ?_
  refine k_new (n' := 83) (sl' := 2631) (o := 114) a63_71 rfl rfl ty114 rfl ?_
  refine r_dup a63_74 rfl ?_
  refine r_callH a63_75 (as := [vR 114]) (rest := [vR 114, vR 32]) rfl rfl (Nat.le_of_ble_eq_true rfl) (le_mx mx16 (Nat.le_of_ble_eq_true rfl)) (Or.inr (k_recv ty114 (by decide) ow16 (by decide))) (K_18 _ _ _ (by omega)) (fun r X hq => ?_)
  obtain ⟨rfl, rfl⟩ := hq
  refine k_putR a63_78 ty32 (by decide) (by decide) ?_
  refine r_loadA a63_81 rfl (by decide) ?_
  refine k_new (n' := 87) (sl' := 2657) (o := 118) a63_82 rfl rfl ty118 rfl ?_
  refine r_dup a63_85 rfl ?_
  refine r_callH a63_86 (as := [vR 118]) (rest := [vR 118, vR 32]) rfl rfl (Nat.le_of_ble_eq_true rfl) (le_mx mx0 (Nat.le_of_ble_eq_true rfl)) (Or.inr (k_recv ty118 (by decide) ow0 (by decide))) (K_19 _ _ _ (by omega)) (fun r X hq => ?_)
  obtain ⟨rfl, rfl⟩ := hq
  refine k_putR a63_89 ty32 (by decide) (by decide) ?_
  refine r_loadA a63_92 rfl (by decide) ?_
  refine r_pushI a63_93 ?_
  refine k_newA (n' := 89) (sl' := 2682) (o := 120) a63_94 (by decide) rfl rfl ty120 rfl ?_
  refine k_putR a63_96 ty32 (by decide) (by decide) ?_
  exact r_retV a63_99 ⟨rfl, rfl⟩
theorem K_21 (d : Nat) (l : List (Nat × Nat × Nat)) (m : XM) (hd : 1 ≤ d) : KV d 118 [vR 121] (kH 90 2729 l m) (kH 109 6738 ((121, 42, 140) :: (121, 41, 139) :: (121, 40, 138) :: (121, 39, 137) :: (121, 33, 136) :: (121, 32, 135) :: (121, 27, 134) :: (121, 26, 133) :: (121, 25, 132) :: (121, 21, 131) :: (121, 20, 130) :: (121, 19, 129) :: (121, 18, 128) :: (121, 17, 127) :: (121, 13, 126) :: (121, 10, 125) :: (121, 9, 124) :: (121, 2, 123) :: (121, 1, 122) :: l) (up2 m 122 6 (-1))) := by
  refine r_entry mx118 rfl ?_
  refine r_loadA a118_0 rfl (by decide) ?_
  refine k_obj a118_1 (by omega) (by decide) (Nat.le_of_ble_eq_true rfl) ?_
  refine r_loadA a118_4 rfl (by decide) ?_
  refine r_pushI a118_5 ?_
  refine k_newA (n' := 91) (sl' := 3643) (o := 122) a118_8 (by decide) rfl rfl ty122 rfl ?_
  refine k_putR a118_10 ty121 (by decide) (by decide) ?_
  refine r_loadA a118_13 rfl (by decide) ?_
  refine r_pushI a118_14 ?_
  refine k_newA (n' := 92) (sl' := 4557) (o := 123) a118_17 (by decide) rfl rfl ty123 rfl ?_
  refine k_putR a118_19 ty121 (by decide) (by decide) ?_
  refine r_loadA a118_22 rfl (by decide) ?_
  refine r_pushI a118_23 ?_
  refine k_newA (n' := 93) (sl' := 4563) (o := 124) a118_25 (by decide) rfl rfl ty124 rfl ?_
  refine k_putR a118_27 ty121 (by decide) (by decide) ?_
  refine r_loadA a118_30 rfl (by decide) ?_
  refine r_pushI a118_31 ?_
  refine k_newA (n' := 94) (sl' := 4627) (o := 125) a118_33 (by decide) rfl rfl ty125 rfl ?_
  refine k_putR a118_35 ty121 (by decide) (by decide) ?_
  refine r_loadA a118_38 rfl (by decide) ?_
  refine r_pushI a118_39 ?_
  refine k_newA (n' := 95) (sl' := 4634) (o := 126) a118_41 (by decide) rfl rfl ty126 rfl ?_
  refine k_putR a118_43 ty121 (by decide) (by decide) ?_
  refine r_loadA a118_46 rfl (by decide) ?_
  refine r_pushI a118_47 ?_
  refine k_newA (n' := 96) (sl' := 5334) (o := 127) a118_50 (by decide) rfl rfl ty127 rfl ?_
  refine k_putR a118_52 ty121 (by decide) (by decide) ?_
  refine r_loadA a118_55 rfl (by decide) ?_
  refine r_pushI a118_56 ?_
  refine k_newA (n' := 97) (sl' := 6034) (o := 128) a118_59 (by decide) rfl rfl ty128 rfl ?_
  refine k_putR a118_61 ty121 (by decide) (by decide) ?_
  refine r_loadA a118_64 rfl (by decide) ?_
  refine r_pushI a118_65 ?_
  refine k_newA (n' := 98) (sl' := 6244) (o := 129) a118_68 (by decide) rfl rfl ty129 rfl ?_
  refine k_putR a118_70 ty121 (by decide) (by decide) ?_
  refine r_loadA a118_73 rfl (by decide) ?_
  refine r_pushI a118_74 ?_
  refine k_newA (n' := 99) (sl' := 6454) (o := 130) a118_77 (by decide) rfl rfl ty130 rfl ?_
  refine k_putR a118_79 ty121 (by decide) (by decide) ?_
  refine r_loadA a118_82 rfl (by decide) ?_
  refine r_pushI a118_83 ?_
  refine k_newA (n' := 100) (sl' := 6664) (o := 131) a118_86 (by decide) rfl rfl ty131 rfl ?_
  refine k_putR a118_88 ty121 (by decide) (by decide) ?_
  refine r_loadA a118_91 rfl (by decide) ?_
  refine r_pushI a118_92 ?_
  refine k_newA (n' := 101) (sl' := 6671) (o := 132) a118_94 (by decide) rfl rfl ty132 rfl ?_
  refine k_putR a118_96 ty121 (by decide) (by decide) ?_
  refine r_loadA a118_99 rfl (by decide) ?_
  refine r_pushI a118_100 ?_
  refine k_newA (n' := 102) (sl' := 6678) (o := 133) a118_102 (by decide) rfl rfl ty133 rfl ?_
  refine k_putR a118_104 ty121 (by decide) (by decide) ?_
  refine r_loadA a118_107 rfl (by decide) ?_
  refine r_pushI a118_108 ?_
  refine k_newA (n' := 103) (sl' := 6685) (o := 134) a118_110 (by decide) rfl rfl ty134 rfl ?_
  refine k_putR a118_112 ty121 (by decide) (by decide) ?_
  refine r_loadA a118_115 rfl (by decide) ?_
  refine r_pushI a118_116 ?_
  refine k_newA (n' := 104) (sl' := 6692) (o := 135) a118_118 (by decide) rfl rfl ty135 rfl ?_
  refine k_putR a118_120 ty121 (by decide) (by decide) ?_
  refine r_loadA a118_123 rfl (by decide) ?_
  refine r_pushI a118_124 ?_
  refine k_newA (n' := 105) (sl' := 6699) (o := 136) a118_126 (by decide) rfl rfl ty136 rfl ?_
  refine k_putR a118_128 ty121 (by decide) (by decide) ?_
  refine r_loadA a118_131 rfl (by decide) ?_
  refine r_pushI a118_132 ?_
  refine k_newA (n' := 106) (sl' := 6706) (o := 137) a118_134 (by decide) rfl rfl ty137 rfl ?_
  refine k_putR a118_136 ty121 (by decide) (by decide) ?_
  refine r_loadA a118_139 rfl (by decide) ?_
  refine r_pushI a118_140 ?_
  refine k_newA (n' := 107) (sl' := 6713) (o := 138) a118_142 (by decide) rfl rfl ty138 rfl ?_
  refine k_putR a118_144 ty121 (by decide) (by decide) ?_
  refine r_loadA a118_147 rfl (by decide) ?_
  refine r_pushI a118_148 ?_
  refine k_newA (n' := 108) (sl' := 6718) (o := 139) a118_149 (by decide) rfl rfl ty139 rfl ?_
  refine k_putR a118_151 ty121 (by decide) (by decide) ?_
  refine r_loadA a118_154 rfl (by decide) ?_
  refine r_pushI a118_155 ?_
  refine k_newA (n' := 109) (sl' := 6738) (o := 140) a118_157 (by decide) rfl rfl ty140 rfl ?_
  refine k_putR a118_159 ty121 (by decide) (by decide) ?_
  refine r_loadA a118_162 rfl (by decide) ?_
  refine k_getR (q := 122) a118_163 ty121 (by decide) rfl (by decide) ?_
  refine r_pushI a118_166 ?_
  refine r_pushI a118_168 ?_
  refine k_iast a118_169 ty122 (by decide) (by decide) ?_
  exact r_retV a118_170 ⟨rfl, rfl⟩
def kRL : List (Nat × Nat × Nat) := [(121, 42, 140), (121, 41, 139), (121, 40, 138), (121, 39, 137), (121, 33, 136), (121, 32, 135), (121, 27, 134), (121, 26, 133), (121, 25, 132), (121, 21, 131), (121, 20, 130), (121, 19, 129), (121, 18, 128), (121, 17, 127), (121, 13, 126), (121, 10, 125), (121, 9, 124), (121, 2, 123), (121, 1, 122), (32, 9, 120), (32, 8, 118), (118, 1, 119), (32, 7, 114), (114, 2, 117), (114, 1, 116), (114, 0, 115), (32, 6, 111), (111, 2, 113), (111, 1, 112), (32, 5, 98), (98, 12, 110), (98, 11, 109), (98, 10, 108), (98, 9, 107), (98, 8, 106), (98, 7, 105), (98, 6, 104), (98, 5, 103), (98, 4, 102), (98, 3, 101), (98, 2, 100), (98, 1, 99), (32, 4, 85), (85, 12, 97), (85, 11, 96), (85, 10, 95), (85, 9, 94), (85, 8, 93), (85, 7, 92), (85, 6, 91), (85, 5, 90), (85, 4, 89), (85, 3, 88), (85, 2, 87), (85, 1, 86), (32, 3, 77), (77, 3, 84), (77, 0, 78), (78, 8, 83), (78, 7, 82), (78, 6, 81), (78, 5, 80), (78, 4, 79), (32, 1, 55), (55, 8, 74), (74, 2, 76), (74, 1, 75), (55, 7, 71), (71, 2, 73), (71, 1, 72), (55, 5, 65), (65, 8, 70), (65, 7, 69), (65, 6, 68), (65, 5, 67), (65, 4, 66), (55, 4, 63), (63, 1, 64), (55, 1, 62), (55, 0, 56), (56, 5, 61), (56, 4, 60), (56, 3, 59), (56, 2, 58), (56, 1, 57), (32, 0, 33), (33, 8, 52), (52, 2, 54), (52, 1, 53), (33, 7, 49), (49, 2, 51), (49, 1, 50), (33, 5, 43), (43, 8, 48), (43, 7, 47), (43, 6, 46), (43, 5, 45), (43, 4, 44), (33, 4, 41), (41, 1, 42), (33, 1, 40), (33, 0, 34), (34, 5, 39), (34, 4, 38), (34, 3, 37), (34, 2, 36), (34, 1, 35)]
def kLen (o : Nat) : Nat := if o < 32 then 0 else if o = 77 then 4 else ((zRFL[o - 32]?).getD []).length
theorem kRF_far : ∀ (l : List (Nat × Nat × Nat)), (∀ q ∈ l, q.2.1 < kLen q.1) → ∀ o k, kLen o ≤ k → kRF l o k = 0
  | [], _, _, _, _ => rfl
  | (a, b, q) :: l, h, o, k, hn => by
    have h1 : b < kLen a := h _ (List.mem_cons_self)
    have ih := kRF_far l (fun q hq => h q (List.mem_cons_of_mem _ hq))
    show (if o = a then (if k = b then q else kRF l a k) else kRF l o k) = 0
    by_cases e : o = a
    · rw [if_pos e]
      subst e
      rw [if_neg (by omega)]
      exact ih o k hn
    · rw [if_neg e]; exact ih o k hn
theorem zRF_far (o k : Nat) (h : kLen o ≤ k) : zRF 84 o k = 0 := by
  unfold kLen at h
  unfold zRF
  by_cases e2 : o < 32
  · rw [if_neg (by omega), if_pos e2]
  · rw [if_neg e2] at h
    by_cases e : o = 77
    · rw [if_pos e] at h
      rw [if_pos e, if_neg (by omega), if_neg (by omega)]
    · rw [if_neg e] at h
      rw [if_neg e, if_neg e2, List.getElem?_eq_none h]; rfl
theorem kLen_far (o : Nat) (h : 141 ≤ o) : kLen o = 0 := by
  unfold kLen
  have e4 : zRFL[o - 32]? = none := List.getElem?_eq_none (by show 109 ≤ o - 32; omega)
  rw [if_neg (by omega), if_neg (by omega), e4]; rfl
theorem kRL_ok : (List.range 141).all (fun o => (List.range (kLen o)).all (fun k => kRF kRL o k == zRF 84 o k)) = true := by decide +kernel
theorem kRL_in : kRL.all (fun q => decide (q.2.1 < kLen q.1)) = true := by decide +kernel
theorem kRF_end : kRF kRL = zRF 84 := by
  funext o k
  by_cases h : k < kLen o
  · have ho : o < 141 := by
      by_cases q : o < 141
      · exact q
      · rw [kLen_far o (by omega)] at h; omega
    have h1 := List.all_eq_true.mp kRL_ok o (List.mem_range.mpr ho)
    have h2 := List.all_eq_true.mp h1 k (List.mem_range.mpr h)
    exact beq_iff_eq.mp h2
  · rw [kRF_far kRL (fun q hq => of_decide_eq_true (List.all_eq_true.mp kRL_in q hq)) o k (by omega), zRF_far o k (by omega)]
theorem kTY_end : kTY 109 = zTY := by
  funext c
  unfold kTY
  by_cases h : c < 32 + 109
  · rw [if_pos h]
  · rw [if_neg h]
    unfold zTY
    rw [if_neg (by omega), List.getElem?_eq_none (by show 109 ≤ c - 32; omega)]; rfl
theorem kTY_0 : (fun _ => (0, 0)) = kTY 0 := by
  funext c
  unfold kTY zTY
  by_cases h : c < 32 + 0
  · rw [if_pos h, if_pos h]
  · rw [if_neg h]
theorem kH_end (m : XM) : kH 109 6738 kRL m = zH 84 m := by
  show (109, 6738, kTY 109, kRF kRL, m) = (109, 6738, zTY, zRF 84, m)
  rw [kTY_end, kRF_end]
def m00 (L : Nat) (f : Int → Int) : XM := fun c k => if c = 1 then (if k = -1 then (L : Int) else if 0 ≤ k then f k else 0) else 0
theorem h0_k (L : Nat) (f : Int → Int) : h0 L f = kH 0 0 [] (m00 L f) := by
  show (0, 0, (fun _ => (0, 0)), (fun _ _ => 0), m00 L f) = (0, 0, kTY 0, kRF [], m00 L f)
  rw [kTY_0]; rfl
theorem law_start (d : Nat) (hd : 5 ≤ d) (L : Nat) (f : Int → Int) (Q : Option XV → XH → Prop) (go : RZ (d + 1) k_La_law 18 [vR 1, vR 32, vR 121, vI 0] [] (zH 84 (up2 (m00 L f) 122 6 (-1))) Q) : RZ (d + 1) k_La_law 0 (entryL k_La_law [vR 1]) [] (h0 L f) Q := by
  rw [h0_k]
  refine r_entry mx221 rfl ?_
  refine k_new (n' := 1) (sl' := 10) (o := 32) a221_0 rfl rfl ty32 rfl ?_
  refine r_dup a221_3 rfl ?_
  refine r_callH a221_4 (as := [vR 32]) (rest := [vR 32]) rfl rfl (Nat.le_of_ble_eq_true rfl) (le_mx mx63 (Nat.le_of_ble_eq_true rfl)) (Or.inr (k_recv ty32 (by decide) ow63 (by decide))) (K_20 _ _ _ (by omega)) (fun r X hq => ?_)
  obtain ⟨rfl, rfl⟩ := hq
  refine r_storeA_1 a221_7 rfl (by decide) ?_
  refine k_new (n' := 90) (sl' := 2729) (o := 121) a221_8 rfl rfl ty121 rfl ?_
  refine r_dup a221_11 rfl ?_
  refine r_callH a221_12 (as := [vR 121]) (rest := [vR 121]) rfl rfl (Nat.le_of_ble_eq_true rfl) (le_mx mx118 (Nat.le_of_ble_eq_true rfl)) (Or.inr (k_recv ty121 (by decide) ow118 (by decide))) (K_21 _ _ _ (by omega)) (fun r X hq => ?_)
  obtain ⟨rfl, rfl⟩ := hq
  refine r_storeA_2 a221_15 rfl (by decide) ?_
  refine r_pushI a221_16 ?_
  refine r_storeI_3 a221_17 rfl ?_
  have e := kH_end (up2 (m00 L f) 122 6 (-1))
  rw [← e] at go
  exact go
