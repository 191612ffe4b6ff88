-- ===== a pass, by definition =====
def clI (n hi : Int) : Int := if n < 0 then 0 else if hi < n then hi else n
def psP (kd p : Int) : Int := if (kd = 3 ∨ kd = 6) ∧ p < 9 then p + 1 else p
def psO (kd tg sk ice p c : Int) : Int := clI (psP kd p + tg + ice - 3 * c - sk - 4) 20
def psT (kd ru wx p c o : Int) : Int := if (if kd = 4 then 90 - 8 * psP kd p else 60 - 4 * psP kd p) + 5 * c + 3 * o + ru - wx < 1 then 1 else (if kd = 4 then 90 - 8 * psP kd p else 60 - 4 * psP kd p) + 5 * c + 3 * o + ru - wx
def psB (kd tg p c o : Int) : Int := clI (psP kd p + (if kd = 1 ∨ kd = 4 then 3 else 1) + (if c = 2 then 1 else 0) - tg / 3 - o) 9
def tgV (kd t v fog sk : Int) : Int := t + (if kd = 2 ∨ kd = 5 then 2 else 0) + (if kd = 5 ∧ sk < fog then v else 0)
def ruV (kd rut n row : Int) : Int := (if rut = 0 then 0 else n / rut) + (if kd = 6 then row else 0)
theorem clI_r (n hi : Int) (h : 0 ≤ hi) : 0 ≤ clI n hi ∧ clI n hi ≤ hi := by unfold clI; (repeat' split) <;> omega
theorem psP_r {kd p : Int} (h : 0 ≤ p ∧ p < 10) : 0 ≤ psP kd p ∧ psP kd p ≤ 9 := by unfold psP; split <;> omega
theorem psT_r {kd ru wx p c o : Int} (hp : 0 ≤ p ∧ p < 10) (hc : 0 ≤ c ∧ c < 3) (ho : 0 ≤ o ∧ o ≤ 20) (hr : 0 ≤ ru ∧ ru ≤ 20000) (hw : 0 ≤ wx ∧ wx ≤ 1000) : 1 ≤ psT kd ru wx p c o ∧ psT kd ru wx p c o ≤ 21000 := by
  have := psP_r (kd := kd) hp
  unfold psT; (repeat' split) <;> omega
/-- a row is filled from lo on up to t -/
def fil (f : Int → Int) (lo t : Int) (h : Int → Int) : Int → Int := fun j => if lo ≤ j ∧ j < t then f j else h j
theorem fil_s {f : Int → Int} {lo t v : Int} {h : Int → Int} (hl : lo ≤ t) (hv : v = f t) : upi (fil f lo t h) t v = fil f lo (t + 1) h := by
  funext j; rw [upi_at]; unfold fil
  by_cases q : j = t
  · rw [if_pos q, if_pos (by omega), hv, q]
  · rw [if_neg q]
    by_cases q2 : lo ≤ j ∧ j < t
    · rw [if_pos q2, if_pos (by omega)]
    · rw [if_neg q2, if_neg (by omega)]
theorem fil_0 (f : Int → Int) (lo : Int) (h : Int → Int) : fil f lo lo h = h := by
  funext j; unfold fil; rw [if_neg (by omega)]
theorem fil_in {f : Int → Int} {lo t j : Int} {h : Int → Int} (hj : lo ≤ j ∧ j < t) : fil f lo t h j = f j := if_pos hj
theorem fil_out {f : Int → Int} {lo t j : Int} {h : Int → Int} (hj : ¬ (lo ≤ j ∧ j < t)) : fil f lo t h j = h j := if_neg hj
def fO (kd tg sk g : Int) (ice : Int → Int) : Int → Int := fun j => psO kd tg sk (ice ((j - 30 * g) / 3)) ((j - 30 * g) / 3) ((j - 30 * g) % 3)
def fT (kd tg sk ru g : Int) (ice wx : Int → Int) : Int → Int := fun j => psT kd ru (wx ((j - 30 * g) / 3)) ((j - 30 * g) / 3) ((j - 30 * g) % 3) (fO kd tg sk g ice j)
def fB (kd tg sk g : Int) (ice : Int → Int) : Int → Int := fun j => psB kd tg ((j - 30 * g) / 3) ((j - 30 * g) % 3) (fO kd tg sk g ice j)
theorem fO_at (kd tg sk g : Int) (ice : Int → Int) (p c : Int) (hc : 0 ≤ c ∧ c < 3) : fO kd tg sk g ice (30 * g + 3 * p + c) = psO kd tg sk (ice p) p c := by
  unfold fO
  have e1 : (30 * g + 3 * p + c - 30 * g) / 3 = p := by omega
  have e2 : (30 * g + 3 * p + c - 30 * g) % 3 = c := by omega
  rw [e1, e2]
theorem fT_at (kd tg sk ru g : Int) (ice wx : Int → Int) (p c : Int) (hc : 0 ≤ c ∧ c < 3) : fT kd tg sk ru g ice wx (30 * g + 3 * p + c) = psT kd ru (wx p) p c (psO kd tg sk (ice p) p c) := by
  unfold fT
  rw [fO_at _ _ _ _ _ _ _ hc]
  have e1 : (30 * g + 3 * p + c - 30 * g) / 3 = p := by omega
  have e2 : (30 * g + 3 * p + c - 30 * g) % 3 = c := by omega
  rw [e1, e2]
theorem fB_at (kd tg sk g : Int) (ice : Int → Int) (p c : Int) (hc : 0 ≤ c ∧ c < 3) : fB kd tg sk g ice (30 * g + 3 * p + c) = psB kd tg p c (psO kd tg sk (ice p) p c) := by
  unfold fB
  rw [fO_at _ _ _ _ _ _ _ hc]
  have e1 : (30 * g + 3 * p + c - 30 * g) / 3 = p := by omega
  have e2 : (30 * g + 3 * p + c - 30 * g) % 3 = c := by omega
  rw [e1, e2]
/-- three rows filled up to t -/
def up3 (m : XM) (a b c : Nat) (f g h : Int → Int) : XM := fun x => if x = a then f else if x = b then g else if x = c then h else m x
theorem up3_n {m : XM} {a b c x : Nat} {f g h : Int → Int} (h1 : x ≠ a) (h2 : x ≠ b) (h3 : x ≠ c) : up3 m a b c f g h x = m x := by
  unfold up3; rw [if_neg h1, if_neg h2, if_neg h3]
theorem up3_s {m : XM} {a b c : Nat} {f g h : Int → Int} {k v1 v2 v3 : Int} (ab : a ≠ b) (ac : a ≠ c) (bc : b ≠ c) :
    up2 (up2 (up2 (up3 m a b c f g h) a k v1) b k v2) c k v3 = up3 m a b c (upi f k v1) (upi g k v2) (upi h k v3) := by
  funext x
  by_cases x1 : x = a <;> by_cases x2 : x = b <;> by_cases x3 : x = c <;> simp_all [up2, up3]
theorem up3_id (m : XM) (a b c : Nat) : up3 m a b c (m a) (m b) (m c) = m := by
  funext x; unfold up3
  by_cases x1 : x = a
  · rw [if_pos x1, x1]
  · rw [if_neg x1]
    by_cases x2 : x = b
    · rw [if_pos x2, x2]
    · rw [if_neg x2]
      by_cases x3 : x = c
      · rw [if_pos x3, x3]
      · rw [if_neg x3]
def fgM (a b c i w f : Nat) (m : XM) (g tg sk ru t : Int) : XM :=
  up3 m a b c (fil (fO (m f 1) tg sk g (m i)) (30 * g) t (m a)) (fil (fT (m f 1) tg sk ru g (m i) (m w)) (30 * g) t (m b)) (fil (fB (m f 1) tg sk g (m i)) (30 * g) t (m c))
theorem fgM_0 (a b c i w f : Nat) (m : XM) (g tg sk ru : Int) : fgM a b c i w f m g tg sk ru (30 * g) = m := by
  unfold fgM; rw [fil_0, fil_0, fil_0, up3_id]
theorem fgM_n {a b c i w f x : Nat} {m : XM} {g tg sk ru t : Int} (h1 : x ≠ a) (h2 : x ≠ b) (h3 : x ≠ c) : fgM a b c i w f m g tg sk ru t x = m x := up3_n h1 h2 h3
theorem fgM_s {a b c i w f : Nat} {m : XM} {g tg sk ru p q v1 v2 v3 : Int} (ab : a ≠ b) (ac : a ≠ c) (bc : b ≠ c) (hp : 0 ≤ p) (hc : 0 ≤ q ∧ q < 3)
    (h1 : v1 = psO (m f 1) tg sk (m i p) p q) (h2 : v2 = psT (m f 1) ru (m w p) p q v1) (h3 : v3 = psB (m f 1) tg p q v1) :
    up2 (up2 (up2 (fgM a b c i w f m g tg sk ru (30 * g + 3 * p + q)) a (30 * g + 3 * p + q) v1) b (30 * g + 3 * p + q) v2) c (30 * g + 3 * p + q) v3 = fgM a b c i w f m g tg sk ru (30 * g + 3 * p + (q + 1)) := by
  unfold fgM
  rw [up3_s ab ac bc]
  have e : 30 * g + 3 * p + (q + 1) = 30 * g + 3 * p + q + 1 := by omega
  rw [e, fil_s (by omega) (by rw [fO_at _ _ _ _ _ _ _ hc]; exact h1), fil_s (by omega) (by rw [fT_at _ _ _ _ _ _ _ _ _ hc, ← h1]; exact h2), fil_s (by omega) (by rw [fB_at _ _ _ _ _ _ _ hc, ← h1]; exact h3)]
theorem c_Pa_fillGate_85 (d z : Nat) (m : XM) (g tg sk ru : Int) (hd : 3 ≤ d) (hg : 0 ≤ g ∧ g < 7) (hkd : 0 ≤ m 90 1 ∧ m 90 1 ≤ 6) (htg : 0 ≤ tg ∧ tg ≤ 20) (hsk : 0 ≤ sk ∧ sk ≤ 9) (hru : 0 ≤ ru ∧ ru ≤ 20000)
    (hi : ∀ p, 0 ≤ p → p < 10 → (0 ≤ m 91 p ∧ m 91 p ≤ 1000) ∧ 0 ≤ m 92 p ∧ m 92 p ≤ 1000) :
    CV d k_Pa_fillGate z m [vR 85, vI g, vI tg, vI sk, vI ru] (fun m' => m' = fgM 87 88 89 91 92 90 m g tg sk ru (30 * g + 30)) := by
  obtain ⟨dd, rfl⟩ : ∃ dd, d = dd + 1 := ⟨d - 1, by omega⟩
  generalize hkk : m 90 1 = kd at hkd
  have t45 : ∀ a b : Int, a = (if kd = 3 ∨ kd = 6 then 1 else 0) → b = (if kd = 1 ∨ kd = 4 then 3 else 1) →
      RZ (dd + 1) k_Pa_fillGate 45 [vR 85, vI g, vI tg, vI sk, vI ru, vI kd, vI a, vR 0, vR 0, vR 0, vR 0, vR 0, vR 0, vR 0] [vI b] (zH z m) (qz z (qv fun m' => m' = fgM 87 88 89 91 92 90 m g tg sk ru (30 * g + 30))) := by
    intro a b ha hb
    have ha2 : 0 ≤ a ∧ a ≤ 1 := by rw [ha]; split <;> omega
    have hb2 : 1 ≤ b ∧ b ≤ 3 := by rw [hb]; split <;> omega
    have outer : ∀ (n : Nat) (p : Int) (y9 y10 y11 y12 y13 : XV), 10 < p + n → 0 ≤ p → p ≤ 10 →
        RZ (dd + 1) k_Pa_fillGate 50 [vR 85, vI g, vI tg, vI sk, vI ru, vI kd, vI a, vI b, vI p, y9, y10, y11, y12, y13] [] (zH z (fgM 87 88 89 91 92 90 m g tg sk ru (30 * g + 3 * p))) (qz z (qv fun m' => m' = fgM 87 88 89 91 92 90 m g tg sk ru (30 * g + 30))) := by
      intro n
      induction n with
      | zero => intro p _ _ _ _ _ h1 h2 h3; exfalso; omega
      | succ n ih =>
        intro p y9 y10 y11 y12 y13 h1 h2 h3
        have inner : ∀ (n : Nat) (c pl : Int) (y12 y13 : XV), pl = (if kd = 4 then 90 - 8 * psP kd p else 60 - 4 * psP kd p) → p < 10 → 3 < c + n → 0 ≤ c → c ≤ 3 →
            RZ (dd + 1) k_Pa_fillGate 98 [vR 85, vI g, vI tg, vI sk, vI ru, vI kd, vI a, vI b, vI p, vI (psP kd p), vI pl, vI c, y12, y13] [] (zH z (fgM 87 88 89 91 92 90 m g tg sk ru (30 * g + 3 * p + c))) (qz z (qv fun m' => m' = fgM 87 88 89 91 92 90 m g tg sk ru (30 * g + 30))) := by
          intro n
          induction n with
          | zero => intro c pl _ _ _ _ h1 h2 h3; exfalso; omega
          | succ n ih2 =>
            intro c pl y12 y13 hpl hp10 c1 c2 c3
            have hPr := psP_r (kd := kd) (p := p) ⟨h2, hp10⟩
            obtain ⟨hi1, hi2⟩ := hi p h2 hp10
            have hplr : -100 ≤ pl ∧ pl ≤ 100 := by rw [hpl]; split <;> omega
            have t207 : ∀ o cc : Int, c < 3 → o = psO kd tg sk (m 91 p) p c → 0 ≤ o ∧ o ≤ 20 → cc = (if c = 2 then 1 else 0) → RZ (dd + 1) k_Pa_fillGate 207 [vR 85, vI g, vI tg, vI sk, vI ru, vI kd, vI a, vI b, vI p, vI (psP kd p), vI pl, vI c, vI (30 * g + 3 * p + c), vI o] [vI cc, vI (psP kd p + b), vI (30 * g + 3 * p + c), vR 89] (zH z (up2 (up2 (fgM 87 88 89 91 92 90 m g tg sk ru (30 * g + 3 * p + c)) 87 (30 * g + 3 * p + c) o) 88 (30 * g + 3 * p + c) (psT kd ru (m 92 p) p c o))) (qz z (qv fun m' => m' = fgM 87 88 89 91 92 90 m g tg sk ru (30 * g + 30))) := by
              intro o cc hc3 ho ho2 hcc
              have hcc2 : 0 ≤ cc ∧ cc ≤ 1 := by rw [hcc]; split <;> omega
              have q3 : 0 ≤ tg / 3 ∧ tg / 3 ≤ 7 := by omega
              refine r_add a30_207 (by omega) ?_
              refine r_loadI a30_208 rfl ?_
              refine r_pushI a30_209 ?_
              refine r_div a30_210 (by omega) ?_
              refine r_sub a30_211 (by omega) ?_
              refine r_loadI a30_212 rfl ?_
              refine r_sub a30_214 (by omega) ?_
              refine r_pushI a30_215 ?_
              refine r_callI_2 a30_217 (Nat.le_of_ble_eq_true rfl) (le_mx mx32 (Nat.le_of_ble_eq_true rfl)) (Or.inl rfl) (c_Pa_held dd z _ _ 9 (by omega) (by omega)) (fun x_217 m_217 h_217 => ?_)
              obtain ⟨hm_217, h_217⟩ := h_217
              rw [hm_217]
              have hB : x_217 = psB kd tg p c o := by unfold psB clI; rw [← hb, ← hcc]; (repeat' split) <;> omega
              refine r_iast a30_220 ty89 (by omega) ?_
              rw [fgM_s (v1 := o) (by decide) (by decide) (by decide) h2 ⟨c2, by omega⟩ (by rw [hkk]; exact ho) (by rw [hkk]) (by rw [hkk]; exact hB)]
              refine r_iinc_11 a30_221 rfl (by omega) ?_
              refine r_goto a30_224 ?_
              exact ih2 (c + 1) pl _ _ hpl hp10 (by omega) (by omega) (by omega)
            refine r_loadI a30_98 rfl ?_
            refine r_pushI a30_100 ?_
            refine r_icge a30_101 (fun h_101 => ?_) (fun h_101 => ?_)
            · refine r_iinc_8 a30_227 rfl (by omega) ?_
              refine r_goto a30_230 ?_
              have e : 30 * g + 3 * p + c = 30 * g + 3 * (p + 1) := by omega
              rw [e]
              exact ih (p + 1) _ _ _ _ _ (by omega) (by omega) (by omega)
            · refine r_loadI a30_104 rfl ?_
              refine r_loadI a30_105 rfl ?_
              refine r_loadI a30_107 rfl ?_
              refine r_callI_3 a30_109 (Nat.le_of_ble_eq_true rfl) (le_mx mx31 (Nat.le_of_ble_eq_true rfl)) (Or.inl rfl) (c_Pa_cell dd z (fgM 87 88 89 91 92 90 m g tg sk ru (30 * g + 3 * p + c)) g p c hg ⟨h2, hp10⟩ ⟨c2, by omega⟩) (fun x_109 m_109 h_109 => ?_)
              obtain ⟨hm_109, h_109⟩ := h_109
              rw [hm_109]
              have hx109 : x_109 = 30 * g + 3 * p + c := by omega
              rw [hx109]
              refine r_storeI_12 a30_112 rfl ?_
              refine r_loadI a30_114 rfl ?_
              refine r_loadI a30_116 rfl ?_
              refine r_add a30_117 (by omega) ?_
              refine r_loadA a30_118 rfl (by decide) ?_
              refine r_getR a30_119 ty85 rf85_6 (by decide) ?_
              refine r_loadI a30_122 rfl ?_
              refine r_iald a30_124 ty91 (by omega) ?_
              rw [fgM_n (by decide) (by decide) (by decide)]
              refine r_add a30_125 (by omega) ?_
              refine r_pushI a30_126 ?_
              refine r_loadI a30_127 rfl ?_
              refine r_mul a30_129 (by omega) ?_
              refine r_sub a30_130 (by omega) ?_
              refine r_loadI a30_131 rfl ?_
              refine r_sub a30_132 (by omega) ?_
              refine r_pushI a30_133 ?_
              refine r_sub a30_134 (by omega) ?_
              refine r_pushI a30_135 ?_
              refine r_callI_2 a30_137 (Nat.le_of_ble_eq_true rfl) (le_mx mx32 (Nat.le_of_ble_eq_true rfl)) (Or.inl rfl) (c_Pa_held dd z (fgM 87 88 89 91 92 90 m g tg sk ru (30 * g + 3 * p + c)) _ 20 (by omega) (by omega)) (fun x_137 m_137 h_137 => ?_)
              obtain ⟨hm_137, h_137⟩ := h_137
              rw [hm_137]
              have ho : x_137 = psO kd tg sk (m 91 p) p c := by unfold psO clI; (repeat' split) <;> omega
              have ho2 : 0 ≤ x_137 ∧ x_137 ≤ 20 := by omega
              refine r_storeI_13 a30_140 rfl ?_
              refine r_loadA a30_142 rfl (by decide) ?_
              refine r_getR a30_143 ty85 rf85_2 (by decide) ?_
              refine r_loadI a30_146 rfl ?_
              refine r_loadI a30_148 rfl ?_
              refine r_iast a30_150 ty87 (by omega) ?_
              refine r_loadA a30_151 rfl (by decide) ?_
              refine r_getR a30_152 ty85 rf85_3 (by decide) ?_
              refine r_loadI a30_155 rfl ?_
              refine r_pushI a30_157 ?_
              refine r_loadI a30_158 rfl ?_
              refine r_pushI a30_160 ?_
              refine r_loadI a30_161 rfl ?_
              refine r_mul a30_163 (by omega) ?_
              refine r_add a30_164 (by omega) ?_
              refine r_pushI a30_165 ?_
              refine r_loadI a30_166 rfl ?_
              refine r_mul a30_168 (by omega) ?_
              refine r_add a30_169 (by omega) ?_
              refine r_loadI a30_170 rfl ?_
              refine r_add a30_172 (by omega) ?_
              refine r_loadA a30_173 rfl (by decide) ?_
              refine r_getR a30_174 ty85 rf85_7 (by decide) ?_
              refine r_loadI a30_177 rfl ?_
              refine r_iald a30_179 ty92 (by omega) ?_
              rw [up2_c (by decide), fgM_n (by decide) (by decide) (by decide)]
              refine r_sub a30_180 (by omega) ?_
              refine r_maxI a30_181 (by omega) (Nat.le_of_ble_eq_true rfl) ?_
              have hT : iMax 1 (pl + 5 * c + 3 * x_137 + ru - m 92 p) = psT kd ru (m 92 p) p c x_137 := by
                unfold iMax psT; rw [← hpl]; (repeat' split) <;> omega
              rw [hT]
              refine r_iast a30_184 ty88 (by omega) ?_
              refine r_loadA a30_185 rfl (by decide) ?_
              refine r_getR a30_186 ty85 rf85_4 (by decide) ?_
              refine r_loadI a30_189 rfl ?_
              refine r_loadI a30_191 rfl ?_
              refine r_loadI a30_193 rfl ?_
              refine r_add a30_195 (by omega) ?_
              refine r_loadI a30_196 rfl ?_
              refine r_pushI a30_198 ?_
              refine r_icne a30_199 (fun h_199 => ?_) (fun h_199 => ?_)
              · refine r_pushI a30_206 ?_
                exact t207 _ _ (by omega) ho ho2 (by first | rw [if_pos (by omega)] | rw [if_neg (by omega)])
              · refine r_pushI a30_202 ?_
                refine r_goto a30_203 ?_
                exact t207 _ _ (by omega) ho ho2 (by first | rw [if_pos (by omega)] | rw [if_neg (by omega)])
        refine r_loadI a30_50 rfl ?_
        refine r_pushI a30_52 ?_
        refine r_icge a30_54 (fun h_54 => ?_) (fun h_54 => ?_)
        · obtain rfl : p = 10 := by omega
          refine r_retVq a30_233 ?_
          rfl
        · refine r_loadI a30_57 rfl ?_
          refine r_loadI a30_59 rfl ?_
          refine r_add a30_61 (by omega) ?_
          refine r_pushI a30_62 ?_
          refine r_minI a30_64 (by omega) (Nat.le_of_ble_eq_true rfl) ?_
          have hp9 : iMin (p + a) 9 = psP kd p := by unfold iMin psP; rw [ha]; (repeat' split) <;> omega
          rw [hp9]
          have hPr := psP_r (kd := kd) (p := p) ⟨h2, by omega⟩
          refine r_storeI_9 a30_67 rfl ?_
          refine r_loadI a30_69 rfl ?_
          refine r_pushI a30_71 ?_
          refine r_icne a30_72 (fun h_72 => ?_) (fun h_72 => ?_)
          · refine r_pushI a30_86 ?_
            refine r_pushI a30_88 ?_
            refine r_loadI a30_89 rfl ?_
            refine r_mul a30_91 (by omega) ?_
            refine r_sub a30_92 (by omega) ?_
            refine r_storeI_10 a30_93 rfl ?_
            refine r_pushI a30_95 ?_
            refine r_storeI_11 a30_96 rfl ?_
            have e : 30 * g + 3 * p = 30 * g + 3 * p + 0 := by omega
            rw [e]
            exact inner 4 0 _ _ _ (by first | rw [if_pos (by omega)] | rw [if_neg (by omega)]) (by omega) (by omega) (by omega) (by omega)
          · refine r_pushI a30_75 ?_
            refine r_pushI a30_77 ?_
            refine r_loadI a30_79 rfl ?_
            refine r_mul a30_81 (by omega) ?_
            refine r_sub a30_82 (by omega) ?_
            refine r_goto a30_83 ?_
            refine r_storeI_10 a30_93 rfl ?_
            refine r_pushI a30_95 ?_
            refine r_storeI_11 a30_96 rfl ?_
            have e : 30 * g + 3 * p = 30 * g + 3 * p + 0 := by omega
            rw [e]
            exact inner 4 0 _ _ _ (by first | rw [if_pos (by omega)] | rw [if_neg (by omega)]) (by omega) (by omega) (by omega) (by omega)
    refine r_storeI_7 a30_45 rfl ?_
    refine r_pushI a30_47 ?_
    refine r_storeI_8 a30_48 rfl ?_
    have e : zH z m = zH z (fgM 87 88 89 91 92 90 m g tg sk ru (30 * g + 3 * 0)) := by
      have : 30 * g + 3 * 0 = 30 * g := by omega
      rw [this, fgM_0]
    rw [e]
    exact outer 11 0 _ _ _ _ _ (by omega) (by omega) (by omega)
  refine r_entry mx30 rfl ?_
  refine r_loadA a30_0 rfl (by decide) ?_
  refine r_getR a30_1 ty85 rf85_5 (by decide) ?_
  refine r_pushI a30_4 ?_
  refine r_iald a30_5 ty90 (by omega) ?_
  rw [hkk]
  refine r_storeI_5 a30_6 rfl ?_
  refine r_loadI a30_8 rfl ?_
  refine r_pushI a30_10 ?_
  refine r_iceq a30_11 (fun h_11 => ?_) (fun h_11 => ?_)
  · refine r_pushI a30_21 ?_
    refine r_goto a30_22 ?_
    refine r_storeI_6 a30_26 rfl ?_
    refine r_loadI a30_28 rfl ?_
    refine r_pushI a30_30 ?_
    refine r_iceq a30_31 (fun h_31 => ?_) (fun h_31 => ?_)
    · refine r_pushI a30_40 ?_
      refine r_goto a30_41 ?_
      exact t45 _ _ (by first | rw [if_pos (by omega)] | rw [if_neg (by omega)]) (by first | rw [if_pos (by omega)] | rw [if_neg (by omega)])
    · refine r_loadI a30_34 rfl ?_
      refine r_pushI a30_36 ?_
      refine r_icne a30_37 (fun h_37 => ?_) (fun h_37 => ?_)
      · refine r_pushI a30_44 ?_
        exact t45 _ _ (by first | rw [if_pos (by omega)] | rw [if_neg (by omega)]) (by first | rw [if_pos (by omega)] | rw [if_neg (by omega)])
      · refine r_pushI a30_40 ?_
        refine r_goto a30_41 ?_
        exact t45 _ _ (by first | rw [if_pos (by omega)] | rw [if_neg (by omega)]) (by first | rw [if_pos (by omega)] | rw [if_neg (by omega)])
  · refine r_loadI a30_14 rfl ?_
    refine r_pushI a30_16 ?_
    refine r_icne a30_18 (fun h_18 => ?_) (fun h_18 => ?_)
    · refine r_pushI a30_25 ?_
      refine r_storeI_6 a30_26 rfl ?_
      refine r_loadI a30_28 rfl ?_
      refine r_pushI a30_30 ?_
      refine r_iceq a30_31 (fun h_31 => ?_) (fun h_31 => ?_)
      · refine r_pushI a30_40 ?_
        refine r_goto a30_41 ?_
        exact t45 _ _ (by first | rw [if_pos (by omega)] | rw [if_neg (by omega)]) (by first | rw [if_pos (by omega)] | rw [if_neg (by omega)])
      · refine r_loadI a30_34 rfl ?_
        refine r_pushI a30_36 ?_
        refine r_icne a30_37 (fun h_37 => ?_) (fun h_37 => ?_)
        · refine r_pushI a30_44 ?_
          exact t45 _ _ (by first | rw [if_pos (by omega)] | rw [if_neg (by omega)]) (by first | rw [if_pos (by omega)] | rw [if_neg (by omega)])
        · refine r_pushI a30_40 ?_
          refine r_goto a30_41 ?_
          exact t45 _ _ (by first | rw [if_pos (by omega)] | rw [if_neg (by omega)]) (by first | rw [if_pos (by omega)] | rw [if_neg (by omega)])
    · refine r_pushI a30_21 ?_
      refine r_goto a30_22 ?_
      refine r_storeI_6 a30_26 rfl ?_
      refine r_loadI a30_28 rfl ?_
      refine r_pushI a30_30 ?_
      refine r_iceq a30_31 (fun h_31 => ?_) (fun h_31 => ?_)
      · refine r_pushI a30_40 ?_
        refine r_goto a30_41 ?_
        exact t45 _ _ (by first | rw [if_pos (by omega)] | rw [if_neg (by omega)]) (by first | rw [if_pos (by omega)] | rw [if_neg (by omega)])
      · refine r_loadI a30_34 rfl ?_
        refine r_pushI a30_36 ?_
        refine r_icne a30_37 (fun h_37 => ?_) (fun h_37 => ?_)
        · refine r_pushI a30_44 ?_
          exact t45 _ _ (by first | rw [if_pos (by omega)] | rw [if_neg (by omega)]) (by first | rw [if_pos (by omega)] | rw [if_neg (by omega)])
        · refine r_pushI a30_40 ?_
          refine r_goto a30_41 ?_
          exact t45 _ _ (by first | rw [if_pos (by omega)] | rw [if_neg (by omega)]) (by first | rw [if_pos (by omega)] | rw [if_neg (by omega)])
theorem c_Pa_fillGate_98 (d z : Nat) (m : XM) (g tg sk ru : Int) (hd : 3 ≤ d) (hg : 0 ≤ g ∧ g < 7) (hkd : 0 ≤ m 103 1 ∧ m 103 1 ≤ 6) (htg : 0 ≤ tg ∧ tg ≤ 20) (hsk : 0 ≤ sk ∧ sk ≤ 9) (hru : 0 ≤ ru ∧ ru ≤ 20000)
    (hi : ∀ p, 0 ≤ p → p < 10 → (0 ≤ m 104 p ∧ m 104 p ≤ 1000) ∧ 0 ≤ m 105 p ∧ m 105 p ≤ 1000) :
    CV d k_Pa_fillGate z m [vR 98, vI g, vI tg, vI sk, vI ru] (fun m' => m' = fgM 100 101 102 104 105 103 m g tg sk ru (30 * g + 30)) := by
  obtain ⟨dd, rfl⟩ : ∃ dd, d = dd + 1 := ⟨d - 1, by omega⟩
  generalize hkk : m 103 1 = kd at hkd
  have t45 : ∀ a b : Int, a = (if kd = 3 ∨ kd = 6 then 1 else 0) → b = (if kd = 1 ∨ kd = 4 then 3 else 1) →
      RZ (dd + 1) k_Pa_fillGate 45 [vR 98, vI g, vI tg, vI sk, vI ru, vI kd, vI a, vR 0, vR 0, vR 0, vR 0, vR 0, vR 0, vR 0] [vI b] (zH z m) (qz z (qv fun m' => m' = fgM 100 101 102 104 105 103 m g tg sk ru (30 * g + 30))) := by
    intro a b ha hb
    have ha2 : 0 ≤ a ∧ a ≤ 1 := by rw [ha]; split <;> omega
    have hb2 : 1 ≤ b ∧ b ≤ 3 := by rw [hb]; split <;> omega
    have outer : ∀ (n : Nat) (p : Int) (y9 y10 y11 y12 y13 : XV), 10 < p + n → 0 ≤ p → p ≤ 10 →
        RZ (dd + 1) k_Pa_fillGate 50 [vR 98, vI g, vI tg, vI sk, vI ru, vI kd, vI a, vI b, vI p, y9, y10, y11, y12, y13] [] (zH z (fgM 100 101 102 104 105 103 m g tg sk ru (30 * g + 3 * p))) (qz z (qv fun m' => m' = fgM 100 101 102 104 105 103 m g tg sk ru (30 * g + 30))) := by
      intro n
      induction n with
      | zero => intro p _ _ _ _ _ h1 h2 h3; exfalso; omega
      | succ n ih =>
        intro p y9 y10 y11 y12 y13 h1 h2 h3
        have inner : ∀ (n : Nat) (c pl : Int) (y12 y13 : XV), pl = (if kd = 4 then 90 - 8 * psP kd p else 60 - 4 * psP kd p) → p < 10 → 3 < c + n → 0 ≤ c → c ≤ 3 →
            RZ (dd + 1) k_Pa_fillGate 98 [vR 98, vI g, vI tg, vI sk, vI ru, vI kd, vI a, vI b, vI p, vI (psP kd p), vI pl, vI c, y12, y13] [] (zH z (fgM 100 101 102 104 105 103 m g tg sk ru (30 * g + 3 * p + c))) (qz z (qv fun m' => m' = fgM 100 101 102 104 105 103 m g tg sk ru (30 * g + 30))) := by
          intro n
          induction n with
          | zero => intro c pl _ _ _ _ h1 h2 h3; exfalso; omega
          | succ n ih2 =>
            intro c pl y12 y13 hpl hp10 c1 c2 c3
            have hPr := psP_r (kd := kd) (p := p) ⟨h2, hp10⟩
            obtain ⟨hi1, hi2⟩ := hi p h2 hp10
            have hplr : -100 ≤ pl ∧ pl ≤ 100 := by rw [hpl]; split <;> omega
            have t207 : ∀ o cc : Int, c < 3 → o = psO kd tg sk (m 104 p) p c → 0 ≤ o ∧ o ≤ 20 → cc = (if c = 2 then 1 else 0) → RZ (dd + 1) k_Pa_fillGate 207 [vR 98, vI g, vI tg, vI sk, vI ru, vI kd, vI a, vI b, vI p, vI (psP kd p), vI pl, vI c, vI (30 * g + 3 * p + c), vI o] [vI cc, vI (psP kd p + b), vI (30 * g + 3 * p + c), vR 102] (zH z (up2 (up2 (fgM 100 101 102 104 105 103 m g tg sk ru (30 * g + 3 * p + c)) 100 (30 * g + 3 * p + c) o) 101 (30 * g + 3 * p + c) (psT kd ru (m 105 p) p c o))) (qz z (qv fun m' => m' = fgM 100 101 102 104 105 103 m g tg sk ru (30 * g + 30))) := by
              intro o cc hc3 ho ho2 hcc
              have hcc2 : 0 ≤ cc ∧ cc ≤ 1 := by rw [hcc]; split <;> omega
              have q3 : 0 ≤ tg / 3 ∧ tg / 3 ≤ 7 := by omega
              refine r_add a30_207 (by omega) ?_
              refine r_loadI a30_208 rfl ?_
              refine r_pushI a30_209 ?_
              refine r_div a30_210 (by omega) ?_
              refine r_sub a30_211 (by omega) ?_
              refine r_loadI a30_212 rfl ?_
              refine r_sub a30_214 (by omega) ?_
              refine r_pushI a30_215 ?_
              refine r_callI_2 a30_217 (Nat.le_of_ble_eq_true rfl) (le_mx mx32 (Nat.le_of_ble_eq_true rfl)) (Or.inl rfl) (c_Pa_held dd z _ _ 9 (by omega) (by omega)) (fun x_217 m_217 h_217 => ?_)
              obtain ⟨hm_217, h_217⟩ := h_217
              rw [hm_217]
              have hB : x_217 = psB kd tg p c o := by unfold psB clI; rw [← hb, ← hcc]; (repeat' split) <;> omega
              refine r_iast a30_220 ty102 (by omega) ?_
              rw [fgM_s (v1 := o) (by decide) (by decide) (by decide) h2 ⟨c2, by omega⟩ (by rw [hkk]; exact ho) (by rw [hkk]) (by rw [hkk]; exact hB)]
              refine r_iinc_11 a30_221 rfl (by omega) ?_
              refine r_goto a30_224 ?_
              exact ih2 (c + 1) pl _ _ hpl hp10 (by omega) (by omega) (by omega)
            refine r_loadI a30_98 rfl ?_
            refine r_pushI a30_100 ?_
            refine r_icge a30_101 (fun h_101 => ?_) (fun h_101 => ?_)
            · refine r_iinc_8 a30_227 rfl (by omega) ?_
              refine r_goto a30_230 ?_
              have e : 30 * g + 3 * p + c = 30 * g + 3 * (p + 1) := by omega
              rw [e]
              exact ih (p + 1) _ _ _ _ _ (by omega) (by omega) (by omega)
            · refine r_loadI a30_104 rfl ?_
              refine r_loadI a30_105 rfl ?_
              refine r_loadI a30_107 rfl ?_
              refine r_callI_3 a30_109 (Nat.le_of_ble_eq_true rfl) (le_mx mx31 (Nat.le_of_ble_eq_true rfl)) (Or.inl rfl) (c_Pa_cell dd z (fgM 100 101 102 104 105 103 m g tg sk ru (30 * g + 3 * p + c)) g p c hg ⟨h2, hp10⟩ ⟨c2, by omega⟩) (fun x_109 m_109 h_109 => ?_)
              obtain ⟨hm_109, h_109⟩ := h_109
              rw [hm_109]
              have hx109 : x_109 = 30 * g + 3 * p + c := by omega
              rw [hx109]
              refine r_storeI_12 a30_112 rfl ?_
              refine r_loadI a30_114 rfl ?_
              refine r_loadI a30_116 rfl ?_
              refine r_add a30_117 (by omega) ?_
              refine r_loadA a30_118 rfl (by decide) ?_
              refine r_getR a30_119 ty98 rf98_6 (by decide) ?_
              refine r_loadI a30_122 rfl ?_
              refine r_iald a30_124 ty104 (by omega) ?_
              rw [fgM_n (by decide) (by decide) (by decide)]
              refine r_add a30_125 (by omega) ?_
              refine r_pushI a30_126 ?_
              refine r_loadI a30_127 rfl ?_
              refine r_mul a30_129 (by omega) ?_
              refine r_sub a30_130 (by omega) ?_
              refine r_loadI a30_131 rfl ?_
              refine r_sub a30_132 (by omega) ?_
              refine r_pushI a30_133 ?_
              refine r_sub a30_134 (by omega) ?_
              refine r_pushI a30_135 ?_
              refine r_callI_2 a30_137 (Nat.le_of_ble_eq_true rfl) (le_mx mx32 (Nat.le_of_ble_eq_true rfl)) (Or.inl rfl) (c_Pa_held dd z (fgM 100 101 102 104 105 103 m g tg sk ru (30 * g + 3 * p + c)) _ 20 (by omega) (by omega)) (fun x_137 m_137 h_137 => ?_)
              obtain ⟨hm_137, h_137⟩ := h_137
              rw [hm_137]
              have ho : x_137 = psO kd tg sk (m 104 p) p c := by unfold psO clI; (repeat' split) <;> omega
              have ho2 : 0 ≤ x_137 ∧ x_137 ≤ 20 := by omega
              refine r_storeI_13 a30_140 rfl ?_
              refine r_loadA a30_142 rfl (by decide) ?_
              refine r_getR a30_143 ty98 rf98_2 (by decide) ?_
              refine r_loadI a30_146 rfl ?_
              refine r_loadI a30_148 rfl ?_
              refine r_iast a30_150 ty100 (by omega) ?_
              refine r_loadA a30_151 rfl (by decide) ?_
              refine r_getR a30_152 ty98 rf98_3 (by decide) ?_
              refine r_loadI a30_155 rfl ?_
              refine r_pushI a30_157 ?_
              refine r_loadI a30_158 rfl ?_
              refine r_pushI a30_160 ?_
              refine r_loadI a30_161 rfl ?_
              refine r_mul a30_163 (by omega) ?_
              refine r_add a30_164 (by omega) ?_
              refine r_pushI a30_165 ?_
              refine r_loadI a30_166 rfl ?_
              refine r_mul a30_168 (by omega) ?_
              refine r_add a30_169 (by omega) ?_
              refine r_loadI a30_170 rfl ?_
              refine r_add a30_172 (by omega) ?_
              refine r_loadA a30_173 rfl (by decide) ?_
              refine r_getR a30_174 ty98 rf98_7 (by decide) ?_
              refine r_loadI a30_177 rfl ?_
              refine r_iald a30_179 ty105 (by omega) ?_
              rw [up2_c (by decide), fgM_n (by decide) (by decide) (by decide)]
              refine r_sub a30_180 (by omega) ?_
              refine r_maxI a30_181 (by omega) (Nat.le_of_ble_eq_true rfl) ?_
              have hT : iMax 1 (pl + 5 * c + 3 * x_137 + ru - m 105 p) = psT kd ru (m 105 p) p c x_137 := by
                unfold iMax psT; rw [← hpl]; (repeat' split) <;> omega
              rw [hT]
              refine r_iast a30_184 ty101 (by omega) ?_
              refine r_loadA a30_185 rfl (by decide) ?_
              refine r_getR a30_186 ty98 rf98_4 (by decide) ?_
              refine r_loadI a30_189 rfl ?_
              refine r_loadI a30_191 rfl ?_
              refine r_loadI a30_193 rfl ?_
              refine r_add a30_195 (by omega) ?_
              refine r_loadI a30_196 rfl ?_
              refine r_pushI a30_198 ?_
              refine r_icne a30_199 (fun h_199 => ?_) (fun h_199 => ?_)
              · refine r_pushI a30_206 ?_
                exact t207 _ _ (by omega) ho ho2 (by first | rw [if_pos (by omega)] | rw [if_neg (by omega)])
              · refine r_pushI a30_202 ?_
                refine r_goto a30_203 ?_
                exact t207 _ _ (by omega) ho ho2 (by first | rw [if_pos (by omega)] | rw [if_neg (by omega)])
        refine r_loadI a30_50 rfl ?_
        refine r_pushI a30_52 ?_
        refine r_icge a30_54 (fun h_54 => ?_) (fun h_54 => ?_)
        · obtain rfl : p = 10 := by omega
          refine r_retVq a30_233 ?_
          rfl
        · refine r_loadI a30_57 rfl ?_
          refine r_loadI a30_59 rfl ?_
          refine r_add a30_61 (by omega) ?_
          refine r_pushI a30_62 ?_
          refine r_minI a30_64 (by omega) (Nat.le_of_ble_eq_true rfl) ?_
          have hp9 : iMin (p + a) 9 = psP kd p := by unfold iMin psP; rw [ha]; (repeat' split) <;> omega
          rw [hp9]
          have hPr := psP_r (kd := kd) (p := p) ⟨h2, by omega⟩
          refine r_storeI_9 a30_67 rfl ?_
          refine r_loadI a30_69 rfl ?_
          refine r_pushI a30_71 ?_
          refine r_icne a30_72 (fun h_72 => ?_) (fun h_72 => ?_)
          · refine r_pushI a30_86 ?_
            refine r_pushI a30_88 ?_
            refine r_loadI a30_89 rfl ?_
            refine r_mul a30_91 (by omega) ?_
            refine r_sub a30_92 (by omega) ?_
            refine r_storeI_10 a30_93 rfl ?_
            refine r_pushI a30_95 ?_
            refine r_storeI_11 a30_96 rfl ?_
            have e : 30 * g + 3 * p = 30 * g + 3 * p + 0 := by omega
            rw [e]
            exact inner 4 0 _ _ _ (by first | rw [if_pos (by omega)] | rw [if_neg (by omega)]) (by omega) (by omega) (by omega) (by omega)
          · refine r_pushI a30_75 ?_
            refine r_pushI a30_77 ?_
            refine r_loadI a30_79 rfl ?_
            refine r_mul a30_81 (by omega) ?_
            refine r_sub a30_82 (by omega) ?_
            refine r_goto a30_83 ?_
            refine r_storeI_10 a30_93 rfl ?_
            refine r_pushI a30_95 ?_
            refine r_storeI_11 a30_96 rfl ?_
            have e : 30 * g + 3 * p = 30 * g + 3 * p + 0 := by omega
            rw [e]
            exact inner 4 0 _ _ _ (by first | rw [if_pos (by omega)] | rw [if_neg (by omega)]) (by omega) (by omega) (by omega) (by omega)
    refine r_storeI_7 a30_45 rfl ?_
    refine r_pushI a30_47 ?_
    refine r_storeI_8 a30_48 rfl ?_
    have e : zH z m = zH z (fgM 100 101 102 104 105 103 m g tg sk ru (30 * g + 3 * 0)) := by
      have : 30 * g + 3 * 0 = 30 * g := by omega
      rw [this, fgM_0]
    rw [e]
    exact outer 11 0 _ _ _ _ _ (by omega) (by omega) (by omega)
  refine r_entry mx30 rfl ?_
  refine r_loadA a30_0 rfl (by decide) ?_
  refine r_getR a30_1 ty98 rf98_5 (by decide) ?_
  refine r_pushI a30_4 ?_
  refine r_iald a30_5 ty103 (by omega) ?_
  rw [hkk]
  refine r_storeI_5 a30_6 rfl ?_
  refine r_loadI a30_8 rfl ?_
  refine r_pushI a30_10 ?_
  refine r_iceq a30_11 (fun h_11 => ?_) (fun h_11 => ?_)
  · refine r_pushI a30_21 ?_
    refine r_goto a30_22 ?_
    refine r_storeI_6 a30_26 rfl ?_
    refine r_loadI a30_28 rfl ?_
    refine r_pushI a30_30 ?_
    refine r_iceq a30_31 (fun h_31 => ?_) (fun h_31 => ?_)
    · refine r_pushI a30_40 ?_
      refine r_goto a30_41 ?_
      exact t45 _ _ (by first | rw [if_pos (by omega)] | rw [if_neg (by omega)]) (by first | rw [if_pos (by omega)] | rw [if_neg (by omega)])
    · refine r_loadI a30_34 rfl ?_
      refine r_pushI a30_36 ?_
      refine r_icne a30_37 (fun h_37 => ?_) (fun h_37 => ?_)
      · refine r_pushI a30_44 ?_
        exact t45 _ _ (by first | rw [if_pos (by omega)] | rw [if_neg (by omega)]) (by first | rw [if_pos (by omega)] | rw [if_neg (by omega)])
      · refine r_pushI a30_40 ?_
        refine r_goto a30_41 ?_
        exact t45 _ _ (by first | rw [if_pos (by omega)] | rw [if_neg (by omega)]) (by first | rw [if_pos (by omega)] | rw [if_neg (by omega)])
  · refine r_loadI a30_14 rfl ?_
    refine r_pushI a30_16 ?_
    refine r_icne a30_18 (fun h_18 => ?_) (fun h_18 => ?_)
    · refine r_pushI a30_25 ?_
      refine r_storeI_6 a30_26 rfl ?_
      refine r_loadI a30_28 rfl ?_
      refine r_pushI a30_30 ?_
      refine r_iceq a30_31 (fun h_31 => ?_) (fun h_31 => ?_)
      · refine r_pushI a30_40 ?_
        refine r_goto a30_41 ?_
        exact t45 _ _ (by first | rw [if_pos (by omega)] | rw [if_neg (by omega)]) (by first | rw [if_pos (by omega)] | rw [if_neg (by omega)])
      · refine r_loadI a30_34 rfl ?_
        refine r_pushI a30_36 ?_
        refine r_icne a30_37 (fun h_37 => ?_) (fun h_37 => ?_)
        · refine r_pushI a30_44 ?_
          exact t45 _ _ (by first | rw [if_pos (by omega)] | rw [if_neg (by omega)]) (by first | rw [if_pos (by omega)] | rw [if_neg (by omega)])
        · refine r_pushI a30_40 ?_
          refine r_goto a30_41 ?_
          exact t45 _ _ (by first | rw [if_pos (by omega)] | rw [if_neg (by omega)]) (by first | rw [if_pos (by omega)] | rw [if_neg (by omega)])
    · refine r_pushI a30_21 ?_
      refine r_goto a30_22 ?_
      refine r_storeI_6 a30_26 rfl ?_
      refine r_loadI a30_28 rfl ?_
      refine r_pushI a30_30 ?_
      refine r_iceq a30_31 (fun h_31 => ?_) (fun h_31 => ?_)
      · refine r_pushI a30_40 ?_
        refine r_goto a30_41 ?_
        exact t45 _ _ (by first | rw [if_pos (by omega)] | rw [if_neg (by omega)]) (by first | rw [if_pos (by omega)] | rw [if_neg (by omega)])
      · refine r_loadI a30_34 rfl ?_
        refine r_pushI a30_36 ?_
        refine r_icne a30_37 (fun h_37 => ?_) (fun h_37 => ?_)
        · refine r_pushI a30_44 ?_
          exact t45 _ _ (by first | rw [if_pos (by omega)] | rw [if_neg (by omega)]) (by first | rw [if_pos (by omega)] | rw [if_neg (by omega)])
        · refine r_pushI a30_40 ?_
          refine r_goto a30_41 ?_
          exact t45 _ _ (by first | rw [if_pos (by omega)] | rw [if_neg (by omega)]) (by first | rw [if_pos (by omega)] | rw [if_neg (by omega)])
