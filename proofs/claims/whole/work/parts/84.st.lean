-- ===== the start =====
theorem m1_z (L : Nat) (f : Int → Int) (c : Nat) (i : Int) (h1 : c ≠ 1) (h2 : c ≠ 122) : up2 (m00 L f) 122 6 (-1) c i = 0 := by
  rw [up2_c h2]; exact if_neg h1
theorem m1_s (L : Nat) (f : Int → Int) (i : Int) : up2 (m00 L f) 122 6 (-1) 122 i = if i = 6 then -1 else 0 := by
  show (if i = 6 then (-1 : Int) else m00 L f 122 i) = _
  rfl
theorem m1_1 (L : Nat) (f : Int → Int) : up2 (m00 L f) 122 6 (-1) 1 = m00 L f 1 := up2_c (by decide)
theorem m1_k (L : Nat) (f : Int → Int) (i : Int) (h : i ≠ 6) : up2 (m00 L f) 122 6 (-1) 122 i = 0 := by rw [m1_s, if_neg h]
theorem start_ok (L : Nat) (f : Int → Int) : okS (up2 (m00 L f) 122 6 (-1) 122) := by
  have k := m1_k L f
  have k6 : up2 (m00 L f) 122 6 (-1) 122 6 = -1 := by rw [m1_s, if_pos rfl]
  generalize up2 (m00 L f) 122 6 (-1) 122 = s at k k6
  refine ⟨?_, fun g a b => ?_, fun q a b => ?_, fun p a b => ?_, fun q a b => ?_, fun q a b => ?_, fun i a b => ?_, fun a x y => ?_⟩
  · rw [k 0 (by decide), k 1 (by decide), k 2 (by decide), k 3 (by decide), k 4 (by decide), k 5 (by decide), k6, k 7 (by decide)]; omega
  · rw [k (8 + g) (by omega), k (15 + g) (by omega), k (22 + g) (by omega), k (29 + g) (by omega)]; omega
  · rw [k (36 + q) (by omega)]; omega
  · rw [k (64 + p) (by omega)]; omega
  · rw [k (69 + q) (by omega), k (76 + q) (by omega), k 3 (by decide), k 0 (by decide)]; omega
  · rw [k (83 + q) (by omega), k (91 + q) (by omega), k 4 (by decide), k 1 (by decide)]; omega
  · rw [k (99 + i) (by omega)]; omega
  · rw [k (199 + a) (by omega), k (204 + a) (by omega), k (209 + a) (by omega)]; omega
theorem start_cpl (L : Nat) (f : Int → Int) : Cpl (up2 (m00 L f) 122 6 (-1)) := by
  have hz := m1_z L f
  have k := m1_k L f
  have k6 : up2 (m00 L f) 122 6 (-1) 122 6 = -1 := by rw [m1_s, if_pos rfl]
  have hS := start_ok L f
  generalize up2 (m00 L f) 122 6 (-1) = m at hz k k6 hS
  have z0 : ∀ (c : Nat) (i : Int), c < 122 → c ≠ 1 → m c i = 0 := fun c i h1 h2 => hz c i h2 (by omega)
  have rt : rutS (m 122) = 0 ∧ fogS (m 122) = 0 := by
    unfold rutS fogS
    rw [if_pos k6, if_pos k6]; exact ⟨rfl, rfl⟩
  refine ⟨m 122, [], ⟨hS, ⟨⟨?_, fun g a b => ?_⟩, fun q a b => ?_, ⟨?_, ?_, ?_, fun p a b => ?_⟩, ⟨?_, fun i a b => ?_⟩, ⟨?_, ?_⟩, ⟨?_, fun q a b => ?_⟩, ⟨?_, fun q a b => ?_⟩⟩, ⟨⟨0, by decide, ?_⟩, fun c hc => absurd hc (List.not_mem_nil), by decide⟩, ?_, ?_⟩, ⟨rfl, hS, ⟨Or.inl ⟨k6, rfl⟩, fun c hc => absurd hc (List.not_mem_nil), by decide⟩, ?_⟩, ⟨?_, ?_, fun q => ?_⟩, ?_, ?_, fun i a b c => ?_⟩
  · rw [z0 _ _ (by decide) (by decide), k 0 (by decide)]
  · rw [k (8 + g) (by omega), k (15 + g) (by omega), k (22 + g) (by omega), k (29 + g) (by omega)]; exact ⟨z0 _ _ (by decide) (by decide), z0 _ _ (by decide) (by decide), z0 _ _ (by decide) (by decide), z0 _ _ (by decide) (by decide)⟩
  · rw [z0 _ _ (by decide) (by decide), k (36 + q) (by omega)]
  · rw [z0 _ _ (by decide) (by decide), k 1 (by decide)]
  · rw [z0 _ _ (by decide) (by decide), k 7 (by decide)]
  · rw [z0 _ _ (by decide) (by decide), k 2 (by decide)]
  · rw [z0 _ _ (by decide) (by decide), k (64 + p) (by omega)]
  · rw [z0 _ _ (by decide) (by decide), k 5 (by decide)]
  · rw [z0 _ _ (by decide) (by decide), k (99 + i) (by omega)]
  · rw [z0 _ _ (by decide) (by decide), rt.1]
  · rw [z0 _ _ (by decide) (by decide), rt.2]
  · rw [z0 _ _ (by decide) (by decide), k 3 (by decide)]
  · rw [k (69 + q) (by omega), k (76 + q) (by omega)]; exact ⟨z0 _ _ (by decide) (by decide), z0 _ _ (by decide) (by decide)⟩
  · rw [z0 _ _ (by decide) (by decide), k 4 (by decide)]
  · rw [k (83 + q) (by omega), k (91 + q) (by omega)]; exact ⟨z0 _ _ (by decide) (by decide), z0 _ _ (by decide) (by decide)⟩
  · exact ⟨(z0 _ _ (by decide) (by decide)).symm, rfl⟩
  · exact z0 _ _ (by decide) (by decide)
  · exact z0 _ _ (by decide) (by decide)
  · exact z0 _ _ (by decide) (by decide)
  · rw [z0 _ _ (by decide) (by decide), z0 _ _ (by decide) (by decide)]
  · exact Or.inl (z0 _ _ (by decide) (by decide))
  · rw [z0 _ _ (by decide) (by decide)] at q; exact absurd q (by decide)
  · rw [z0 _ _ (by decide) (by decide), z0 _ _ (by decide) (by decide)]
  · rw [z0 _ _ (by decide) (by decide)]; decide
  · rw [z0 121 _ (by decide) (by decide)] at c; omega
theorem law_run (L : Nat) (hL : L ≤ 2560) (f : Int → Int) (hf : ∀ i, -2147483648 ≤ f i ∧ f i < 2147483648) : RZ 2000 k_La_law 0 (entryL k_La_law [vR 1]) [] (h0 L f) LQ := by
  refine law_start 1999 (by decide) L f LQ ?_
  have e1 := m1_1 L f
  have eL : up2 (m00 L f) 122 6 (-1) 1 (-1) = (L : Int) := by rw [e1]; rfl
  refine law_loop 1999 (by decide) (L + 1) 0 84 _ ?_ (by decide) ?_ ?_ ?_ ?_ (start_cpl L f)
  · rw [eL]; omega
  · rw [eL]; omega
  · rw [eL]; omega
  · rw [eL]; omega
  · intro i
    rw [e1]
    show -2147483648 ≤ (if i = -1 then (L : Int) else if 0 ≤ i then f i else 0) ∧ (if i = -1 then (L : Int) else if 0 ≤ i then f i else 0) < 2147483648
    by_cases h : i = -1
    · rw [if_pos h]; omega
    · rw [if_neg h]
      by_cases h2 : 0 ≤ i
      · rw [if_pos h2]; exact hf i
      · rw [if_neg h2]; omega
theorem whole_run (L : Nat) (hL : L ≤ 2560) (xs : Nat → Int32) : ∃ (n : Nat) (H' : XH), ev n 2000 k_La_law 0 (entryL k_La_law [vR 1]) [] (h0 L (fun k => (xs k.toNat).toInt)) = some (some (vI 1), H') ∧ H'.1 ≤ 600000 ∧ H'.2.1 ≤ 7302250 := by
  obtain ⟨n, r, H', h1, h2, h3, h4⟩ := law_run L hL (fun k => (xs k.toNat).toInt) (fun i => by
    have := in32_t (xs i.toNat)
    exact this)
  subst h2
  exact ⟨n, H', h1, h3, h4⟩
