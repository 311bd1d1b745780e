theorem isCard_v {P T C V : Nat} {m m' : Mem} (h : ITn2 P T C V m m') (a b x : Int32) : (f_X6_isCard a b x m = some (0, m) ∧ f_X9_isOne a.toInt64 b.toInt64 x.toInt64 m' = some (0, m')) ∨ (f_X6_isCard a b x m = some (1, m) ∧ f_X9_isOne a.toInt64 b.toInt64 x.toInt64 m' = some (1, m') ∧ ∃ t k, a = nI t ∧ t < T ∧ x = nI k ∧ k < 1024 ∧ -9 ≤ b ∧ b ≤ 9) := by
  obtain ⟨-, ⟨n4, n5, n6⟩, -⟩ := h
  have n10 : ¬ ((1 : Int32) = 0) := by decide
  have wb : ∀ m, f_X9_within b.toInt64 (-9) 9 m = some (bi (decide (¬ b < -9 ∧ ¬ 9 < b)), m) := fun m => within_i b (-9) 9 (L := -9) (H := 9) rfl rfl m
  unfold f_X6_isCard f_X9_isOne
  rw [n4, n5]
  by_cases ha : a < 0 ∨ nI T ≤ a
  · refine Or.inl ⟨?_, ?_⟩
    · by_cases a0 : a < 0
      · rw [if_pos a0]; exact bz_0
      · rw [if_neg a0, if_pos (ha.resolve_left a0)]; exact bz_0
    · rw [below_n (by omega) ha, some_bind, if_pos rfl]; exact bz_0
  · obtain ⟨t, ht, rfl⟩ := nn_of2 (n := T) (by omega) (Int32.not_lt.mp fun q => ha (Or.inl q)) (Int32.not_le.mp fun q => ha (Or.inr q))
    rw [if_neg (nn_lt0 (by omega)), if_neg (nI_ge ht (by omega)), below_y (by omega) ht, some_bind, if_neg n10, wb]
    by_cases hb : ¬ b < -9 ∧ ¬ 9 < b
    · rw [decide_eq_true hb, some_bind, if_neg (show ¬ (bi true = 0) by decide), if_neg hb.1, if_neg hb.2]
      rcases nn_cases 1023 (by decide) x with ⟨k, hk, rfl⟩ | hbad
      · refine Or.inr ⟨?_, ?_, t, k, rfl, ht, rfl, by omega, Int32.not_lt.mp hb.1, Int32.not_lt.mp hb.2⟩
        · rw [rng_y (n := 1023) (c := 1023) rfl (by decide) hk]; exact bz_1
        · rw [wi_ok (n := 1023) (H := 1023) rfl (by decide) hk, some_bind, if_neg n10]; exact bz_1
      · refine Or.inl ⟨?_, ?_⟩
        · simp only [bz_0, bz_1]
          rw [rng_n (n := 1023) (c := 1023) rfl hbad]
        · rw [wi_bad (n := 1023) (H := 1023) rfl hbad, some_bind, if_pos rfl]; exact bz_0
    · rw [decide_eq_false hb, some_bind, if_pos (show bi false = 0 from rfl)]
      refine Or.inl ⟨?_, bz_0⟩
      by_cases b0 : b < -9
      · rw [if_pos b0]; exact bz_0
      · rw [if_neg b0, if_pos (Classical.byContradiction fun q => hb ⟨b0, q⟩)]; exact bz_0
theorem op_card {P T C V : Nat} {m m' : Mem} (h : ITn2 P T C V m m') (hc : ITc2 T C m m') (hb : ITb C m) (a b x : Int32) : ∃ v n n', f_X8_card a b x m = some (v, n) ∧ f_X9_card a b x m' = some (v, n') ∧ ((n = m ∧ n' = m') ∨ (ITn2 P T (C + 1) (V + 1) n n' ∧ ITc2 T (C + 1) n n' ∧ ITb (C + 1) n)) := by
  have n10 : ¬ ((1 : Int32) = 0) := by decide
  have h0 := h
  obtain ⟨-, -, ⟨n7, n8, n9⟩, -⟩ := h
  unfold f_X8_card f_X9_card
  rcases isCard_v h0 a b x with ⟨e1, e2⟩ | ⟨e1, e2, t, k, rfl, ht, rfl, hk, b1, b2⟩
  · refine ⟨-1, m, m', ?_, ?_, Or.inl ⟨rfl, rfl⟩⟩
    · rw [e1]; rfl
    · rw [e2]; rfl
  · rw [e1, e2]
    simp only [some_bind, n10, n7, n8, Nat.reduceEqDiff, false_and, and_false, true_and, and_true, if_false, if_true, reduceIte, not_false_eq_true, not_true_eq_false]
    by_cases hC : C < 20
    · obtain ⟨f1, f2⟩ := full_n (c := 20) (N := 20) rfl (by decide) hC
      obtain ⟨n, n', g1, g2, g3, g4, g5⟩ := addCard_v h0 hc hb hC ht hk b1 b2
      refine ⟨nI C, n, n', ?_, ?_, Or.inr ⟨g3, g4, g5⟩⟩
      · rw [if_pos f1, g1]; rfl
      · rw [if_pos f2, g2, some_bind, g3.2.2.1.2.1, nI_pred]
    · have : C = 20 := by omega
      subst this
      exact ⟨-3, m, m', rfl, rfl, Or.inl ⟨rfl, rfl⟩⟩
