/-! THE TAPE -/
def IQ (L : Nat) (m m' : Mem) : Prop := (gI m 14 2 = nI L ∧ gI m' 85 17 = nI L ∧ L ≤ 120) ∧ ∀ i, i < 120 → gI m 15 i = gI m' 94 i ∧ ∃ x, x ≤ 255 ∧ gI m 15 i = nI x
theorem op_feed {L : Nat} {m m' : Mem} (h : IQ L m m') (b : Int32) : ∃ v n n' L', f_X8_feed b m = some (v, n) ∧ f_X9_feed b m' = some (v, n') ∧ IQ L' n n' := by
  have h0 := h
  obtain ⟨⟨h1, h2, h3⟩, h4⟩ := h
  have n10 : ¬ ((1 : Int32) = 0) := by decide
  rcases nn_cases 255 (by decide) b with ⟨x, hx, rfl⟩ | hbad
  · have w1 : ∀ m, f_X9_within (nI x).toInt64 0 255 m = some (1, m) := fun m => wi_ok (n := 255) rfl (by decide) hx m
    by_cases hL : L < 120
    · obtain ⟨f1, f2⟩ := full_n (c := 120) (N := 120) rfl (by decide) hL
      have e1 : ∀ {T : Type} (K : Option T), ck (nI L) 120 K = K := fun K => ck_in hL (by decide)
      have i1 : ix (nI L) = L := ix_n (by omega)
      refine ⟨nI (L + 1), sI (sI m 15 L (nI x)) 14 2 (nI (L + 1)), sI (sI m' 94 L (nI x)) 85 17 (nI (L + 1)), L + 1, ?_, ?_, ⟨by simp only [g_sI, gJ_sI, gI_sJ, gJ_sJ, Nat.reduceEqDiff, false_and, and_false, true_and, and_true, if_false, if_true, reduceIte, not_false_eq_true, not_true_eq_false], by simp only [g_sI, gJ_sI, gI_sJ, gJ_sJ, Nat.reduceEqDiff, false_and, and_false, true_and, and_true, if_false, if_true, reduceIte, not_false_eq_true, not_true_eq_false], by omega⟩, fun i hi => ?_⟩
      · unfold f_X8_feed f_X2_isFull f_X2_write
        rw [rng_y' (n := 255) (c := 255) rfl (by decide) hx]
        simp only [bnd, some_bind, g_sI, gJ_sI, gI_sJ, gJ_sJ, Nat.reduceEqDiff, false_and, and_false, true_and, and_true, if_false, if_true, reduceIte, not_false_eq_true, not_true_eq_false, h1, f1, bz_0, e1, i1, nI_1]
      · unfold f_X9_feed
        simp only [bnd, some_bind, g_sI, gJ_sI, gI_sJ, gJ_sJ, Nat.reduceEqDiff, false_and, and_false, true_and, and_true, if_false, if_true, reduceIte, not_false_eq_true, not_true_eq_false, w1, n10, h2, f2, e1, i1, nI_1]
      · have := h4 i hi
        simp only [g_sI, gJ_sI, gI_sJ, gJ_sJ, Nat.reduceEqDiff, false_and, and_false, true_and, and_true, if_false, if_true, reduceIte, not_false_eq_true, not_true_eq_false]
        by_cases hc : i = L
        · rw [if_pos hc, if_pos hc]; exact ⟨rfl, x, hx, rfl⟩
        · rw [if_neg hc, if_neg hc]; exact this
    · have : L = 120 := by omega
      subst this
      refine ⟨-3, m, m', 120, ?_, ?_, h0⟩
      · unfold f_X8_feed f_X2_isFull
        rw [rng_y' (n := 255) (c := 255) rfl (by decide) hx, h1]
        rfl
      · unfold f_X9_feed
        simp only [bnd, some_bind, g_sI, gJ_sI, gI_sJ, gJ_sJ, Nat.reduceEqDiff, false_and, and_false, true_and, and_true, if_false, if_true, reduceIte, not_false_eq_true, not_true_eq_false, w1, n10, h2, show nI 120 = 120 from rfl]
  · refine ⟨-1, m, m', L, ?_, ?_, h0⟩
    · unfold f_X8_feed
      rw [rng_n' (n := 255) (c := 255) rfl hbad]
    · unfold f_X9_feed
      simp only [bnd, some_bind, g_sI, gJ_sI, gI_sJ, gJ_sJ, Nat.reduceEqDiff, false_and, and_false, true_and, and_true, if_false, if_true, reduceIte, not_false_eq_true, not_true_eq_false, wi_bad (n := 255) (H := 255) rfl hbad]
