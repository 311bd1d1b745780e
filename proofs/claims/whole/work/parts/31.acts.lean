theorem nn_cases (n : Nat) (hn : n < 2 ^ 31) (d : Int32) : (∃ k, k ≤ n ∧ d = nI k) ∨ (d < 0 ∨ nI n < d) := by
  by_cases h : d < 0 ∨ nI n < d
  · exact Or.inr h
  · exact Or.inl (nn_of hn (fun q => h (Or.inl q)) (fun q => h (Or.inr q)))
theorem bad_lt {n : Nat} {d : Int32} (h : d < 0 ∨ nI n < d) : (decide (¬ d < 0 ∧ ¬ nI n < d)) = false := by
  rcases h with h | h
  · exact decide_eq_false (fun q => q.1 h)
  · exact decide_eq_false (fun q => q.2 h)
theorem good_lt {n k : Nat} (hn : n < 2 ^ 31) (hk : k ≤ n) : (decide (¬ nI k < 0 ∧ ¬ nI n < nI k)) = true :=
  decide_eq_true ⟨nn_lt0 (by omega), fun q => absurd ((lt_nn hn (by omega)).mp q) (by omega)⟩
theorem wi_ok {k n : Nat} {H : Int64} (hH : H = (nI n).toInt64) (hn : n < 2 ^ 31) (hk : k ≤ n) (m : Mem) : f_X9_within (nI k).toInt64 0 H m = some (1, m) := by
  rw [within_i (nI k) (nI 0) (nI n) (L := 0) rfl hH, show (decide (¬ nI k < nI 0 ∧ ¬ nI n < nI k)) = true from good_lt hn hk]; rfl
theorem wi_bad {d : Int32} {n : Nat} {H : Int64} (hH : H = (nI n).toInt64) (h : d < 0 ∨ nI n < d) (m : Mem) : f_X9_within d.toInt64 0 H m = some (0, m) := by
  rw [within_i d (nI 0) (nI n) (L := 0) rfl hH, show (decide (¬ d < nI 0 ∧ ¬ nI n < d)) = false from bad_lt h]; rfl
theorem far_ge {d : Int32} {n : Nat} (hn : n + 1 < 2 ^ 31) (h : d < 0 ∨ nI n < d) (h0 : ¬ d < 0) : ¬ d < nI (n + 1) := fun q => by
  obtain ⟨k, hk, rfl⟩ := nn_of2 hn (Int32.not_lt.mp h0) q
  rcases h with h | h
  · exact h0 h
  · exact absurd ((lt_nn (by omega) (by omega)).mp h) (by omega)
theorem lt_lit {k n : Nat} {c : Int32} (hc : c = nI n) (hn : n < 2 ^ 31) (h : k < n) : nI k < c := by rw [hc]; exact nI_lt h hn
-- a shelf's number
theorem noShelf_bad {d : Int32} (h : d < 0 ∨ nI 5 < d) (m : Mem) : f_X8_isNoShelf d m = some (1, m) := by
  unfold f_X8_isNoShelf
  by_cases h0 : d < 0
  · rw [if_pos h0, bz_1]
  · have h1 : ¬ d < (6 : Int32) := far_ge (n := 5) (by decide) h h0
    rw [if_neg h0, if_neg h1, bz_1]
theorem noShelf_ok {k : Nat} (h : k < 6) (m : Mem) : f_X8_isNoShelf (nI k) m = some (0, m) := by
  unfold f_X8_isNoShelf
  rw [if_neg (nn_lt0 (by omega)), if_pos (lt_lit (c := 6) (n := 6) rfl (by decide) h), bz_0]
theorem isShelf_bad {d : Int32} (h : d < 0 ∨ nI 5 < d) (m : Mem) : f_X9_isShelf d m = some (0, m) := by
  unfold f_X9_isShelf
  rw [wi_bad (n := 5) (H := 5) rfl h, some_bind]
  exact bz_0
theorem isShelf_ok {k : Nat} (h : k < 6) (m : Mem) : f_X9_isShelf (nI k) m = some (1, m) := by
  unfold f_X9_isShelf
  rw [wi_ok (n := 5) (H := 5) rfl (by decide) (by omega), some_bind]
  exact bz_1
/-- BODIES, THE TRACE -/
def IA (B : Nat) (m : Mem) : Prop := (gI m 69 1 = nI B ∧ gI m 85 66 = nI B ∧ B ≤ 50) ∧ (∀ i, i < 50 → gI m 71 i = gI m 124 i ∧ ∃ k, k ≤ 7 ∧ gI m 71 i = nI k) ∧ (∃ R, R < 1000 ∧ gI m 69 2 = nI R ∧ gI m 85 69 = nI R) ∧ ∀ i, i < 24 → gI m 70 i = gI m 125 i
/-- A SHELF -/
def IS1 (B : Nat) (m : Mem) (d : Nat) : Prop := (∃ ln, ln ≤ 60 ∧ gI m (73 + 2 * d) 2 = nI ln ∧ gI m 127 d = nI ln) ∧
  ((gI m 126 d = -1 ∧ gI m (73 + 2 * d) 0 = -2) ∨ (∃ b, b < B ∧ b < 50 ∧ gI m 126 d = nI b ∧ gI m (73 + 2 * d) 0 = -1 ∧ gI m (73 + 2 * d) 1 = nI b) ∨ ∃ t, t ≤ 4 ∧ gI m 126 d = nI (50 + t) ∧ gI m (73 + 2 * d) 0 = nI t ∧ (t = 1 → ∀ i, i < 60 → ∃ y : Int32, gJ m (73 + 2 * d + 1) i = y.toInt64)) ∧
  ∀ i, i < 60 → gJ m (73 + 2 * d + 1) i = gJ m 128 (60 * d + i)
def IS (B : Nat) (m : Mem) : Prop := ∀ d, d < 6 → IS1 B m d
theorem op_trace {B : Nat} {m : Mem} (h : IA B m) (i : Int32) : ∃ v, f_X8_trace i m = some (v, m) ∧ f_X9_trace i m = some (v, m) := by
  obtain ⟨-, -, ⟨R, hR, h1, h2⟩, h3⟩ := h
  unfold f_X8_trace f_X9_trace
  by_cases a : i < 0
  · exact ⟨-1, by rw [if_pos a], by rw [if_pos a]⟩
  · rw [if_neg a, if_neg a, h1, h2]
    by_cases b : nI R ≤ i
    · exact ⟨-1, by rw [if_pos b], by rw [if_pos b]⟩
    · rw [if_neg b, if_neg b]
      by_cases c : i < 24
      · obtain ⟨k, hk, rfl⟩ := nn_of2 (n := 24) (by decide) (Int32.not_lt.mp a) c
        rw [if_pos c, if_neg (Int32.not_le.mpr c), ck_in hk (by decide), ck_in hk (by decide), ix_n (by omega), h3 k hk]
        exact ⟨_, rfl, rfl⟩
      · rw [if_neg c, if_pos (Int32.not_lt.mp c)]
        exact ⟨-1, rfl, rfl⟩
theorem op_body {B : Nat} {m : Mem} (h : IA B m) (k : Int32) : ∃ v m1 m2, f_X8_body k m = some (v, m1) ∧ f_X9_body k m1 = some (v, m2) ∧ ∃ B', B ≤ B' ∧ IA B' m2 := by
  have h0 := h
  obtain ⟨⟨h1, h2, h3⟩, h4, ⟨R, hR, h5, h6⟩, h7⟩ := h
  rcases nn_cases 7 (by decide) k with ⟨j, hj, rfl⟩ | hbad
  · have e1 : ¬ nI j < 0 := nn_lt0 (by omega)
    have e2 : nI j < 8 := lt_lit (n := 8) rfl (by decide) (by omega)
    have e3 : ∀ m, f_X9_within (nI j).toInt64 0 7 m = some (1, m) := fun m => wi_ok (n := 7) rfl (by decide) hj m
    by_cases hB : B < 50
    · have e4 : nI B < 50 := (lt_nn (b := 50) (by omega) (by decide)).mpr hB
      have e5 : ¬ nI B = 50 := fun q => by have := (eq_nn (b := 50) (by omega) (by decide)).mp q; omega
      have e6 : ∀ {T : Type} (K : Option T), ck (nI B) 50 K = K := fun K => ck_in hB (by decide)
      have e7 : ix (nI B) = B := ix_n (by omega)
      refine ⟨nI B, sI (sI m 71 B (nI j)) 69 1 (nI (B + 1)), sI (sI (sI (sI m 71 B (nI j)) 69 1 (nI (B + 1))) 124 B (nI j)) 85 66 (nI (B + 1)), ?_, ?_, B + 1, by omega, ?_⟩
      · unfold f_X8_body f_X0_addBody
        rw [if_neg e1, if_pos e2, h1, if_pos e4, e6]
        simp only [bnd, e7, g_sI, h1, nI_1, some_bind, Nat.reduceEqDiff, false_and, and_false, true_and, if_false, if_true, reduceIte]
      · unfold f_X9_body
        rw [e3, some_bind]
        simp only [bnd, e5, e6, e7, g_sI, h2, nI_1, nI_pred, some_bind, Nat.reduceEqDiff, false_and, and_false, true_and, if_false, if_true, reduceIte, not_false_eq_true, show ¬ ((1 : Int32) = 0) by decide]
      · refine ⟨⟨by simp only [g_sI, Nat.reduceEqDiff, false_and, and_false, true_and, if_false, if_true, reduceIte], by simp only [g_sI, Nat.reduceEqDiff, false_and, and_false, true_and, if_false, if_true, reduceIte], by omega⟩, fun i hi => ?_, ⟨R, hR, ?_, ?_⟩, fun i hi => ?_⟩
        · have := h4 i hi
          simp only [g_sI, Nat.reduceEqDiff, false_and, and_false, true_and, if_false, if_true, reduceIte]
          by_cases hc : i = B
          · rw [if_pos hc, if_pos hc]; exact ⟨rfl, j, hj, rfl⟩
          · rw [if_neg hc, if_neg hc]; exact this
        · simp only [g_sI, h5, Nat.reduceEqDiff, false_and, and_false, true_and, if_false, if_true, reduceIte]
        · simp only [g_sI, h6, Nat.reduceEqDiff, false_and, and_false, true_and, if_false, if_true, reduceIte]
        · simp only [g_sI, h7 i hi, Nat.reduceEqDiff, false_and, and_false, true_and, if_false, if_true, reduceIte]
    · have eB : B = 50 := by omega
      subst eB
      refine ⟨-3, m, m, ?_, ?_, 50, Nat.le_refl _, h0⟩
      · unfold f_X8_body
        rw [if_neg e1, if_pos e2, h1, if_neg (show ¬ (nI 50 < 50) by decide)]
      · unfold f_X9_body
        rw [e3, some_bind]
        simp only [h2, show ¬ ((1 : Int32) = 0) by decide, show nI 50 = 50 from rfl, not_false_eq_true, not_true_eq_false, if_true, if_false, reduceIte]
  · refine ⟨-1, m, m, ?_, ?_, B, Nat.le_refl _, h0⟩
    · unfold f_X8_body
      by_cases a : k < 0
      · rw [if_pos a]
      · have b : ¬ k < (8 : Int32) := far_ge (n := 7) (by decide) hbad a
        rw [if_neg a, if_neg b]
    · unfold f_X9_body
      rw [wi_bad (n := 7) (H := 7) rfl hbad, some_bind]
      rfl
