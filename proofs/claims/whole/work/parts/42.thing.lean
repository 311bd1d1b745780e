theorem isWorth_v (a : Int32) (m : Mem) : f_X9_isWorth a m = some (bi (decide (¬ a < -99 ∧ ¬ 99 < a)), m) := by
  unfold f_X9_isWorth
  rw [within_i a (-99) 99 (L := -99) (H := 99) rfl rfl, some_bind]
  exact bz_b
theorem isDigit_y {k : Nat} (h : k ≤ 9) (m : Mem) : f_X9_isDigit1 (nI k) m = some (1, m) := by
  unfold f_X9_isDigit1
  rw [wi_ok (n := 9) (H := 9) rfl (by decide) h, some_bind]
  exact bz_1
theorem isDigit_n {x : Int32} (h : x < 0 ∨ nI 9 < x) (m : Mem) : f_X9_isDigit1 x m = some (0, m) := by
  unfold f_X9_isDigit1
  rw [wi_bad (n := 9) (H := 9) rfl h, some_bind]
  exact bz_0
theorem op_thing {P T C V : Nat} {m : Mem} (h : ITn P T C V m) (hp : ITt m) (a b : Int32) : ∃ v m1 m2, f_X8_thing a b m = some (v, m1) ∧ f_X9_thing a b m1 = some (v, m2) ∧ ((m1 = m ∧ m2 = m) ∨ (ITn P (T + 1) C (V + 1) m2 ∧ ITt m2 ∧ Fr l_X8_thing m m1 ∧ Fr l_X9_thing m1 m2)) := by
  obtain ⟨⟨n1, n2, n3⟩, ⟨n4, n5, n6⟩, ⟨n7, n8, n9⟩, n0⟩ := h
  by_cases ha : ¬ a < -99 ∧ ¬ 99 < a
  · have w1 : ∀ m, f_X9_isWorth a m = some (1, m) := fun m => by rw [isWorth_v, decide_eq_true ha]; rfl
    obtain ⟨ha1, ha2⟩ := ha
    rcases nn_cases 9 (by decide) b with ⟨b, hb, rfl⟩ | hbad
    · have w2 := isDigit_y hb
      by_cases hT : T < 6
      · obtain ⟨f1, f2⟩ := full_n (c := 6) (N := 6) rfl (by decide) hT
        have e1 : ∀ {T' : Type} (K : Option T'), ck (nI T) 6 K = K := fun K => ck_in hT (by decide)
        have e3 : ∀ {T' : Type} (K : Option T'), ck (30 + nI T) 42 K = K := fun K => by rw [show (30 : Int32) + nI T = nI (30 + T) from nI_add 30 T]; exact ck_in (by omega) (by decide)
        have e4 : ∀ {T' : Type} (K : Option T'), ck (36 + nI T) 42 K = K := fun K => by rw [show (36 : Int32) + nI T = nI (36 + T) from nI_add 36 T]; exact ck_in (by omega) (by decide)
        have i1 : ix (nI T) = T := ix_n (by omega)
        have i2 : ix (30 + nI T) = 30 + T := by rw [show (30 : Int32) + nI T = nI (30 + T) from nI_add 30 T]; exact ix_n (by omega)
        have i3 : ix (36 + nI T) = 36 + T := by rw [show (36 : Int32) + nI T = nI (36 + T) from nI_add 36 T]; exact ix_n (by omega)
        have hX : f_X8_thing a (nI b) m = some (nI T, sI (sI (sI (sI m 6 T a) 7 T (nI b)) 1 16 (nI (V + 1))) 1 14 (nI (T + 1))) := by
          unfold f_X8_thing f_X6_addThing
          rw [if_neg ha1, if_neg ha2, rng_y' (n := 9) (c := 9) rfl (by decide) hb]
          simp only [bnd, some_bind, g_sI, gJ_sI, gI_sJ, gJ_sJ, Nat.reduceEqDiff, false_and, and_false, true_and, and_true, if_false, if_true, reduceIte, not_false_eq_true, not_true_eq_false, n4, n0, f1, e1, i1, nI_1]
        have hY : ∀ m1, gI m1 85 8 = nI T → f_X9_thing a (nI b) m1 = some (nI T, sI (sI (sI m1 86 (30 + T) a) 86 (36 + T) (nI b)) 85 8 (nI (T + 1))) := fun m1 q => by
          unfold f_X9_thing
          simp only [bnd, some_bind, g_sI, gJ_sI, gI_sJ, gJ_sJ, Nat.reduceEqDiff, false_and, and_false, true_and, and_true, if_false, if_true, reduceIte, not_false_eq_true, not_true_eq_false, w1, w2, q, f2, e1, e3, e4, i1, i2, i3, nI_1, nI_pred, show ¬ ((1 : Int32) = 0) by decide]
        have hY' := hY _ (show gI (sI (sI (sI (sI m 6 T a) 7 T (nI b)) 1 16 (nI (V + 1))) 1 14 (nI (T + 1))) 85 8 = nI T by simp only [g_sI, gJ_sI, gI_sJ, gJ_sJ, Nat.reduceEqDiff, false_and, and_false, true_and, and_true, if_false, if_true, reduceIte, not_false_eq_true, not_true_eq_false, n5])
        refine ⟨nI T, _, _, hX, hY', Or.inr ⟨⟨⟨?_, ?_, n3⟩, ⟨?_, ?_, by omega⟩, ⟨?_, ?_, n9⟩, ?_⟩, ?_, fr_X8_thing hX, fr_X9_thing hY'⟩⟩
        · simp only [g_sI, gJ_sI, gI_sJ, gJ_sJ, Nat.reduceEqDiff, false_and, and_false, true_and, and_true, if_false, if_true, reduceIte, not_false_eq_true, not_true_eq_false, n1]
        · simp only [g_sI, gJ_sI, gI_sJ, gJ_sJ, Nat.reduceEqDiff, false_and, and_false, true_and, and_true, if_false, if_true, reduceIte, not_false_eq_true, not_true_eq_false, n2]
        · simp only [g_sI, gJ_sI, gI_sJ, gJ_sJ, Nat.reduceEqDiff, false_and, and_false, true_and, and_true, if_false, if_true, reduceIte, not_false_eq_true, not_true_eq_false]
        · simp only [g_sI, gJ_sI, gI_sJ, gJ_sJ, Nat.reduceEqDiff, false_and, and_false, true_and, and_true, if_false, if_true, reduceIte, not_false_eq_true, not_true_eq_false]
        · simp only [g_sI, gJ_sI, gI_sJ, gJ_sJ, Nat.reduceEqDiff, false_and, and_false, true_and, and_true, if_false, if_true, reduceIte, not_false_eq_true, not_true_eq_false, n7]
        · simp only [g_sI, gJ_sI, gI_sJ, gJ_sJ, Nat.reduceEqDiff, false_and, and_false, true_and, and_true, if_false, if_true, reduceIte, not_false_eq_true, not_true_eq_false, n8]
        · simp only [g_sI, gJ_sI, gI_sJ, gJ_sJ, Nat.reduceEqDiff, false_and, and_false, true_and, and_true, if_false, if_true, reduceIte, not_false_eq_true, not_true_eq_false]
        · intro p hp9
          have := hp p hp9
          by_cases hc : p = T
          · subst hc
            have q3 : ¬ 30 + p = 36 + p := by omega
            simp only [g_sI, gJ_sI, gI_sJ, gJ_sJ, Nat.reduceEqDiff, false_and, and_false, true_and, and_true, if_false, if_true, reduceIte, not_false_eq_true, not_true_eq_false, q3]
            exact ⟨⟨Int32.not_lt.mp ha1, Int32.not_lt.mp ha2⟩, b, hb, rfl⟩
          · have q1 : ¬ 30 + p = 36 + T := by omega
            have q2 : ¬ 30 + p = 30 + T := by omega
            have q3 : ¬ 36 + p = 36 + T := by omega
            have q4 : ¬ 36 + p = 30 + T := by omega
            simp only [g_sI, gJ_sI, gI_sJ, gJ_sJ, Nat.reduceEqDiff, false_and, and_false, true_and, and_true, if_false, if_true, reduceIte, not_false_eq_true, not_true_eq_false, hc, q1, q2, q3, q4]
            exact this
      · have eT : T = 6 := by omega
        subst eT
        refine ⟨-3, m, m, ?_, ?_, Or.inl ⟨rfl, rfl⟩⟩
        · unfold f_X8_thing
          rw [if_neg ha1, if_neg ha2, rng_y' (n := 9) (c := 9) rfl (by decide) hb, n4]
          rfl
        · unfold f_X9_thing
          simp only [bnd, some_bind, g_sI, gJ_sI, gI_sJ, gJ_sJ, Nat.reduceEqDiff, false_and, and_false, true_and, and_true, if_false, if_true, reduceIte, not_false_eq_true, not_true_eq_false, w1, w2, n5, show nI 6 = 6 from rfl, show ¬ ((1 : Int32) = 0) by decide]
    · refine ⟨-1, m, m, ?_, ?_, Or.inl ⟨rfl, rfl⟩⟩
      · unfold f_X8_thing
        rw [if_neg ha1, if_neg ha2, rng_n' (n := 9) (c := 9) rfl hbad]
      · unfold f_X9_thing
        simp only [bnd, some_bind, g_sI, gJ_sI, gI_sJ, gJ_sJ, Nat.reduceEqDiff, false_and, and_false, true_and, and_true, if_false, if_true, reduceIte, not_false_eq_true, not_true_eq_false, w1, isDigit_n hbad, show ¬ ((1 : Int32) = 0) by decide]
  · have w1 : ∀ m, f_X9_isWorth a m = some (0, m) := fun m => by rw [isWorth_v, decide_eq_false ha]; rfl
    refine ⟨-1, m, m, ?_, ?_, Or.inl ⟨rfl, rfl⟩⟩
    · unfold f_X8_thing
      by_cases h1 : a < -99
      · rw [if_pos h1]
      · rw [if_neg h1, if_pos (Classical.byContradiction fun q => ha ⟨h1, q⟩)]
    · unfold f_X9_thing
      simp only [bnd, some_bind, g_sI, gJ_sI, gI_sJ, gJ_sJ, Nat.reduceEqDiff, false_and, and_false, true_and, and_true, if_false, if_true, reduceIte, not_false_eq_true, not_true_eq_false, w1]
/-- set -/
theorem op_set {P T C V : Nat} {m : Mem} (h : ITn P T C V m) (hs : ITs m) (a b : Int32) : ∃ v m1 m2, f_X8_set a b m = some (v, m1) ∧ f_X9_set a b m1 = some (v, m2) ∧ ((m1 = m ∧ m2 = m) ∨ (ITn P T C (V + 1) m2 ∧ ITs m2 ∧ Fr l_X8_set m m1 ∧ Fr l_X9_set m1 m2)) := by
  obtain ⟨⟨n1, n2, n3⟩, ⟨n4, n5, n6⟩, ⟨n7, n8, n9⟩, n0⟩ := h
  obtain ⟨⟨s1, s2⟩, ⟨s3, s4⟩, s5, s6⟩ := hs
  have fin : ∀ (i j : Nat) (v y : Int32) (hij : i = 0 ∧ j = 13 ∨ i = 1 ∧ j = 14 ∨ i = 2 ∧ j = 15) (hv : (i = 0 → ∃ s, s ≤ 5 ∧ v = nI s) ∧ (i = 1 → ∃ s, s ≤ 1 ∧ v = nI s) ∧ (i = 2 → ∃ s, 1 ≤ s ∧ s ≤ 9 ∧ v = nI s)), f_X8_set a b m = some (y, sI (sI m 11 i v) 1 16 (nI (V + 1))) → f_X9_set a b (sI (sI m 11 i v) 1 16 (nI (V + 1))) = some (y, sI (sI (sI m 11 i v) 1 16 (nI (V + 1))) 85 j v) → ∃ v m1 m2, f_X8_set a b m = some (v, m1) ∧ f_X9_set a b m1 = some (v, m2) ∧ ((m1 = m ∧ m2 = m) ∨ (ITn P T C (V + 1) m2 ∧ ITs m2 ∧ Fr l_X8_set m m1 ∧ Fr l_X9_set m1 m2)) := by
    intro i j v y hij hv hX hY
    refine ⟨y, _, _, hX, hY, Or.inr ⟨⟨⟨?_, ?_, n3⟩, ⟨?_, ?_, n6⟩, ⟨?_, ?_, n9⟩, ?_⟩, ?_, fr_X8_set hX, fr_X9_set hY⟩⟩
    · simp only [g_sI, gJ_sI, gI_sJ, gJ_sJ, Nat.reduceEqDiff, false_and, and_false, true_and, and_true, if_false, if_true, reduceIte, not_false_eq_true, not_true_eq_false, n1]
    · rcases hij with ⟨rfl, rfl⟩ | ⟨rfl, rfl⟩ | ⟨rfl, rfl⟩ <;> simp only [g_sI, gJ_sI, gI_sJ, gJ_sJ, Nat.reduceEqDiff, false_and, and_false, true_and, and_true, if_false, if_true, reduceIte, not_false_eq_true, not_true_eq_false, n2]
    · simp only [g_sI, gJ_sI, gI_sJ, gJ_sJ, Nat.reduceEqDiff, false_and, and_false, true_and, and_true, if_false, if_true, reduceIte, not_false_eq_true, not_true_eq_false, n4]
    · rcases hij with ⟨rfl, rfl⟩ | ⟨rfl, rfl⟩ | ⟨rfl, rfl⟩ <;> simp only [g_sI, gJ_sI, gI_sJ, gJ_sJ, Nat.reduceEqDiff, false_and, and_false, true_and, and_true, if_false, if_true, reduceIte, not_false_eq_true, not_true_eq_false, n5]
    · simp only [g_sI, gJ_sI, gI_sJ, gJ_sJ, Nat.reduceEqDiff, false_and, and_false, true_and, and_true, if_false, if_true, reduceIte, not_false_eq_true, not_true_eq_false, n7]
    · rcases hij with ⟨rfl, rfl⟩ | ⟨rfl, rfl⟩ | ⟨rfl, rfl⟩ <;> simp only [g_sI, gJ_sI, gI_sJ, gJ_sJ, Nat.reduceEqDiff, false_and, and_false, true_and, and_true, if_false, if_true, reduceIte, not_false_eq_true, not_true_eq_false, n8]
    · simp only [g_sI, gJ_sI, gI_sJ, gJ_sJ, Nat.reduceEqDiff, false_and, and_false, true_and, and_true, if_false, if_true, reduceIte, not_false_eq_true, not_true_eq_false]
    · rcases hij with ⟨rfl, rfl⟩ | ⟨rfl, rfl⟩ | ⟨rfl, rfl⟩
      · refine ⟨⟨by simp only [g_sI, gJ_sI, gI_sJ, gJ_sJ, Nat.reduceEqDiff, false_and, and_false, true_and, and_true, if_false, if_true, reduceIte, not_false_eq_true, not_true_eq_false], ?_⟩, ⟨by simp only [g_sI, gJ_sI, gI_sJ, gJ_sJ, Nat.reduceEqDiff, false_and, and_false, true_and, and_true, if_false, if_true, reduceIte, not_false_eq_true, not_true_eq_false, show ¬ (1 = 0) by decide, s3], ?_⟩, by simp only [g_sI, gJ_sI, gI_sJ, gJ_sJ, Nat.reduceEqDiff, false_and, and_false, true_and, and_true, if_false, if_true, reduceIte, not_false_eq_true, not_true_eq_false, show ¬ (2 = 0) by decide, s5], ?_⟩
        · simp only [g_sI, gJ_sI, gI_sJ, gJ_sJ, Nat.reduceEqDiff, false_and, and_false, true_and, and_true, if_false, if_true, reduceIte, not_false_eq_true, not_true_eq_false]; exact hv.1 rfl
        · simp only [g_sI, gJ_sI, gI_sJ, gJ_sJ, Nat.reduceEqDiff, false_and, and_false, true_and, and_true, if_false, if_true, reduceIte, not_false_eq_true, not_true_eq_false, show ¬ (1 = 0) by decide]; exact s4
        · simp only [g_sI, gJ_sI, gI_sJ, gJ_sJ, Nat.reduceEqDiff, false_and, and_false, true_and, and_true, if_false, if_true, reduceIte, not_false_eq_true, not_true_eq_false, show ¬ (2 = 0) by decide]; exact s6
      · refine ⟨⟨by simp only [g_sI, gJ_sI, gI_sJ, gJ_sJ, Nat.reduceEqDiff, false_and, and_false, true_and, and_true, if_false, if_true, reduceIte, not_false_eq_true, not_true_eq_false, show ¬ (0 = 1) by decide, s1], ?_⟩, ⟨by simp only [g_sI, gJ_sI, gI_sJ, gJ_sJ, Nat.reduceEqDiff, false_and, and_false, true_and, and_true, if_false, if_true, reduceIte, not_false_eq_true, not_true_eq_false], ?_⟩, by simp only [g_sI, gJ_sI, gI_sJ, gJ_sJ, Nat.reduceEqDiff, false_and, and_false, true_and, and_true, if_false, if_true, reduceIte, not_false_eq_true, not_true_eq_false, show ¬ (2 = 1) by decide, s5], ?_⟩
        · simp only [g_sI, gJ_sI, gI_sJ, gJ_sJ, Nat.reduceEqDiff, false_and, and_false, true_and, and_true, if_false, if_true, reduceIte, not_false_eq_true, not_true_eq_false, show ¬ (0 = 1) by decide]; exact s2
        · simp only [g_sI, gJ_sI, gI_sJ, gJ_sJ, Nat.reduceEqDiff, false_and, and_false, true_and, and_true, if_false, if_true, reduceIte, not_false_eq_true, not_true_eq_false]; exact hv.2.1 rfl
        · simp only [g_sI, gJ_sI, gI_sJ, gJ_sJ, Nat.reduceEqDiff, false_and, and_false, true_and, and_true, if_false, if_true, reduceIte, not_false_eq_true, not_true_eq_false, show ¬ (2 = 1) by decide]; exact s6
      · refine ⟨⟨by simp only [g_sI, gJ_sI, gI_sJ, gJ_sJ, Nat.reduceEqDiff, false_and, and_false, true_and, and_true, if_false, if_true, reduceIte, not_false_eq_true, not_true_eq_false, show ¬ (0 = 2) by decide, s1], ?_⟩, ⟨by simp only [g_sI, gJ_sI, gI_sJ, gJ_sJ, Nat.reduceEqDiff, false_and, and_false, true_and, and_true, if_false, if_true, reduceIte, not_false_eq_true, not_true_eq_false, show ¬ (1 = 2) by decide, s3], ?_⟩, by simp only [g_sI, gJ_sI, gI_sJ, gJ_sJ, Nat.reduceEqDiff, false_and, and_false, true_and, and_true, if_false, if_true, reduceIte, not_false_eq_true, not_true_eq_false], ?_⟩
        · simp only [g_sI, gJ_sI, gI_sJ, gJ_sJ, Nat.reduceEqDiff, false_and, and_false, true_and, and_true, if_false, if_true, reduceIte, not_false_eq_true, not_true_eq_false, show ¬ (0 = 2) by decide]; exact s2
        · simp only [g_sI, gJ_sI, gI_sJ, gJ_sJ, Nat.reduceEqDiff, false_and, and_false, true_and, and_true, if_false, if_true, reduceIte, not_false_eq_true, not_true_eq_false, show ¬ (1 = 2) by decide]; exact s4
        · simp only [g_sI, gJ_sI, gI_sJ, gJ_sJ, Nat.reduceEqDiff, false_and, and_false, true_and, and_true, if_false, if_true, reduceIte, not_false_eq_true, not_true_eq_false]; exact hv.2.2 rfl
  have no : f_X8_set a b m = some (-1, m) → f_X9_set a b m = some (-1, m) → ∃ v m1 m2, f_X8_set a b m = some (v, m1) ∧ f_X9_set a b m1 = some (v, m2) ∧ ((m1 = m ∧ m2 = m) ∨ (ITn P T C (V + 1) m2 ∧ ITs m2 ∧ Fr l_X8_set m m1 ∧ Fr l_X9_set m1 m2)) := fun q1 q2 => ⟨-1, m, m, q1, q2, Or.inl ⟨rfl, rfl⟩⟩
  have l0 : st_0.length = 3 := rfl
  have l1 : st_1.length = 3 := rfl
  rcases nn_cases 2 (by decide) a with ⟨k, hk, rfl⟩ | hbad
  · have hk3 : k = 0 ∨ k = 1 ∨ k = 2 := by omega
    have ek : ∀ {T' : Type} (K : Option T'), ck (nI k) 3 K = K := fun K => ck_in (by omega) (by decide)
    have i1 : ix (nI k) = k := ix_n (by omega)
    have hX : ∀ (lo hi : Int32), st_0.getD k 0 = lo → st_1.getD k 0 = hi → f_X8_set (nI k) b m = if b < lo then some (-1, m) else if b ≤ hi then some (gI m 11 k, sI (sI m 11 k b) 1 16 (nI (V + 1))) else some (-1, m) := fun lo hi q1 q2 => by
      unfold f_X8_set
      rw [rng_y (n := 2) (c := 2) rfl (by decide) hk]
      simp only [bnd, some_bind, g_sI, gJ_sI, gI_sJ, gJ_sJ, Nat.reduceEqDiff, false_and, and_false, true_and, and_true, if_false, if_true, reduceIte, not_false_eq_true, not_true_eq_false, l0, l1, ek, i1, q1, q2, n0, nI_1]
    rcases hk3 with rfl | rfl | rfl
    · have hx := hX 0 5 rfl rfl
      rcases nn_cases 5 (by decide) b with ⟨c, hc, rfl⟩ | hbad
      · rw [rng_y' (n := 5) (c := 5) rfl (by decide) hc] at hx
        refine fin 0 13 (nI c) _ (Or.inl ⟨rfl, rfl⟩) ⟨fun _ => ⟨c, hc, rfl⟩, fun q => absurd q (by decide), fun q => absurd q (by decide)⟩ hx ?_
        unfold f_X9_set
        simp only [sw, show nI 0 = 0 from rfl, bnd, some_bind, g_sI, gJ_sI, gI_sJ, gJ_sJ, Nat.reduceEqDiff, false_and, and_false, true_and, and_true, if_false, if_true, reduceIte, not_false_eq_true, not_true_eq_false, wi_ok (n := 5) (H := 5) rfl (by decide) hc, s1, show ¬ ((1 : Int32) = 0) by decide]
      · rw [rng_n' (n := 5) (c := 5) rfl hbad] at hx
        refine no hx ?_
        unfold f_X9_set
        simp only [sw, show nI 0 = 0 from rfl, bnd, some_bind, g_sI, gJ_sI, gI_sJ, gJ_sJ, Nat.reduceEqDiff, false_and, and_false, true_and, and_true, if_false, if_true, reduceIte, not_false_eq_true, not_true_eq_false, wi_bad (n := 5) (H := 5) rfl hbad]
    · have hx := hX 0 1 rfl rfl
      rcases nn_cases 1 (by decide) b with ⟨c, hc, rfl⟩ | hbad
      · rw [rng_y' (n := 1) (c := 1) rfl (by decide) hc] at hx
        refine fin 1 14 (nI c) _ (Or.inr (Or.inl ⟨rfl, rfl⟩)) ⟨fun q => absurd q (by decide), fun _ => ⟨c, hc, rfl⟩, fun q => absurd q (by decide)⟩ hx ?_
        unfold f_X9_set
        simp only [sw, show nI 1 = 1 from rfl, bnd, some_bind, g_sI, gJ_sI, gI_sJ, gJ_sJ, Nat.reduceEqDiff, false_and, and_false, true_and, and_true, if_false, if_true, reduceIte, not_false_eq_true, not_true_eq_false, wi_ok (n := 1) (H := 1) rfl (by decide) hc, s3, show ¬ ((1 : Int32) = 0) by decide]
      · rw [rng_n' (n := 1) (c := 1) rfl hbad] at hx
        refine no hx ?_
        unfold f_X9_set
        simp only [sw, show nI 1 = 1 from rfl, bnd, some_bind, g_sI, gJ_sI, gI_sJ, gJ_sJ, Nat.reduceEqDiff, false_and, and_false, true_and, and_true, if_false, if_true, reduceIte, not_false_eq_true, not_true_eq_false, wi_bad (n := 1) (H := 1) rfl hbad, show ¬ ((1 : Int32) = 0) by decide]
    · have hx := hX 1 9 rfl rfl
      have hw : ∀ m, f_X9_within b.toInt64 1 9 m = some (bi (decide (¬ b < 1 ∧ ¬ 9 < b)), m) := fun m => within_i b 1 9 (L := 1) (H := 9) rfl rfl m
      by_cases hb : ¬ b < 1 ∧ ¬ 9 < b
      · have hb' := hb
        obtain ⟨h1, h2⟩ := hb
        rw [if_neg h1, if_pos (Int32.not_lt.mp h2)] at hx
        obtain ⟨c, hc, rfl⟩ := nn_of (n := 9) (c := b) (by decide) (fun q => h1 (Int32.lt_trans q (by decide))) h2
        have hc1 : 1 ≤ c := by
          rcases Nat.eq_zero_or_pos c with rfl | q
          · exact absurd (show nI 0 < 1 by decide) h1
          · exact q
        refine fin 2 15 (nI c) _ (Or.inr (Or.inr ⟨rfl, rfl⟩)) ⟨fun q => absurd q (by decide), fun q => absurd q (by decide), fun _ => ⟨c, hc1, hc, rfl⟩⟩ hx ?_
        unfold f_X9_set
        simp only [sw, show nI 2 = 2 from rfl, show ¬ ((2 : Int32) = 0) by decide, show ¬ ((2 : Int32) = 1) by decide, bnd, some_bind, g_sI, gJ_sI, gI_sJ, gJ_sJ, Nat.reduceEqDiff, false_and, and_false, true_and, and_true, if_false, if_true, reduceIte, not_false_eq_true, not_true_eq_false, hw, decide_eq_true hb', s5, bi, show ¬ ((1 : Int32) = 0) by decide]
      · have hx' : f_X8_set (nI 2) b m = some (-1, m) := by
          rw [hx]
          by_cases h1 : b < 1
          · rw [if_pos h1]
          · rw [if_neg h1, if_neg (fun q => hb ⟨h1, Int32.not_lt.mpr q⟩)]
        refine no hx' ?_
        unfold f_X9_set
        simp only [sw, show nI 2 = 2 from rfl, show ¬ ((2 : Int32) = 0) by decide, show ¬ ((2 : Int32) = 1) by decide, bnd, some_bind, g_sI, gJ_sI, gI_sJ, gJ_sJ, Nat.reduceEqDiff, false_and, and_false, true_and, and_true, if_false, if_true, reduceIte, not_false_eq_true, not_true_eq_false, hw, decide_eq_false hb, show bi false = 0 from rfl]
  · refine no ?_ ?_
    · unfold f_X8_set
      rw [rng_n (n := 2) (c := 2) rfl hbad]
    · have hn : ¬ a = 0 ∧ ¬ a = 1 ∧ ¬ a = 2 := by
        refine ⟨?_, ?_, ?_⟩ <;> (rintro rfl; rcases hbad with q | q <;> exact absurd q (by decide))
      unfold f_X9_set
      simp only [sw, hn, Nat.reduceEqDiff, false_and, and_false, true_and, and_true, if_false, if_true, reduceIte, not_false_eq_true, not_true_eq_false]
