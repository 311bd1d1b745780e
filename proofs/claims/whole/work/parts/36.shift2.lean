theorem runs_eq {l1 l2 : Nat} (h1 : l1 ≤ 60) (h2 : l2 ≤ 60) (f1 f2 n : Int32) : (inRun l1 f1 n ∧ inRun l2 f2 n) ∨ ¬ (inRun l1 f1 n ∧ inRun l2 f2 n) := Classical.em _
theorem not_lt_i {a b : Int32} (h : b.toInt ≤ a.toInt) : ¬ a < b := by rw [Int32.lt_iff_toInt_lt]; omega
theorem le_i {a b : Int32} (h : a.toInt ≤ b.toInt) : a ≤ b := Int32.le_iff_toInt_le.mpr h
theorem not_le_i {a b : Int32} (h : b.toInt < a.toInt) : ¬ a ≤ b := by rw [Int32.le_iff_toInt_le]; omega
theorem lt_i {a b : Int32} (h : a.toInt < b.toInt) : a < b := Int32.lt_iff_toInt_lt.mpr h
/-- where the second says no run -/
theorem runs_no {l1 l2 : Nat} (h1 : l1 ≤ 60) (h2 : l2 ≤ 60) {f1 f2 n : Int32} (h : ¬ (inRun l1 f1 n ∧ inRun l2 f2 n)) {T : Type} (X Y : Option T) : (if n < 0 then X else if f1 < 0 then X else if f2 < 0 then X else if (nI l1 - n) < f1 then X else if f2 ≤ (nI l2 - n) then Y else X) = X := by
  by_cases a : n < 0
  · rw [if_pos a]
  · rw [if_neg a]
    by_cases b : f1 < 0
    · rw [if_pos b]
    · rw [if_neg b]
      by_cases c : f2 < 0
      · rw [if_pos c]
      · rw [if_neg c]
        rw [Int32.lt_iff_toInt_lt] at a b c
        change ¬ n.toInt < 0 at a
        change ¬ f1.toInt < 0 at b
        change ¬ f2.toInt < 0 at c
        have e1 := sub_len h1 (n := n) (by omega)
        have e2 := sub_len h2 (n := n) (by omega)
        by_cases d : (nI l1 - n) < f1
        · rw [if_pos d]
        · rw [if_neg d]
          rw [Int32.lt_iff_toInt_lt, e1] at d
          rw [if_neg]
          rw [Int32.le_iff_toInt_le, e2]
          unfold inRun at h
          omega
theorem runs_yes {l1 l2 : Nat} (h1 : l1 ≤ 60) (h2 : l2 ≤ 60) {f1 f2 n : Int32} (k1 : inRun l1 f1 n) (k2 : inRun l2 f2 n) {T : Type} (X Y : Option T) : (if n < 0 then X else if f1 < 0 then X else if f2 < 0 then X else if (nI l1 - n) < f1 then X else if f2 ≤ (nI l2 - n) then Y else X) = Y := by
  obtain ⟨a, b, c⟩ := k1
  obtain ⟨-, d, e⟩ := k2
  have e1 := sub_len h1 a
  have e2 := sub_len h2 a
  rw [if_neg (not_lt_i (a := n) (b := 0) a), if_neg (not_lt_i (a := f1) (b := 0) b), if_neg (not_lt_i (a := f2) (b := 0) d), if_neg (not_lt_i (by omega)), if_pos (le_i (by omega))]
theorem op_shift {B : Nat} {m : Mem} (h : IS B m) (d1 f1 d2 f2 n : Int32) : ∃ v m1 m2, f_X8_shift d1 f1 d2 f2 n m = some (v, m1) ∧ f_X9_shift d1 f1 d2 f2 n m1 = some (v, m2) ∧ IS B m2 := by
  unfold f_X8_shift f_X9_shift
  have n10 : ¬ ((1 : Int32) = 0) := by decide
  rcases nn_cases 5 (by decide) d1 with ⟨k1, hk1, rfl⟩ | hbad
  · rcases nn_cases 5 (by decide) d2 with ⟨k2, hk2, rfl⟩ | hbad
    · have h1 : k1 < 6 := by omega
      have h2 : k2 < 6 := by omega
      have ek1 : ∀ {T : Type} (K : Option T), ck (nI k1) 6 K = K := fun K => ck_in h1 (by decide)
      have ei1 : ix (nI k1) = k1 := ix_n (by omega)
      have ek2 : ∀ {T : Type} (K : Option T), ck (nI k2) 6 K = K := fun K => ck_in h2 (by decide)
      have ei2 : ix (nI k2) = k2 := ix_n (by omega)
      have s1 := noShelf_ok h1
      have s2 := noShelf_ok h2
      have s3 := isShelf_ok h1
      have s4 := isShelf_ok h2
      obtain ⟨⟨l1, hl1, a1, a2⟩, a3, -⟩ := h k1 h1
      obtain ⟨⟨l2, hl2, b1, b2⟩, b3, -⟩ := h k2 h2
      have m1e : ∀ x : Int32, x = -1 → x < 0 ∧ ¬ 0 ≤ x := fun x q => by subst q; decide
      have bnd0 : ∀ b, b < 50 → ¬ nI b < 0 ∧ 0 ≤ nI b ∧ nI b < 50 := fun b hb => ⟨nn_lt0 (by omega), nn_0le (by omega), lt_lit (n := 50) rfl (by decide) hb⟩
      have bnd1 : ∀ t, t ≤ 4 → ¬ nI (50 + t) < 0 ∧ 0 ≤ nI (50 + t) ∧ ¬ nI (50 + t) < 50 := fun t ht => ⟨nn_lt0 (by omega), nn_0le (by omega), Int32.not_lt.mpr (ge_lit (n := 50) rfl (by omega) (by omega))⟩
      have n12 : ¬ ((-1 : Int32) = -2) := by decide
      rcases a3 with ⟨a5, a6⟩ | ⟨b, hb, hb5, a5, a6, a7⟩ | ⟨t, ht, a5, a6, a7⟩
      · refine ⟨-11, m, m, ?_, ?_, h⟩
        · simp only [bnd, some_bind, g_sI, gJ_sI, gI_sJ, gJ_sJ, Nat.reduceEqDiff, false_and, and_false, true_and, and_true, if_false, if_true, reduceIte, not_false_eq_true, not_true_eq_false, s1, s2, ek1, ek2, ei1, ei2, a6]
        · simp only [bnd, some_bind, g_sI, gJ_sI, gI_sJ, gJ_sJ, Nat.reduceEqDiff, false_and, and_false, true_and, and_true, if_false, if_true, reduceIte, not_false_eq_true, not_true_eq_false, s3, s4, ek1, ek2, ei1, ei2, a5, n10, show ((-1 : Int32) < 0) by decide]
      · rcases b3 with ⟨b5, b6⟩ | ⟨c, hc, hc5, b5, b6, b7⟩ | ⟨u, hu, b5, b6, b7⟩
        · refine ⟨-11, m, m, ?_, ?_, h⟩
          · simp only [bnd, some_bind, g_sI, gJ_sI, gI_sJ, gJ_sJ, Nat.reduceEqDiff, false_and, and_false, true_and, and_true, if_false, if_true, reduceIte, not_false_eq_true, not_true_eq_false, s1, s2, ek1, ek2, ei1, ei2, a6, b6, n12]
          · simp only [bnd, some_bind, g_sI, gJ_sI, gI_sJ, gJ_sJ, Nat.reduceEqDiff, false_and, and_false, true_and, and_true, if_false, if_true, reduceIte, not_false_eq_true, not_true_eq_false, s3, s4, ek1, ek2, ei1, ei2, a5, b5, n10, bnd0 b hb5, show ¬ (0 ≤ (-1 : Int32)) by decide]
        · refine ⟨-12, m, m, ?_, ?_, h⟩
          · simp only [bnd, some_bind, g_sI, gJ_sI, gI_sJ, gJ_sJ, Nat.reduceEqDiff, false_and, and_false, true_and, and_true, if_false, if_true, reduceIte, not_false_eq_true, not_true_eq_false, s1, s2, ek1, ek2, ei1, ei2, a6, b6, n12]
          · simp only [bnd, some_bind, g_sI, gJ_sI, gI_sJ, gJ_sJ, Nat.reduceEqDiff, false_and, and_false, true_and, and_true, if_false, if_true, reduceIte, not_false_eq_true, not_true_eq_false, s3, s4, ek1, ek2, ei1, ei2, a5, b5, n10, bnd0 b hb5, bnd0 c hc5]
        · refine ⟨-12, m, m, ?_, ?_, h⟩
          · simp only [bnd, some_bind, g_sI, gJ_sI, gI_sJ, gJ_sJ, Nat.reduceEqDiff, false_and, and_false, true_and, and_true, if_false, if_true, reduceIte, not_false_eq_true, not_true_eq_false, s1, s2, ek1, ek2, ei1, ei2, a6, b6, n12, sh_t hu]
          · simp only [bnd, some_bind, g_sI, gJ_sI, gI_sJ, gJ_sJ, Nat.reduceEqDiff, false_and, and_false, true_and, and_true, if_false, if_true, reduceIte, not_false_eq_true, not_true_eq_false, s3, s4, ek1, ek2, ei1, ei2, a5, b5, n10, bnd0 b hb5, bnd1 u hu]
      · rcases b3 with ⟨b5, b6⟩ | ⟨c, hc, hc5, b5, b6, b7⟩ | ⟨u, hu, b5, b6, b7⟩
        · refine ⟨-11, m, m, ?_, ?_, h⟩
          · simp only [bnd, some_bind, g_sI, gJ_sI, gI_sJ, gJ_sJ, Nat.reduceEqDiff, false_and, and_false, true_and, and_true, if_false, if_true, reduceIte, not_false_eq_true, not_true_eq_false, s1, s2, ek1, ek2, ei1, ei2, a6, b6, n12, sh_t ht]
          · simp only [bnd, some_bind, g_sI, gJ_sI, gI_sJ, gJ_sJ, Nat.reduceEqDiff, false_and, and_false, true_and, and_true, if_false, if_true, reduceIte, not_false_eq_true, not_true_eq_false, s3, s4, ek1, ek2, ei1, ei2, a5, b5, n10, bnd1 t ht, show ¬ (0 ≤ (-1 : Int32)) by decide]
        · refine ⟨-12, m, m, ?_, ?_, h⟩
          · simp only [bnd, some_bind, g_sI, gJ_sI, gI_sJ, gJ_sJ, Nat.reduceEqDiff, false_and, and_false, true_and, and_true, if_false, if_true, reduceIte, not_false_eq_true, not_true_eq_false, s1, s2, ek1, ek2, ei1, ei2, a6, b6, n12, sh_t ht]
          · have q : ¬ nI (50 + t) = nI c := fun q => by have := (eq_nn (by omega) (by omega)).mp q; omega
            simp only [bnd, some_bind, g_sI, gJ_sI, gI_sJ, gJ_sJ, Nat.reduceEqDiff, false_and, and_false, true_and, and_true, if_false, if_true, reduceIte, not_false_eq_true, not_true_eq_false, s3, s4, ek1, ek2, ei1, ei2, a5, b5, n10, bnd1 t ht, bnd0 c hc5, q]
        · by_cases htu : t = u
          · subst htu
            have e8 : ∀ X : Option (Int32 × Mem), (f_X9_isShelf (nI k1) m).bind (fun q1 => X) = X := fun X => by rw [s3]; rfl
            by_cases hr : inRun l1 f1 n ∧ inRun l2 f2 n
            · obtain ⟨r1, r2⟩ := hr
              obtain ⟨g1, rfl, w1⟩ := n_of_i r1.2.1
              obtain ⟨g2, rfl, w2⟩ := n_of_i r2.2.1
              obtain ⟨c, rfl, w3⟩ := n_of_i r1.1
              have v1 := r1.2.2
              have v2 := r2.2.2
              have x1 : g1 + c ≤ 60 := by omega
              have x2 : g2 + c ≤ 60 := by omega
              have ecp : ∀ {T : Type} (K : Option T), cpk (nI g1) (nI g2) (nI c) 60 60 K = K := fun K => by
                unfold cpk
                rw [if_neg]
                simp only [nI_clamp (show g1 < 2 ^ 31 by omega), nI_clamp (show g2 < 2 ^ 31 by omega), nI_clamp (show c < 2 ^ 31 by omega)]
                rintro (q | q | q | q | q)
                · exact nn_lt0 (by omega) q
                · exact nn_lt0 (by omega) q
                · exact nn_lt0 (by omega) q
                · omega
                · omega
              refine ⟨nI c, cJ m (73 + 2 * k1 + 1) (nI g1) (73 + 2 * k2 + 1) (nI g2) (nI c), _, ?_, ?_, IS_copy h1 h2 x1 x2 h (a6.trans b6.symm) rfl⟩
              · simp only [bnd, some_bind, g_sI, gJ_sI, gI_sJ, gJ_sJ, Nat.reduceEqDiff, false_and, and_false, true_and, and_true, if_false, if_true, reduceIte, not_false_eq_true, not_true_eq_false, s1, s2, ek1, ek2, ei1, ei2, a6, b6, n12, sh_t ht, run_y a1 hl1 r1, run_y b1 hl2 r2, n10, ecp]
              · have gi : ∀ c' i, gI (cJ m (73 + 2 * k1 + 1) (nI g1) (73 + 2 * k2 + 1) (nI g2) (nI c)) c' i = gI m c' i := fun _ _ => rfl
                simp only [bnd, some_bind, g_sI, gJ_sI, gI_sJ, gJ_sJ, Nat.reduceEqDiff, false_and, and_false, true_and, and_true, if_false, if_true, reduceIte, not_false_eq_true, not_true_eq_false, isShelf_ok h1, isShelf_ok h2, ek1, ek2, ei1, ei2, gi, a5, b5, a2, b2, n10, bnd1 t ht]
                rw [runs_yes hl1 hl2 r1 r2]
                exact shift_L1 k1 g1 c h1 x1 _ _ _ _ (fun a => shift_L2 k2 g2 c h2 x2 a) _ rfl
            · refine ⟨-13, m, m, ?_, ?_, h⟩
              · simp only [bnd, some_bind, g_sI, gJ_sI, gI_sJ, gJ_sJ, Nat.reduceEqDiff, false_and, and_false, true_and, and_true, if_false, if_true, reduceIte, not_false_eq_true, not_true_eq_false, s1, s2, ek1, ek2, ei1, ei2, a6, b6, n12, sh_t ht]
                by_cases r1 : inRun l1 f1 n
                · have r2 : ¬ inRun l2 f2 n := fun q => hr ⟨r1, q⟩
                  simp only [bnd, some_bind, g_sI, gJ_sI, gI_sJ, gJ_sJ, Nat.reduceEqDiff, false_and, and_false, true_and, and_true, if_false, if_true, reduceIte, not_false_eq_true, not_true_eq_false, run_y a1 hl1 r1, run_n b1 hl2 r2, n10]
                · simp only [bnd, some_bind, g_sI, gJ_sI, gI_sJ, gJ_sJ, Nat.reduceEqDiff, false_and, and_false, true_and, and_true, if_false, if_true, reduceIte, not_false_eq_true, not_true_eq_false, run_n a1 hl1 r1]
              · simp only [bnd, some_bind, g_sI, gJ_sI, gI_sJ, gJ_sJ, Nat.reduceEqDiff, false_and, and_false, true_and, and_true, if_false, if_true, reduceIte, not_false_eq_true, not_true_eq_false, s3, s4, ek1, ek2, ei1, ei2, a5, b5, a2, b2, n10, bnd1 t ht]
                exact runs_no hl1 hl2 hr _ _
          · have q1 : ¬ nI t = nI u := fun q => htu ((eq_nn (by omega) (by omega)).mp q)
            have q2 : ¬ nI (50 + t) = nI (50 + u) := fun q => htu (by have := (eq_nn (by omega) (by omega)).mp q; omega)
            refine ⟨-12, m, m, ?_, ?_, h⟩
            · simp only [bnd, some_bind, g_sI, gJ_sI, gI_sJ, gJ_sJ, Nat.reduceEqDiff, false_and, and_false, true_and, and_true, if_false, if_true, reduceIte, not_false_eq_true, not_true_eq_false, s1, s2, ek1, ek2, ei1, ei2, a6, b6, n12, sh_t ht, sh_t hu, q1]
            · simp only [bnd, some_bind, g_sI, gJ_sI, gI_sJ, gJ_sJ, Nat.reduceEqDiff, false_and, and_false, true_and, and_true, if_false, if_true, reduceIte, not_false_eq_true, not_true_eq_false, s3, s4, ek1, ek2, ei1, ei2, a5, b5, n10, bnd1 t ht, bnd1 u hu, q2]
    · refine ⟨-1, m, m, ?_, ?_, h⟩
      · rw [noShelf_ok (by omega)]
        simp only [bnd, some_bind, g_sI, gJ_sI, gI_sJ, gJ_sJ, Nat.reduceEqDiff, false_and, and_false, true_and, and_true, if_false, if_true, reduceIte, not_false_eq_true, not_true_eq_false, noShelf_bad hbad, n10]
      · rw [isShelf_ok (by omega)]
        simp only [bnd, some_bind, g_sI, gJ_sI, gI_sJ, gJ_sJ, Nat.reduceEqDiff, false_and, and_false, true_and, and_true, if_false, if_true, reduceIte, not_false_eq_true, not_true_eq_false, isShelf_bad hbad, n10]
  · refine ⟨-1, m, m, ?_, ?_, h⟩
    · rw [noShelf_bad hbad]
      simp only [bnd, some_bind, g_sI, gJ_sI, gI_sJ, gJ_sJ, Nat.reduceEqDiff, false_and, and_false, true_and, and_true, if_false, if_true, reduceIte, not_false_eq_true, not_true_eq_false, n10]
    · rw [isShelf_bad hbad]
      simp only [bnd, some_bind, g_sI, gJ_sI, gI_sJ, gJ_sJ, Nat.reduceEqDiff, false_and, and_false, true_and, and_true, if_false, if_true, reduceIte, not_false_eq_true, not_true_eq_false]
