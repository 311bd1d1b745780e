/-! THE SHELVES -/
theorem wi_hi {v lo hi : Int32} (m : Mem) : f_X9_within v.toInt64 lo.toInt64 hi.toInt64 m = some (bi (decide (¬ v < lo ∧ ¬ hi < v)), m) := within_i v lo hi rfl rfl m
theorem isBody_ok {B j : Nat} {m : Mem} (hB : gI m 85 66 = nI B) (hb : B ≤ 50) (hj : j < B) : f_X9_isBody (nI j) m = some (1, m) := by
  unfold f_X9_isBody
  obtain ⟨b, rfl⟩ : ∃ b, B = b + 1 := ⟨B - 1, by omega⟩
  have e : nI (b + 1) - 1 = nI b := nI_pred b
  rw [hB, e, wi_ok (n := b) rfl (by omega) (by omega), some_bind]
  exact bz_1
theorem isBody_bad {B : Nat} {p : Int32} {m : Mem} (hB : gI m 85 66 = nI B) (hb : B ≤ 50) (hp : p < 0 ∨ nI B ≤ p) : f_X9_isBody p m = some (0, m) := by
  unfold f_X9_isBody
  have e : decide (¬ p < (0 : Int32) ∧ ¬ (nI B - 1) < p) = false := by
    refine decide_eq_false (fun q => ?_)
    rcases hp with hp | hp
    · exact q.1 hp
    · refine q.2 ?_
      rcases Nat.eq_zero_or_pos B with rfl | h0
      · have h2 : (0 : Int32) ≤ p := hp
        exact Int32.lt_of_lt_of_le (b := 0) (by decide) h2
      · obtain ⟨b, rfl⟩ : ∃ b, B = b + 1 := ⟨B - 1, by omega⟩
        have e : nI (b + 1) - 1 = nI b := nI_pred b
        rw [e]
        exact Int32.lt_of_lt_of_le (nI_lt (Nat.lt_succ_self b) (by omega)) hp
  rw [hB, show (0 : Int64) = (0 : Int32).toInt64 from rfl, wi_hi, e, some_bind]
  exact bz_0
theorem IS1_cong {B : Nat} {m m' : Mem} {d : Nat} (h0 : ∀ i, i < 3 → gI m' (73 + 2 * d) i = gI m (73 + 2 * d) i) (h1 : gI m' 126 d = gI m 126 d) (h2 : gI m' 127 d = gI m 127 d) (h3 : ∀ i, i < 60 → gJ m' (73 + 2 * d + 1) i = gJ m (73 + 2 * d + 1) i) (h4 : ∀ i, i < 60 → gJ m' 128 (60 * d + i) = gJ m 128 (60 * d + i)) (h : IS1 B m d) : IS1 B m' d := by
  obtain ⟨⟨ln, a, b, c⟩, e, f⟩ := h
  refine ⟨⟨ln, a, by rw [h0 2 (by omega), b], by rw [h2, c]⟩, ?_, fun i hi => by rw [h3 i hi, h4 i hi, f i hi]⟩
  rw [h0 0 (by omega), h0 1 (by omega), h1]
  rcases e with e | e | ⟨t, e1, e2, e3, e4⟩
  · exact Or.inl e
  · exact Or.inr (Or.inl e)
  · exact Or.inr (Or.inr ⟨t, e1, e2, e3, fun ht i hi => by rw [h3 i hi]; exact e4 ht i hi⟩)
theorem IS1_mono {B B' : Nat} {m : Mem} {d : Nat} (hb : B ≤ B') (h : IS1 B m d) : IS1 B' m d := by
  obtain ⟨a, e, f⟩ := h
  refine ⟨a, ?_, f⟩
  rcases e with e | ⟨b, h1, h2, h3, h4, h5⟩ | e
  · exact Or.inl e
  · exact Or.inr (Or.inl ⟨b, by omega, h2, h3, h4, h5⟩)
  · exact Or.inr (Or.inr e)
theorem sh_ne {d k : Nat} (h : d ≠ k) : (73 + 2 * d = 73 + 2 * k) = False ∧ (73 + 2 * d + 1 = 73 + 2 * k + 1) = False := ⟨eq_false (by omega), eq_false (by omega)⟩
theorem sh_c {d c : Nat} (h : 85 ≤ c) (hd : d < 6) : (73 + 2 * d = c) = False ∧ (c = 73 + 2 * d) = False ∧ (73 + 2 * d + 1 = c) = False ∧ (c = 73 + 2 * d + 1) = False := ⟨eq_false (by omega), eq_false (by omega), eq_false (by omega), eq_false (by omega)⟩
theorem keep_X8 {k : Nat} (hk : k < 6) (b : Int32) (m : Mem) : f_X8_keep (nI k) b m = if b < -1 then some (-1, m) else if b < gI m 69 1 then (f_X5_holdBody (73 + 2 * k) b m).bind (fun q3 => some (1, q3)) else some (-1, m) := by
  unfold f_X8_keep
  rw [noShelf_ok hk, some_bind]
  simp only [bnd, ck_in hk (show 6 < 2 ^ 31 by decide), ix_n (show k < 2 ^ 31 by omega), Nat.reduceEqDiff, false_and, and_false, true_and, and_true, if_false, if_true, reduceIte, not_false_eq_true, not_true_eq_false]
theorem op_keep {B : Nat} {m : Mem} (hA : IA B m) (h : IS B m) (d b : Int32) : ∃ v m1 m2, f_X8_keep d b m = some (v, m1) ∧ f_X9_keep d b m1 = some (v, m2) ∧ IS B m2 := by
  obtain ⟨⟨hB1, hB2, hB3⟩, -⟩ := hA
  rcases nn_cases 5 (by decide) d with ⟨k, hk, rfl⟩ | hbad
  · have hk6 : k < 6 := by omega
    have ek : ∀ {T : Type} (K : Option T), ck (nI k) 6 K = K := fun K => ck_in hk6 (by decide)
    have ei : ix (nI k) = k := ix_n (by omega)
    have same : ∀ x y : Int32, x = -2 ∨ x = -1 → ∀ m2, m2 = sI (sI (sI (sI (sI m (73 + 2 * k) 0 x) (73 + 2 * k) 1 y) (73 + 2 * k) 2 0) 126 k y) 127 k 0 → (x = -2 ∧ y = -1 ∨ x = -1 ∧ ∃ j, j < B ∧ y = nI j) → IS B m2 := by
      rintro x y hx m2 rfl hxy d hd
      have c1 := sh_c (c := 126) (by decide) hk6
      have c2 := sh_c (c := 127) (by decide) hk6
      have c3 := sh_c (c := 126) (by decide) hd
      have c4 := sh_c (c := 127) (by decide) hd
      by_cases hdk : d = k
      · subst hdk
        obtain ⟨-, -, f⟩ := h d hd
        refine ⟨⟨0, by decide, ?_, ?_⟩, ?_, ?_⟩
        · simp only [g_sI, gJ_sI, gI_sJ, gJ_sJ, Nat.reduceEqDiff, false_and, and_false, true_and, and_true, if_false, if_true, reduceIte, not_false_eq_true, not_true_eq_false, c1, c2, c3, c4]; rfl
        · simp only [g_sI, gJ_sI, gI_sJ, gJ_sJ, Nat.reduceEqDiff, false_and, and_false, true_and, and_true, if_false, if_true, reduceIte, not_false_eq_true, not_true_eq_false, c1, c2, c3, c4]; rfl
        · simp only [g_sI, gJ_sI, gI_sJ, gJ_sJ, Nat.reduceEqDiff, false_and, and_false, true_and, and_true, if_false, if_true, reduceIte, not_false_eq_true, not_true_eq_false, c1, c2, c3, c4]
          rcases hxy with ⟨rfl, rfl⟩ | ⟨rfl, j, hj, rfl⟩
          · exact Or.inl ⟨rfl, by decide⟩
          · exact Or.inr (Or.inl ⟨j, hj, by omega, rfl, by decide, by simp⟩)
        · intro i hi
          simp only [g_sI, gJ_sI, gI_sJ, gJ_sJ, Nat.reduceEqDiff, false_and, and_false, true_and, and_true, if_false, if_true, reduceIte, not_false_eq_true, not_true_eq_false]
          exact f i hi
      · have c5 := sh_ne hdk
        refine IS1_cong ?_ ?_ ?_ ?_ ?_ (h d hd)
        · intro i hi
          simp only [g_sI, gJ_sI, gI_sJ, gJ_sJ, Nat.reduceEqDiff, false_and, and_false, true_and, and_true, if_false, if_true, reduceIte, not_false_eq_true, not_true_eq_false, c1, c2, c3, c4, c5]
        · simp only [g_sI, gJ_sI, gI_sJ, gJ_sJ, Nat.reduceEqDiff, false_and, and_false, true_and, and_true, if_false, if_true, reduceIte, not_false_eq_true, not_true_eq_false, c1, c2, c3, c4, c5, hdk]
        · simp only [g_sI, gJ_sI, gI_sJ, gJ_sJ, Nat.reduceEqDiff, false_and, and_false, true_and, and_true, if_false, if_true, reduceIte, not_false_eq_true, not_true_eq_false, c1, c2, c3, c4, c5, hdk]
        · intro i hi; rfl
        · intro i hi; rfl
    rw [keep_X8 hk6]
    unfold f_X9_keep
    by_cases b1 : b < -1
    · refine ⟨-1, m, m, by rw [if_pos b1], ?_, h⟩
      rw [isShelf_ok hk6, some_bind]
      have b2 : ¬ b = -1 := fun q => by rw [q] at b1; exact absurd b1 (by decide)
      have b3 : b < 0 := Int32.lt_trans b1 (by decide)
      simp only [b2, isBody_bad hB2 hB3 (Or.inl b3), bnd, some_bind, g_sI, gJ_sI, gI_sJ, gJ_sJ, Nat.reduceEqDiff, false_and, and_false, true_and, and_true, if_false, if_true, reduceIte, not_false_eq_true, not_true_eq_false, show ¬ ((1 : Int32) = 0) by decide]
    · rw [if_neg b1, hB1]
      by_cases b2 : b < nI B
      · rw [if_pos b2]
        by_cases b3 : 0 ≤ b
        · obtain ⟨j, hj, rfl⟩ := nn_of2 (by omega) b3 b2
          refine ⟨1, sI (sI (sI m (73 + 2 * k) 0 (-1)) (73 + 2 * k) 1 (nI j)) (73 + 2 * k) 2 0, _, ?_, ?_, same (-1) (nI j) (Or.inr rfl) _ rfl (Or.inr ⟨rfl, j, hj, rfl⟩)⟩
          · unfold f_X5_holdBody
            simp only [b3, bnd, some_bind, g_sI, gJ_sI, gI_sJ, gJ_sJ, Nat.reduceEqDiff, false_and, and_false, true_and, and_true, if_false, if_true, reduceIte, not_false_eq_true, not_true_eq_false]
          · have b4 : ¬ nI j = -1 := fun q => by rw [q] at b3; exact absurd b3 (by decide)
            have e1 := fun m (h : gI m 85 66 = nI B) => isBody_ok h hB3 hj
            rw [isShelf_ok hk6, some_bind]
            rw [if_neg (show ¬ ((1 : Int32) = 0) by decide), if_neg b4, e1 _ (by simp only [g_sI, gJ_sI, gI_sJ, gJ_sJ, Nat.reduceEqDiff, false_and, and_false, true_and, and_true, if_false, if_true, reduceIte, not_false_eq_true, not_true_eq_false, sh_c (c := 85) (by decide) hk6]; exact hB2), some_bind, if_pos (show ¬ ((1 : Int32) = 0) by decide)]
            unfold f_X9_keep_J22
            simp only [bnd, some_bind, g_sI, gJ_sI, gI_sJ, gJ_sJ, Nat.reduceEqDiff, false_and, and_false, true_and, and_true, if_false, if_true, reduceIte, not_false_eq_true, not_true_eq_false, ek, ei]
        · have b4 : b = -1 := by
            have h1 := Int32.not_lt.mp b1
            have h2 := Int32.not_le.mp b3
            rw [Int32.le_iff_toInt_le] at h1
            rw [Int32.lt_iff_toInt_lt] at h2
            apply Int32.toInt_inj.mp
            change (-1 : Int) ≤ b.toInt at h1
            change b.toInt < 0 at h2
            change b.toInt = -1
            omega
          subst b4
          refine ⟨1, sI (sI (sI m (73 + 2 * k) 0 (-2)) (73 + 2 * k) 1 (-1)) (73 + 2 * k) 2 0, _, ?_, ?_, same (-2) (-1) (Or.inl rfl) _ rfl (Or.inl ⟨rfl, rfl⟩)⟩
          · unfold f_X5_holdBody
            simp only [b3, bnd, some_bind, g_sI, gJ_sI, gI_sJ, gJ_sJ, Nat.reduceEqDiff, false_and, and_false, true_and, and_true, if_false, if_true, reduceIte, not_false_eq_true, not_true_eq_false]
          · rw [isShelf_ok hk6, some_bind, if_neg (show ¬ ((1 : Int32) = 0) by decide), if_pos rfl]
            unfold f_X9_keep_J22
            simp only [bnd, some_bind, g_sI, gJ_sI, gI_sJ, gJ_sJ, Nat.reduceEqDiff, false_and, and_false, true_and, and_true, if_false, if_true, reduceIte, not_false_eq_true, not_true_eq_false, ek, ei]
      · refine ⟨-1, m, m, by rw [if_neg b2], ?_, h⟩
        have b3 := Int32.not_lt.mp b2
        have b4 : ¬ b = -1 := fun q => by
          rw [q] at b3
          exact absurd (Int32.le_trans (nn_0le (a := B) (by omega)) b3) (by decide)
        rw [isShelf_ok hk6, some_bind]
        simp only [b4, isBody_bad hB2 hB3 (Or.inr b3), bnd, some_bind, g_sI, gJ_sI, gI_sJ, gJ_sJ, Nat.reduceEqDiff, false_and, and_false, true_and, and_true, if_false, if_true, reduceIte, not_false_eq_true, not_true_eq_false, show ¬ ((1 : Int32) = 0) by decide]
  · refine ⟨-1, m, m, ?_, ?_, h⟩
    · unfold f_X8_keep
      rw [noShelf_bad hbad, some_bind]
      rfl
    · unfold f_X9_keep
      rw [isShelf_bad hbad, some_bind]
      rfl
