/-! ROWS ON SHELVES -/
theorem ref_E {k : Nat} (hk : k < 6) {i : Int32} {m : Mem} (h : gI m 126 k = -1) : f_X9_refusal (nI k) i m = some (-11, m) := by
  unfold f_X9_refusal
  rw [isShelf_ok hk]
  simp only [bnd, some_bind, g_sI, gJ_sI, gI_sJ, gJ_sJ, Nat.reduceEqDiff, false_and, and_false, true_and, and_true, if_false, if_true, reduceIte, not_false_eq_true, not_true_eq_false, ck_in hk (show 6 < 2 ^ 31 by decide), ix_n (show k < 2 ^ 31 by omega), h, show ¬ ((1 : Int32) = 0) by decide, show ¬ ((0 : Int32) ≤ -1) by decide]
theorem ref_B {k b : Nat} (hk : k < 6) (hb : b < 50) {i : Int32} {m : Mem} (h : gI m 126 k = nI b) : f_X9_refusal (nI k) i m = some (-12, m) := by
  unfold f_X9_refusal
  have e1 : 0 ≤ nI b := nn_0le (by omega)
  have e2 : ¬ (50 : Int32) ≤ nI b := Int32.not_le.mpr (lt_lit (n := 50) rfl (by decide) hb)
  rw [isShelf_ok hk]
  simp only [bnd, some_bind, g_sI, gJ_sI, gI_sJ, gJ_sJ, Nat.reduceEqDiff, false_and, and_false, true_and, and_true, if_false, if_true, reduceIte, not_false_eq_true, not_true_eq_false, ck_in hk (show 6 < 2 ^ 31 by decide), ix_n (show k < 2 ^ 31 by omega), h, e1, e2, show ¬ ((1 : Int32) = 0) by decide]
theorem ge_lit {k n : Nat} {c : Int32} (hc : c = nI n) (hk : k < 2 ^ 31) (h : n ≤ k) : c ≤ nI k := by rw [hc]; exact nI_le h hk
theorem ref_N {k t : Nat} (hk : k < 6) (ht : t ≤ 4) {i L : Int32} {m : Mem} (h : gI m 126 k = nI (50 + t)) (hL : gI m 127 k = L) (hi : i < 0 ∨ L ≤ i) : f_X9_refusal (nI k) i m = some (-13, m) := by
  unfold f_X9_refusal
  have e1 : 0 ≤ nI (50 + t) := nn_0le (by omega)
  have e2 : (50 : Int32) ≤ nI (50 + t) := ge_lit (n := 50) rfl (by omega) (by omega)
  rw [isShelf_ok hk]
  simp only [bnd, some_bind, g_sI, gJ_sI, gI_sJ, gJ_sJ, Nat.reduceEqDiff, false_and, and_false, true_and, and_true, if_false, if_true, reduceIte, not_false_eq_true, not_true_eq_false, ck_in hk (show 6 < 2 ^ 31 by decide), ix_n (show k < 2 ^ 31 by omega), h, hL, e1, e2, show ¬ ((1 : Int32) = 0) by decide]
  by_cases h0 : i < 0
  · rw [if_pos h0]
  · rw [if_neg h0, if_pos (hi.resolve_left h0)]
theorem ref_Y {k t : Nat} (hk : k < 6) (ht : t ≤ 4) {i L : Int32} {m : Mem} (h : gI m 126 k = nI (50 + t)) (hL : gI m 127 k = L) (h0 : ¬ i < 0) (h1 : ¬ L ≤ i) : f_X9_refusal (nI k) i m = some (0, m) := by
  unfold f_X9_refusal
  have e1 : 0 ≤ nI (50 + t) := nn_0le (by omega)
  have e2 : (50 : Int32) ≤ nI (50 + t) := ge_lit (n := 50) rfl (by omega) (by omega)
  rw [isShelf_ok hk]
  simp only [bnd, some_bind, g_sI, gJ_sI, gI_sJ, gJ_sJ, Nat.reduceEqDiff, false_and, and_false, true_and, and_true, if_false, if_true, reduceIte, not_false_eq_true, not_true_eq_false, ck_in hk (show 6 < 2 ^ 31 by decide), ix_n (show k < 2 ^ 31 by omega), h, hL, e1, e2, h0, h1, show ¬ ((1 : Int32) = 0) by decide]
theorem ref_bad {d i : Int32} (h : d < 0 ∨ nI 5 < d) (m : Mem) : f_X9_refusal d i m = some (-1, m) := by
  unfold f_X9_refusal
  rw [isShelf_bad h]
  simp only [bnd, some_bind, g_sI, gJ_sI, gI_sJ, gJ_sJ, Nat.reduceEqDiff, false_and, and_false, true_and, and_true, if_false, if_true, reduceIte, not_false_eq_true, not_true_eq_false]
theorem sh_t {t : Nat} (ht : t ≤ 4) : ¬ nI t = -1 ∧ ¬ nI t = -2 := by
  constructor
  · exact fun q => by have := nn_0le (a := t) (by omega); rw [q] at this; exact absurd this (by decide)
  · exact fun q => by have := nn_0le (a := t) (by omega); rw [q] at this; exact absurd this (by decide)
/-- what a shelf's number and place give: the same refusal, or a row's place -/
theorem ref_eq {B k : Nat} {m : Mem} (hk : k < 6) (h : IS1 B m k) (i : Int32) : (∃ r, r ≠ 0 ∧ f_X5_refusalAt (73 + 2 * k) i m = some (r, m) ∧ f_X9_refusal (nI k) i m = some (r, m)) ∨
    (f_X5_refusalAt (73 + 2 * k) i m = some (0, m) ∧ ∃ j ln t, i = nI j ∧ j < ln ∧ ln ≤ 60 ∧ t ≤ 4 ∧ gI m 126 k = nI (50 + t) ∧ gI m 127 k = nI ln ∧ gI m (73 + 2 * k) 0 = nI t ∧ ∀ m', gI m' 126 k = gI m 126 k → gI m' 127 k = gI m 127 k → f_X9_refusal (nI k) i m' = some (0, m')) := by
  obtain ⟨⟨ln, hln, h1, h2⟩, h3, h4⟩ := h
  unfold f_X5_refusalAt
  rcases h3 with ⟨h5, h6⟩ | ⟨b, hb, hb5, h5, h6, h7⟩ | ⟨t, ht, h5, h6, -⟩
  · exact Or.inl ⟨-11, by decide, by rw [h6]; rfl, ref_E hk h5⟩
  · exact Or.inl ⟨-12, by decide, by rw [h6]; rfl, ref_B hk hb5 h5⟩
  · rw [h6, h1, if_pos (sh_t ht).2, if_pos (sh_t ht).1]
    by_cases a : i < 0
    · exact Or.inl ⟨-13, by decide, by rw [if_pos a], ref_N hk ht h5 rfl (Or.inl a)⟩
    · rw [if_neg a]
      by_cases b : i < nI ln
      · refine Or.inr ⟨by rw [if_pos b], ?_⟩
        obtain ⟨j, hj, rfl⟩ := nn_of2 (by omega) (Int32.not_lt.mp a) b
        exact ⟨j, ln, t, rfl, hj, hln, ht, h5, h2, rfl, fun m' e1 e2 => ref_Y hk ht (e1.trans h5) (e2.trans h2) a (Int32.not_le.mpr b)⟩
      · exact Or.inl ⟨-13, by decide, by rw [if_neg b], ref_N hk ht h5 h2 (Or.inr (Int32.not_lt.mp b))⟩
theorem nI_60 {k j : Nat} : (60 : Int32) * nI k + nI j = nI (60 * k + j) := by
  rw [← nI_add]
  congr 1
  exact (Int32.ofNat_mul 60 k).symm
theorem op_element {B : Nat} {m : Mem} (h : IS B m) (d i : Int32) : ∃ v, f_X8_element d i m = some (v, m) ∧ f_X9_element d i m = some (v, m) := by
  unfold f_X8_element f_X9_element
  rcases nn_cases 5 (by decide) d with ⟨k, hk, rfl⟩ | hbad
  · have hk6 : k < 6 := by omega
    have ek : ∀ {T : Type} (K : Option T), ck (nI k) 6 K = K := fun K => ck_in hk6 (by decide)
    have ei : ix (nI k) = k := ix_n (by omega)
    rcases ref_eq hk6 (h k hk6) i with ⟨r, hr, e1, e2⟩ | ⟨e1, j, ln, t, rfl, hj, hln, ht, h5, h2, h6, e2⟩
    · refine ⟨-9223372036854775808, ?_, ?_⟩
      · rw [noShelf_ok hk6]
        simp only [bnd, some_bind, g_sI, gJ_sI, gI_sJ, gJ_sJ, Nat.reduceEqDiff, false_and, and_false, true_and, and_true, if_false, if_true, reduceIte, not_false_eq_true, not_true_eq_false, ek, ei, e1, hr]
      · rw [e2]
        simp only [bnd, some_bind, g_sI, gJ_sI, gI_sJ, gJ_sJ, Nat.reduceEqDiff, false_and, and_false, true_and, and_true, if_false, if_true, reduceIte, not_false_eq_true, not_true_eq_false, hr]
    · refine ⟨gJ m 128 (60 * k + j), ?_, ?_⟩
      · rw [noShelf_ok hk6]
        have ej : ck (nI j) 60 (some (gJ m (73 + 2 * k + 1) (ix (nI j)), m)) = some (gJ m (73 + 2 * k + 1) (ix (nI j)), m) := ck_in (by omega) (by decide)
        simp only [bnd, some_bind, g_sI, gJ_sI, gI_sJ, gJ_sJ, Nat.reduceEqDiff, false_and, and_false, true_and, and_true, if_false, if_true, reduceIte, not_false_eq_true, not_true_eq_false, ek, ei, e1, ej]
        rw [ix_n (by omega), (h k hk6).2.2 j (by omega)]
      · rw [e2 m rfl rfl, some_bind]
        simp only [bnd, some_bind, g_sI, gJ_sI, gI_sJ, gJ_sJ, Nat.reduceEqDiff, false_and, and_false, true_and, and_true, if_false, if_true, reduceIte, not_false_eq_true, not_true_eq_false]
        rw [nI_60, ck_in (by omega) (by decide), ix_n (by omega)]
  · refine ⟨-9223372036854775808, ?_, ?_⟩
    · rw [noShelf_bad hbad]
      simp only [bnd, some_bind, g_sI, gJ_sI, gI_sJ, gJ_sJ, Nat.reduceEqDiff, false_and, and_false, true_and, and_true, if_false, if_true, reduceIte, not_false_eq_true, not_true_eq_false, show ¬ ((1 : Int32) = 0) by decide]
    · rw [ref_bad hbad]
      simp only [bnd, some_bind, g_sI, gJ_sI, gI_sJ, gJ_sJ, Nat.reduceEqDiff, false_and, and_false, true_and, and_true, if_false, if_true, reduceIte, not_false_eq_true, not_true_eq_false, show ¬ ((-1 : Int32) = 0) by decide]
theorem IS_J {B k j : Nat} {m : Mem} (hk : k < 6) (hj : j < 60) (h : IS B m) (x : Int64) (hx : gI m (73 + 2 * k) 0 = nI 1 → ∃ y : Int32, x = y.toInt64) : IS B (sJ (sJ m (73 + 2 * k + 1) j x) 128 (60 * k + j) x) := by
  intro d hd
  have c1 := sh_c (c := 128) (by decide) hk
  have c2 := sh_c (c := 128) (by decide) hd
  by_cases hdk : d = k
  · subst hdk
    obtain ⟨a, e, f⟩ := h d hd
    refine ⟨a, ?_, fun i hi => ?_⟩
    · rcases e with e | e | ⟨t, e1, e2, e3, e4⟩
      · exact Or.inl e
      · exact Or.inr (Or.inl e)
      · refine Or.inr (Or.inr ⟨t, e1, e2, e3, fun ht i hi => ?_⟩)
        simp only [g_sI, gJ_sI, gI_sJ, gJ_sJ, Nat.reduceEqDiff, false_and, and_false, true_and, and_true, if_false, if_true, reduceIte, not_false_eq_true, not_true_eq_false, c1]
        by_cases hij : i = j
        · rw [if_pos hij]
          subst ht
          exact hx e3
        · rw [if_neg hij]
          exact e4 ht i hi
    simp only [g_sI, gJ_sI, gI_sJ, gJ_sJ, Nat.reduceEqDiff, false_and, and_false, true_and, and_true, if_false, if_true, reduceIte, not_false_eq_true, not_true_eq_false, c1]
    by_cases hij : i = j
    · subst hij
      simp only [Nat.reduceEqDiff, false_and, and_false, true_and, and_true, if_false, if_true, reduceIte, not_false_eq_true, not_true_eq_false]
    · have hn : ¬ (60 * d + i = 60 * d + j) := by omega
      simp only [hij, hn, Nat.reduceEqDiff, false_and, and_false, true_and, and_true, if_false, if_true, reduceIte, not_false_eq_true, not_true_eq_false]
      exact f i hi
  · refine IS1_cong (m := m) (fun _ _ => rfl) rfl rfl (fun i hi => ?_) (fun i hi => ?_) (h d hd)
    · simp only [g_sI, gJ_sI, gI_sJ, gJ_sJ, Nat.reduceEqDiff, false_and, and_false, true_and, and_true, if_false, if_true, reduceIte, not_false_eq_true, not_true_eq_false, c1, c2, sh_ne hdk]
    · have hn : ¬ (60 * d + i = 60 * k + j) := by omega
      simp only [g_sI, gJ_sI, gI_sJ, gJ_sJ, Nat.reduceEqDiff, false_and, and_false, true_and, and_true, if_false, if_true, reduceIte, not_false_eq_true, not_true_eq_false, c1, c2, hn]
theorem store_eq {k j t : Nat} (ht : t ≤ 4) (hk : k < 6) (hj : j < 60) {v : Int64} {m : Mem} (h6 : gI m (73 + 2 * k) 0 = nI t) : ∃ x, f_X5_store (73 + 2 * k) (nI j) v m = some (sJ m (73 + 2 * k + 1) j x) ∧ (∀ m', f_X9_asSort (nI (50 + t) - 50) v m' = some (x, m')) ∧ (t = 1 → ∃ y : Int32, x = y.toInt64) := by
  have ek : ∀ {T : Type} (K : Option T), ck (nI j) 60 K = K := fun K => ck_in hj (by decide)
  have ei : ix (nI j) = j := ix_n (by omega)
  unfold f_X5_store f_X9_asSort
  rw [h6]
  simp only [bnd, some_bind, g_sI, gJ_sI, gI_sJ, gJ_sJ, Nat.reduceEqDiff, false_and, and_false, true_and, and_true, if_false, if_true, reduceIte, not_false_eq_true, not_true_eq_false, ek, ei]
  match t, ht with
  | 0, _ => exact ⟨_, rfl, fun _ => rfl, fun q => absurd q (by decide)⟩
  | 1, _ => exact ⟨_, rfl, fun _ => rfl, fun _ => ⟨_, rfl⟩⟩
  | 2, _ => exact ⟨_, rfl, fun _ => rfl, fun q => absurd q (by decide)⟩
  | 3, _ => exact ⟨_, rfl, fun _ => rfl, fun q => absurd q (by decide)⟩
  | 4, _ =>
    by_cases hz : lg_cmp v 0 = 0
    · exact ⟨0, by rw [if_pos hz]; rfl, fun _ => by rw [if_pos hz]; rfl, fun q => absurd q (by decide)⟩
    · exact ⟨1, by rw [if_neg hz]; rfl, fun _ => by rw [if_neg hz]; rfl, fun q => absurd q (by decide)⟩
theorem op_put {B : Nat} {m : Mem} (h : IS B m) (d i : Int32) (v : Int64) : ∃ r m1 m2, f_X8_put d i v m = some (r, m1) ∧ f_X9_put d i v m1 = some (r, m2) ∧ IS B m2 := by
  unfold f_X8_put f_X9_put
  rcases nn_cases 5 (by decide) d with ⟨k, hk, rfl⟩ | hbad
  · have hk6 : k < 6 := by omega
    have ek : ∀ {T : Type} (K : Option T), ck (nI k) 6 K = K := fun K => ck_in hk6 (by decide)
    have ei : ix (nI k) = k := ix_n (by omega)
    rcases ref_eq hk6 (h k hk6) i with ⟨r, hr, e1, e2⟩ | ⟨e1, j, ln, t, rfl, hj, hln, ht, h5, h2, h6, e2⟩
    · refine ⟨r, m, m, ?_, ?_, h⟩
      · rw [noShelf_ok hk6]
        simp only [bnd, some_bind, g_sI, gJ_sI, gI_sJ, gJ_sJ, Nat.reduceEqDiff, false_and, and_false, true_and, and_true, if_false, if_true, reduceIte, not_false_eq_true, not_true_eq_false, ek, ei, e1, hr]
      · rw [e2]
        unfold f_X9_put_J37
        simp only [bnd, some_bind, g_sI, gJ_sI, gI_sJ, gJ_sJ, Nat.reduceEqDiff, false_and, and_false, true_and, and_true, if_false, if_true, reduceIte, not_false_eq_true, not_true_eq_false, hr]
    · obtain ⟨x, e3, e4, e5⟩ := store_eq ht hk6 (by omega : j < 60) (v := v) h6
      refine ⟨1, sJ m (73 + 2 * k + 1) j x, sJ (sJ m (73 + 2 * k + 1) j x) 128 (60 * k + j) x, ?_, ?_, IS_J hk6 (by omega) h x (fun q => e5 ((eq_nn (by omega) (by decide)).mp (h6.symm.trans q)))⟩
      · rw [noShelf_ok hk6]
        simp only [bnd, some_bind, g_sI, gJ_sI, gI_sJ, gJ_sJ, Nat.reduceEqDiff, false_and, and_false, true_and, and_true, if_false, if_true, reduceIte, not_false_eq_true, not_true_eq_false, ek, ei, e1, e3]
      · rw [e2 (sJ m (73 + 2 * k + 1) j x) rfl rfl, some_bind]
        unfold f_X9_put_J37
        simp only [bnd, some_bind, g_sI, gJ_sI, gI_sJ, gJ_sJ, Nat.reduceEqDiff, false_and, and_false, true_and, and_true, if_false, if_true, reduceIte, not_false_eq_true, not_true_eq_false, ek, ei, h5, e4]
        rw [nI_60, ck_in (by omega) (by decide), ix_n (by omega)]
  · refine ⟨-1, m, m, ?_, ?_, h⟩
    · rw [noShelf_bad hbad]
      simp only [bnd, some_bind, g_sI, gJ_sI, gI_sJ, gJ_sJ, Nat.reduceEqDiff, false_and, and_false, true_and, and_true, if_false, if_true, reduceIte, not_false_eq_true, not_true_eq_false, show ¬ ((1 : Int32) = 0) by decide]
    · rw [ref_bad hbad]
      unfold f_X9_put_J37
      simp only [bnd, some_bind, g_sI, gJ_sI, gI_sJ, gJ_sJ, Nat.reduceEqDiff, false_and, and_false, true_and, and_true, if_false, if_true, reduceIte, not_false_eq_true, not_true_eq_false, show ¬ ((-1 : Int32) = 0) by decide]
