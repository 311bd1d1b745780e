/-! ROWS, RUNS, BODIES TAKEN -/
theorem fo_J (c base : Nat) (F : Mem → Nat → Int64) (hF : ∀ a k i x, F (sJ a c i x) k = F a k) : ∀ (j k : Nat) (a : Mem), (∀ c' i, gI (fo (fun a k => sJ a c (base + k) (F a k)) j k a) c' i = gI a c' i) ∧ (fo (fun a k => sJ a c (base + k) (F a k)) j k a).2.2 = a.2.2 ∧ ∀ c' i, gJ (fo (fun a k => sJ a c (base + k) (F a k)) j k a) c' i = if c' = c ∧ base + k ≤ i ∧ i < base + k + j then F a (i - base) else gJ a c' i := by
  intro j
  induction j with
  | zero =>
    intro k a
    refine ⟨fun _ _ => rfl, rfl, fun c' i => ?_⟩
    rw [if_neg (by omega)]
    rfl
  | succ j ih =>
    intro k a
    obtain ⟨h1, h2, h3⟩ := ih (k + 1) (sJ a c (base + k) (F a k))
    refine ⟨fun c' i => (h1 c' i).trans rfl, h2.trans rfl, fun c' i => ?_⟩
    show gJ (fo _ j (k + 1) (sJ a c (base + k) (F a k))) c' i = _
    rw [h3 c' i]
    by_cases hc : c' = c ∧ base + (k + 1) ≤ i ∧ i < base + (k + 1) + j
    · rw [if_pos hc, if_pos ⟨hc.1, by omega, by omega⟩, hF]
    · rw [if_neg hc, gJ_sJ]
      by_cases hd : c' = c ∧ i = base + k
      · obtain ⟨rfl, rfl⟩ := hd
        rw [if_pos ⟨rfl, rfl⟩, if_pos ⟨rfl, by omega, by omega⟩, show base + k - base = k by omega]
      · rw [if_neg hd, if_neg]
        rintro ⟨rfl, q1, q2⟩
        exact hc ⟨rfl, by have : i ≠ base + k := fun q => hd ⟨rfl, q⟩
                          omega, by omega⟩
theorem fill_J (ar n : Nat) (hn : n < 2 ^ 31) (v : Int64) (m : Mem) : f_J7_fill_d0a16 ar n v m = some (fo (fun a k => sJ a ar (0 + k) v) n 0 m) := by
  unfold f_J7_fill_d0a16
  refine wh_for (A := Mem) (fun a k => (v, nI k, nI n, a)) n (fun a k => sJ a ar (0 + k) v) (fun a => a) (fun a k hk => ?_) (fun a => ?_) m
  · unfold f_J7_fill_d0a16_L6
    rw [if_neg (nI_ge hk hn), ck_in hk hn]
    simp only [bnd, ix_n (show k < 2 ^ 31 by omega), nI_1, Nat.zero_add]
  · unfold f_J7_fill_d0a16_L6
    rw [if_pos (nI_le (Nat.le_refl n) hn)]
    rfl
theorem row_L (k : Nat) (hk : k < 6) (m : Mem) : wh f_X9_row_L57 (nI k, (60 : Int32) * nI k, m) = some (1, fo (fun a i => sJ a 128 (60 * k + i) 0) 60 0 m) := by
  have e0 : ∀ i, (60 : Int32) * nI k + nI i = nI (60 * k + i) := fun i => nI_60
  have e1 : (60 : Int32) * nI k = nI (60 * k + 0) := by rw [← nI_60]; exact (Int32.add_zero _).symm
  have e2 : (60 : Int32) * nI k + 60 = nI (60 * k + 60) := nI_60 (j := 60)
  have := wh_for (A := Mem) (body := f_X9_row_L57) (fun a i => (nI k, nI (60 * k + i), a)) 60 (fun a i => sJ a 128 (60 * k + i) 0) (fun a => ((1 : Int32), a)) (fun a i hi => ?_) (fun a => ?_) m
  · rw [e1]; exact this
  · unfold f_X9_row_L57
    simp only [e2]
    rw [if_neg (nI_ge (by omega) (by omega)), ck_in (by omega) (by decide)]
    simp only [bnd, ix_n (show 60 * k + i < 2 ^ 31 by omega), nI_1]
    rfl
  · unfold f_X9_row_L57
    simp only [e2]
    rw [if_pos (nI_le (Nat.le_refl _) (by omega))]
    rfl
theorem op_row {B : Nat} {m : Mem} (h : IS B m) (d s n : Int32) : ∃ v m1 m2, f_X8_row d s n m = some (v, m1) ∧ f_X9_row d s n m1 = some (v, m2) ∧ IS B m2 := by
  unfold f_X8_row f_X9_row
  rcases nn_cases 5 (by decide) d with ⟨k, hk, rfl⟩ | hbad
  · have hk6 : k < 6 := by omega
    have ek : ∀ {T : Type} (K : Option T), ck (nI k) 6 K = K := fun K => ck_in hk6 (by decide)
    have ei : ix (nI k) = k := ix_n (by omega)
    rcases nn_cases 4 (by decide) s with ⟨t, ht, rfl⟩ | hb2
    · have e1 : ¬ nI t < 0 := nn_lt0 (by omega)
      have e2 : ¬ (4 : Int32) < nI t := fun q => by have := (lt_nn (a := 4) (by decide) (by omega)).mp q; omega
      by_cases n1 : n ≤ 60
      · by_cases n0 : 0 ≤ n
        · obtain ⟨ln, hln, rfl⟩ := nn_of (n := 60) (c := n) (by decide) (Int32.not_lt.mpr n0) (Int32.not_lt.mpr n1)
          refine ⟨1, fo (fun a i => sJ a (73 + 2 * k + 1) (0 + i) 0) 60 0 (sI (sI (sI m (73 + 2 * k) 0 (nI t)) (73 + 2 * k) 1 (-1)) (73 + 2 * k) 2 (nI ln)), fo (fun a i => sJ a 128 (60 * k + i) 0) 60 0 (sI (sI (fo (fun a i => sJ a (73 + 2 * k + 1) (0 + i) 0) 60 0 (sI (sI (sI m (73 + 2 * k) 0 (nI t)) (73 + 2 * k) 1 (-1)) (73 + 2 * k) 2 (nI ln))) 126 k (50 + nI t)) 127 k (nI ln)), ?_, ?_, ?_⟩
          · rw [noShelf_ok hk6]
            unfold f_X5_holdRow
            simp only [bnd, some_bind, g_sI, gJ_sI, gI_sJ, gJ_sJ, Nat.reduceEqDiff, false_and, and_false, true_and, and_true, if_false, if_true, reduceIte, not_false_eq_true, not_true_eq_false, ek, ei, e1, e2, n0, n1, fill_J _ 60 (by decide)]
          · rw [isShelf_ok hk6, some_bind]
            simp only [bnd, some_bind, g_sI, gJ_sI, gI_sJ, gJ_sJ, Nat.reduceEqDiff, false_and, and_false, true_and, and_true, if_false, if_true, reduceIte, not_false_eq_true, not_true_eq_false, wi_ok (n := 4) (H := 4) rfl (by decide) ht, ek, ei, n0, n1, show ¬ ((1 : Int32) = 0) by decide, row_L k hk6]
          · have c1 := sh_c (c := 126) (by decide) hk6
            have c2 := sh_c (c := 127) (by decide) hk6
            have c0 := sh_c (c := 128) (by decide) hk6
            obtain ⟨a1, a2, a3⟩ := fo_J (73 + 2 * k + 1) 0 (fun _ _ => 0) (fun _ _ _ _ => rfl) 60 0 (sI (sI (sI m (73 + 2 * k) 0 (nI t)) (73 + 2 * k) 1 (-1)) (73 + 2 * k) 2 (nI ln))
            obtain ⟨b1, b2, b3⟩ := fo_J 128 (60 * k) (fun _ _ => 0) (fun _ _ _ _ => rfl) 60 0 (sI (sI (fo (fun a i => sJ a (73 + 2 * k + 1) (0 + i) 0) 60 0 (sI (sI (sI m (73 + 2 * k) 0 (nI t)) (73 + 2 * k) 1 (-1)) (73 + 2 * k) 2 (nI ln))) 126 k (50 + nI t)) 127 k (nI ln))
            intro d hd
            have c3 := sh_c (c := 126) (by decide) hd
            have c4 := sh_c (c := 127) (by decide) hd
            have c7 := sh_c (c := 128) (by decide) hd
            by_cases hdk : d = k
            · subst hdk
              refine ⟨⟨ln, hln, ?_, ?_⟩, Or.inr (Or.inr ⟨t, ht, ?_, ?_, fun _ i hi => ⟨0, ?_⟩⟩), fun i hi => ?_⟩
              · rw [b1]; simp only [g_sI, gJ_sI, gI_sJ, gJ_sJ, Nat.reduceEqDiff, false_and, and_false, true_and, and_true, if_false, if_true, reduceIte, not_false_eq_true, not_true_eq_false, c1, c2, c3, c4]; rw [a1]; simp only [g_sI, gJ_sI, gI_sJ, gJ_sJ, Nat.reduceEqDiff, false_and, and_false, true_and, and_true, if_false, if_true, reduceIte, not_false_eq_true, not_true_eq_false]
              · rw [b1]; simp only [g_sI, gJ_sI, gI_sJ, gJ_sJ, Nat.reduceEqDiff, false_and, and_false, true_and, and_true, if_false, if_true, reduceIte, not_false_eq_true, not_true_eq_false]
              · rw [b1]; simp only [g_sI, gJ_sI, gI_sJ, gJ_sJ, Nat.reduceEqDiff, false_and, and_false, true_and, and_true, if_false, if_true, reduceIte, not_false_eq_true, not_true_eq_false]; exact nI_add 50 t
              · rw [b1]; simp only [g_sI, gJ_sI, gI_sJ, gJ_sJ, Nat.reduceEqDiff, false_and, and_false, true_and, and_true, if_false, if_true, reduceIte, not_false_eq_true, not_true_eq_false, c1, c2, c3, c4]; rw [a1]; simp only [g_sI, gJ_sI, gI_sJ, gJ_sJ, Nat.reduceEqDiff, false_and, and_false, true_and, and_true, if_false, if_true, reduceIte, not_false_eq_true, not_true_eq_false, show ¬ (0 = 1) by decide, show ¬ (0 = 2) by decide]
              · rw [b3]; simp only [g_sI, gJ_sI, gI_sJ, gJ_sJ, Nat.reduceEqDiff, false_and, and_false, true_and, and_true, if_false, if_true, reduceIte, not_false_eq_true, not_true_eq_false, c7]; rw [a3, if_pos ⟨rfl, by omega, by omega⟩]; rfl
              · rw [b3, b3]; simp only [g_sI, gJ_sI, gI_sJ, gJ_sJ, Nat.reduceEqDiff, false_and, and_false, true_and, and_true, if_false, if_true, reduceIte, not_false_eq_true, not_true_eq_false, c0]; rw [a3]
                simp only [Nat.reduceEqDiff, false_and, and_false, true_and, and_true, if_false, if_true, reduceIte, not_false_eq_true, not_true_eq_false]
                rw [if_pos (by omega), if_pos (by omega)]
            · refine IS1_cong (m := m) (fun i hi => ?_) ?_ ?_ (fun i hi => ?_) (fun i hi => ?_) (h d hd)
              · rw [b1]; simp only [g_sI, gJ_sI, gI_sJ, gJ_sJ, Nat.reduceEqDiff, false_and, and_false, true_and, and_true, if_false, if_true, reduceIte, not_false_eq_true, not_true_eq_false, c1, c2, c3, c4]; rw [a1]; simp only [g_sI, gJ_sI, gI_sJ, gJ_sJ, Nat.reduceEqDiff, false_and, and_false, true_and, and_true, if_false, if_true, reduceIte, not_false_eq_true, not_true_eq_false, sh_ne hdk]
              · rw [b1]; simp only [g_sI, gJ_sI, gI_sJ, gJ_sJ, Nat.reduceEqDiff, false_and, and_false, true_and, and_true, if_false, if_true, reduceIte, not_false_eq_true, not_true_eq_false, hdk]; rw [a1]; simp only [g_sI, gJ_sI, gI_sJ, gJ_sJ, Nat.reduceEqDiff, false_and, and_false, true_and, and_true, if_false, if_true, reduceIte, not_false_eq_true, not_true_eq_false, c1]
              · rw [b1]; simp only [g_sI, gJ_sI, gI_sJ, gJ_sJ, Nat.reduceEqDiff, false_and, and_false, true_and, and_true, if_false, if_true, reduceIte, not_false_eq_true, not_true_eq_false, hdk]; rw [a1]; simp only [g_sI, gJ_sI, gI_sJ, gJ_sJ, Nat.reduceEqDiff, false_and, and_false, true_and, and_true, if_false, if_true, reduceIte, not_false_eq_true, not_true_eq_false, c2]
              · rw [b3]; simp only [g_sI, gJ_sI, gI_sJ, gJ_sJ, Nat.reduceEqDiff, false_and, and_false, true_and, and_true, if_false, if_true, reduceIte, not_false_eq_true, not_true_eq_false, c7]; rw [a3]; simp only [g_sI, gJ_sI, gI_sJ, gJ_sJ, Nat.reduceEqDiff, false_and, and_false, true_and, and_true, if_false, if_true, reduceIte, not_false_eq_true, not_true_eq_false, sh_ne hdk]
              · rw [b3, if_neg (by omega)]; simp only [g_sI, gJ_sI, gI_sJ, gJ_sJ, Nat.reduceEqDiff, false_and, and_false, true_and, and_true, if_false, if_true, reduceIte, not_false_eq_true, not_true_eq_false]; rw [a3]; simp only [g_sI, gJ_sI, gI_sJ, gJ_sJ, Nat.reduceEqDiff, false_and, and_false, true_and, and_true, if_false, if_true, reduceIte, not_false_eq_true, not_true_eq_false, c0]
        · refine ⟨-14, m, m, ?_, ?_, h⟩
          · rw [noShelf_ok hk6]
            simp only [bnd, some_bind, g_sI, gJ_sI, gI_sJ, gJ_sJ, Nat.reduceEqDiff, false_and, and_false, true_and, and_true, if_false, if_true, reduceIte, not_false_eq_true, not_true_eq_false, e1, e2, n0, n1]
          · rw [isShelf_ok hk6, some_bind]
            simp only [bnd, some_bind, g_sI, gJ_sI, gI_sJ, gJ_sJ, Nat.reduceEqDiff, false_and, and_false, true_and, and_true, if_false, if_true, reduceIte, not_false_eq_true, not_true_eq_false, wi_ok (n := 4) (H := 4) rfl (by decide) ht, n0, n1, show ¬ ((1 : Int32) = 0) by decide]
      · refine ⟨-1, m, m, ?_, ?_, h⟩
        · rw [noShelf_ok hk6]
          simp only [bnd, some_bind, g_sI, gJ_sI, gI_sJ, gJ_sJ, Nat.reduceEqDiff, false_and, and_false, true_and, and_true, if_false, if_true, reduceIte, not_false_eq_true, not_true_eq_false, e1, e2, n1]
        · rw [isShelf_ok hk6, some_bind]
          simp only [bnd, some_bind, g_sI, gJ_sI, gI_sJ, gJ_sJ, Nat.reduceEqDiff, false_and, and_false, true_and, and_true, if_false, if_true, reduceIte, not_false_eq_true, not_true_eq_false, wi_ok (n := 4) (H := 4) rfl (by decide) ht, n1, show ¬ ((1 : Int32) = 0) by decide]
    · refine ⟨-1, m, m, ?_, ?_, h⟩
      · rw [noShelf_ok hk6, some_bind]
        by_cases s0 : s < 0
        · simp only [bnd, some_bind, g_sI, gJ_sI, gI_sJ, gJ_sJ, Nat.reduceEqDiff, false_and, and_false, true_and, and_true, if_false, if_true, reduceIte, not_false_eq_true, not_true_eq_false, s0]
        · have := hb2.resolve_left s0
          simp only [bnd, some_bind, g_sI, gJ_sI, gI_sJ, gJ_sJ, Nat.reduceEqDiff, false_and, and_false, true_and, and_true, if_false, if_true, reduceIte, not_false_eq_true, not_true_eq_false, s0, show (4 : Int32) < s from this]
      · rw [isShelf_ok hk6, some_bind, if_neg (show ¬ ((1 : Int32) = 0) by decide), wi_bad (n := 4) (H := 4) rfl hb2]
        simp only [bnd, some_bind, g_sI, gJ_sI, gI_sJ, gJ_sJ, Nat.reduceEqDiff, false_and, and_false, true_and, and_true, if_false, if_true, reduceIte, not_false_eq_true, not_true_eq_false]
  · refine ⟨-1, m, m, ?_, ?_, h⟩
    · rw [noShelf_bad hbad]
      simp only [bnd, some_bind, g_sI, gJ_sI, gI_sJ, gJ_sJ, Nat.reduceEqDiff, false_and, and_false, true_and, and_true, if_false, if_true, reduceIte, not_false_eq_true, not_true_eq_false, show ¬ ((1 : Int32) = 0) by decide]
    · rw [isShelf_bad hbad]
      simp only [bnd, some_bind, g_sI, gJ_sI, gI_sJ, gJ_sJ, Nat.reduceEqDiff, false_and, and_false, true_and, and_true, if_false, if_true, reduceIte, not_false_eq_true, not_true_eq_false]
