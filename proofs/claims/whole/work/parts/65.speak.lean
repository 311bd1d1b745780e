/-! A MEETING: one speaks, at the class -/
theorem aa_1 (a i j : Nat) : (a + i = a + j) = (i = j) := propext ⟨fun h => by omega, fun h => by omega⟩
theorem aa_2 (a i : Nat) : (a = a + i) = (i = 0) := propext ⟨fun h => by omega, fun h => by omega⟩
theorem aa_3 (a i : Nat) : (a + i = a) = (i = 0) := propext ⟨fun h => by omega, fun h => by omega⟩
theorem J179_v {a C P T S p t : Nat} (ha : MA a) {q : Mem} (hC : gI q 1 15 = nI C) (hC2 : C ≤ 20) (hp : p < 10) (ht : t < 6) (hS : gI q a 7 = nI S) (hS2 : S < 200) (by' fresh again len : Int32) : ∃ n, f_X3_speak_J179 a (nI p) (nI t) by' fresh again len q = some n ∧ (gI n a 7 = nI (S + 1) ∧ gI n a 8 = gI q a 8 + len ∧ gI n a 9 = (gI q a 9 ||| fresh) ∧ gI n a 15 = gI q a 15 ∧ gI n a 16 = gI q a 16 ∧ gI n a 17 = gI q a 17 ∧ gI n a 18 = nI p) ∧ (∀ u, gI n (a + 2) u = if u = t then gI q (a + 2) u + len else gI q (a + 2) u) ∧ (∀ k, gI n (a + 3) k = (if k < C ∧ bt fresh k = true then nI p else gI q (a + 3) k) ∧ gI n (a + 4) k = if k < C ∧ bt fresh k = true then nI S else gI q (a + 4) k) ∧ (∀ u, gI n (a + 5) u = gI q (a + 5) u ∧ gI n (a + 6) u = gI q (a + 6) u ∧ gI n (a + 7) u = (if u = p then gI q (a + 7) u + len else gI q (a + 7) u) ∧ gI n (a + 10) u = (if u = p then gI q (a + 10) u + 1 else gI q (a + 10) u) ∧ gI n (a + 11) u = if u = p then by' else gI q (a + 11) u) ∧ (gI n (a + 1) (S * 7 + 0) = nI p ∧ gI n (a + 1) (S * 7 + 1) = nI t ∧ gI n (a + 1) (S * 7 + 2) = gI q a 8 ∧ gI n (a + 1) (S * 7 + 3) = len ∧ gI n (a + 1) (S * 7 + 4) = fresh ∧ gI n (a + 1) (S * 7 + 5) = again ∧ gI n (a + 1) (S * 7 + 6) = by') ∧ ∀ i, i < S * 7 → gI n (a + 1) i = gI q (a + 1) i := by
  obtain ⟨r, s1, s2, s3⟩ := sayFirst_v ha hC hC2 fresh (nI p) (nI S)
  have F := fr_X3_sayFirst s1
  have cp : ∀ {T : Type} (K : Option T), ck (nI p) 10 K = K := fun K => ck_in hp (by decide)
  have ct : ∀ {T : Type} (K : Option T), ck (nI t) 6 K = K := fun K => ck_in ht (by decide)
  have ip : ix (nI p) = p := ix_n (by omega)
  have it : ix (nI t) = t := ix_n (by omega)
  have cl : ∀ j, j < 7 → ∀ {T : Type} (K : Option T), ck (nI (S * 7 + j)) 1400 K = K := fun j hj _ K => ck_in (by omega) (by decide)
  have il : ∀ j, j < 7 → ix (nI (S * 7 + j)) = S * 7 + j := fun j hj => ix_n (by omega)
  have e7 : nI S * 7 = nI (S * 7) := nI_mul S 7
  have el0 : nI (S * 7) + 0 = nI (S * 7 + 0) := nI_add _ 0
  have el1 : nI (S * 7) + 1 = nI (S * 7 + 1) := nI_add _ 1
  have el2 : nI (S * 7) + 2 = nI (S * 7 + 2) := nI_add _ 2
  have el3 : nI (S * 7) + 3 = nI (S * 7 + 3) := nI_add _ 3
  have el4 : nI (S * 7) + 4 = nI (S * 7 + 4) := nI_add _ 4
  have el5 : nI (S * 7) + 5 = nI (S * 7 + 5) := nI_add _ 5
  have el6 : nI (S * 7) + 6 = nI (S * 7 + 6) := nI_add _ 6
  have eS1 : nI S + 1 = nI (S + 1) := nI_1 S
  have r7 : gI r a 7 = nI S := ((F.1 a 7 (fun z h1 h2 h3 => by simp only [List.mem_cons, List.not_mem_nil, or_false] at h1; rcases h1 with rfl | rfl | rfl <;> simp at h2 h3)).1).trans hS
  have ro : ∀ i, i ≠ 9 → gI r a i = gI q a i := fun i hi => (F.1 a i (fun z h1 h2 h3 => by
    simp only [List.mem_cons, List.not_mem_nil, or_false] at h1
    rcases h1 with rfl | rfl | rfl
    · simp at h2
    · simp at h2
    · simp at h3; exact hi h3.symm)).1
  have rc : ∀ j i, j ≠ 0 → j ≠ 3 → j ≠ 4 → gI r (a + j) i = gI q (a + j) i := fun j i h0 h3 h4 => fr_c F (a + j) i (fun z h1 => by
    simp only [List.mem_cons, List.not_mem_nil, or_false] at h1
    rcases h1 with rfl | rfl | rfl <;> (simp only; omega))
  have h200 : nI S < (200 : Int32) := lt_lit (n := 200) rfl (by decide) hS2
  unfold f_X3_speak_J179 f_X3_writeLog
  simp only [s1, some_bind, bnd, hS, r7, h200, if_true, e7, el0, el1, el2, el3, el4, el5, el6, cl 0 (by decide), cl 1 (by decide), cl 2 (by decide), cl 3 (by decide), cl 4 (by decide), cl 5 (by decide), cl 6 (by decide), il 0 (by decide), il 1 (by decide), il 2 (by decide), il 3 (by decide), il 4 (by decide), il 5 (by decide), il 6 (by decide), g_sI, aa_1, aa_2, aa_3, Nat.reduceEqDiff, false_and, and_false, true_and, and_true, if_false, if_true, reduceIte, not_false_eq_true, not_true_eq_false, cp, ct, ip, it, eS1]
  refine ⟨_, rfl, ⟨?_, ?_, ?_, ?_, ?_, ?_, ?_⟩, fun u => ?_, fun k => ⟨?_, ?_⟩, fun u => ⟨?_, ?_, ?_, ?_, ?_⟩, ⟨?_, ?_, ?_, ?_, ?_, ?_, ?_⟩, fun i hi => ?_⟩
  · simp only [g_sI, aa_1, aa_2, aa_3, Nat.reduceEqDiff, false_and, and_false, true_and, and_true, if_false, if_true, reduceIte, not_false_eq_true, not_true_eq_false]
  · simp only [g_sI, aa_1, aa_2, aa_3, Nat.reduceEqDiff, false_and, and_false, true_and, and_true, if_false, if_true, reduceIte, not_false_eq_true, not_true_eq_false, ro 8 (by decide)]
  · simp only [g_sI, aa_1, aa_2, aa_3, Nat.reduceEqDiff, false_and, and_false, true_and, and_true, if_false, if_true, reduceIte, not_false_eq_true, not_true_eq_false, s2]
  · simp only [g_sI, aa_1, aa_2, aa_3, Nat.reduceEqDiff, false_and, and_false, true_and, and_true, if_false, if_true, reduceIte, not_false_eq_true, not_true_eq_false, ro 15 (by decide)]
  · simp only [g_sI, aa_1, aa_2, aa_3, Nat.reduceEqDiff, false_and, and_false, true_and, and_true, if_false, if_true, reduceIte, not_false_eq_true, not_true_eq_false, ro 16 (by decide)]
  · simp only [g_sI, aa_1, aa_2, aa_3, Nat.reduceEqDiff, false_and, and_false, true_and, and_true, if_false, if_true, reduceIte, not_false_eq_true, not_true_eq_false, ro 17 (by decide)]
  · simp only [g_sI, aa_1, aa_2, aa_3, Nat.reduceEqDiff, false_and, and_false, true_and, and_true, if_false, if_true, reduceIte, not_false_eq_true, not_true_eq_false]
  · simp only [g_sI, aa_1, aa_2, aa_3, Nat.reduceEqDiff, false_and, and_false, true_and, and_true, if_false, if_true, reduceIte, not_false_eq_true, not_true_eq_false, rc 2 _ (by decide) (by decide) (by decide)]
    by_cases c : u = t
    · subst c; simp
    · simp [c]
  · simp only [g_sI, aa_1, aa_2, aa_3, Nat.reduceEqDiff, false_and, and_false, true_and, and_true, if_false, if_true, reduceIte, not_false_eq_true, not_true_eq_false, (s3 k).1]
  · simp only [g_sI, aa_1, aa_2, aa_3, Nat.reduceEqDiff, false_and, and_false, true_and, and_true, if_false, if_true, reduceIte, not_false_eq_true, not_true_eq_false, (s3 k).2]
  · simp only [g_sI, aa_1, aa_2, aa_3, Nat.reduceEqDiff, false_and, and_false, true_and, and_true, if_false, if_true, reduceIte, not_false_eq_true, not_true_eq_false, rc 5 _ (by decide) (by decide) (by decide)]
  · simp only [g_sI, aa_1, aa_2, aa_3, Nat.reduceEqDiff, false_and, and_false, true_and, and_true, if_false, if_true, reduceIte, not_false_eq_true, not_true_eq_false, rc 6 _ (by decide) (by decide) (by decide)]
  · simp only [g_sI, aa_1, aa_2, aa_3, Nat.reduceEqDiff, false_and, and_false, true_and, and_true, if_false, if_true, reduceIte, not_false_eq_true, not_true_eq_false, rc 7 _ (by decide) (by decide) (by decide)]
    by_cases c : u = p
    · subst c; simp
    · simp [c]
  · simp only [g_sI, aa_1, aa_2, aa_3, Nat.reduceEqDiff, false_and, and_false, true_and, and_true, if_false, if_true, reduceIte, not_false_eq_true, not_true_eq_false, rc 10 _ (by decide) (by decide) (by decide)]
    by_cases c : u = p
    · subst c; simp
    · simp [c]
  · simp only [g_sI, aa_1, aa_2, aa_3, Nat.reduceEqDiff, false_and, and_false, true_and, and_true, if_false, if_true, reduceIte, not_false_eq_true, not_true_eq_false, rc 11 _ (by decide) (by decide) (by decide)]
  · simp only [g_sI, aa_1, aa_2, aa_3, Nat.reduceEqDiff, false_and, and_false, true_and, and_true, if_false, if_true, reduceIte, not_false_eq_true, not_true_eq_false]
  · simp only [g_sI, aa_1, aa_2, aa_3, Nat.reduceEqDiff, false_and, and_false, true_and, and_true, if_false, if_true, reduceIte, not_false_eq_true, not_true_eq_false]
  · simp only [g_sI, aa_1, aa_2, aa_3, Nat.reduceEqDiff, false_and, and_false, true_and, and_true, if_false, if_true, reduceIte, not_false_eq_true, not_true_eq_false, ro 8 (by decide)]
  · simp only [g_sI, aa_1, aa_2, aa_3, Nat.reduceEqDiff, false_and, and_false, true_and, and_true, if_false, if_true, reduceIte, not_false_eq_true, not_true_eq_false]
  · simp only [g_sI, aa_1, aa_2, aa_3, Nat.reduceEqDiff, false_and, and_false, true_and, and_true, if_false, if_true, reduceIte, not_false_eq_true, not_true_eq_false]
  · simp only [g_sI, aa_1, aa_2, aa_3, Nat.reduceEqDiff, false_and, and_false, true_and, and_true, if_false, if_true, reduceIte, not_false_eq_true, not_true_eq_false]
  · simp only [g_sI, aa_1, aa_2, aa_3, Nat.reduceEqDiff, false_and, and_false, true_and, and_true, if_false, if_true, reduceIte, not_false_eq_true, not_true_eq_false]
  · have hn : ∀ j, (i = S * 7 + j) = False := fun j => eq_false (by omega)
    simp only [g_sI, aa_1, aa_2, aa_3, hn, Nat.reduceEqDiff, false_and, and_false, true_and, and_true, if_false, if_true, reduceIte, not_false_eq_true, not_true_eq_false, rc 1 _ (by decide) (by decide) (by decide)]
