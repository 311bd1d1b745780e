def okv (w : Nat) (v : Int32) : Prop := (w < 2 → ∃ r, r ≤ 9 ∧ v = nI r) ∧ (w = 2 → ∃ r, r ≤ 99 ∧ v = nI r) ∧ (w = 3 → -99 ≤ v ∧ v ≤ 99) ∧ (w = 4 → ∃ r, r ≤ 9 ∧ v = nI r)
theorem ch_keep0 {k : Nat} (hk : k < 10) {v x : Int32} (hv : okv 0 v) {m m' : Mem} (hp : ITp2 m m') (ht : ITt2 m m') : ITp2 (sI (sI m 2 k v) 1 16 x) (sI m' 86 (0 + k) v) ∧ ITt2 (sI (sI m 2 k v) 1 16 x) (sI m' 86 (0 + k) v) := by
  obtain ⟨v1, v2, v3, v4⟩ := hv
  refine ⟨fun p hp9 => ?_, fun p hp9 => ?_⟩
  · have hh := hp p hp9
    have f0 : (p = 0 + k) = (p = k) := propext ⟨fun q => by omega, fun q => by omega⟩
    have f10 : (10 + p = 0 + k) = False := eq_false (by omega)
    have f20 : (20 + p = 0 + k) = False := eq_false (by omega)
    by_cases hc : p = k
    · subst hc
      simp only [g_sI, gJ_sI, gI_sJ, gJ_sJ, Nat.reduceEqDiff, false_and, and_false, true_and, and_true, if_false, if_true, reduceIte, not_false_eq_true, not_true_eq_false, f0, f10, f20]
      exact ⟨⟨hh.1.2.1, hh.1.2.2.1, hh.1.2.2.2⟩, v1 (by decide), hh.2.2.1, hh.2.2.2.1, hh.2.2.2.2⟩
    · simp only [g_sI, gJ_sI, gI_sJ, gJ_sJ, Nat.reduceEqDiff, false_and, and_false, true_and, and_true, if_false, if_true, reduceIte, not_false_eq_true, not_true_eq_false, f0, f10, f20, hc]
      exact hh
  · have hh := ht p hp9
    have f30 : (30 + p = 0 + k) = False := eq_false (by omega)
    have f36 : (36 + p = 0 + k) = False := eq_false (by omega)
    by_cases hc : p = k
    · subst hc
      simp only [g_sI, gJ_sI, gI_sJ, gJ_sJ, Nat.reduceEqDiff, false_and, and_false, true_and, and_true, if_false, if_true, reduceIte, not_false_eq_true, not_true_eq_false, f30, f36]
      exact ⟨⟨hh.1.1, hh.1.2⟩, hh.2.1, hh.2.2⟩
    · simp only [g_sI, gJ_sI, gI_sJ, gJ_sJ, Nat.reduceEqDiff, false_and, and_false, true_and, and_true, if_false, if_true, reduceIte, not_false_eq_true, not_true_eq_false, f30, f36, hc]
      exact hh
theorem ch_keep1 {k : Nat} (hk : k < 10) {v x : Int32} (hv : okv 1 v) {m m' : Mem} (hp : ITp2 m m') (ht : ITt2 m m') : ITp2 (sI (sI m 3 k v) 1 16 x) (sI m' 86 (10 + k) v) ∧ ITt2 (sI (sI m 3 k v) 1 16 x) (sI m' 86 (10 + k) v) := by
  obtain ⟨v1, v2, v3, v4⟩ := hv
  refine ⟨fun p hp9 => ?_, fun p hp9 => ?_⟩
  · have hh := hp p hp9
    have f0 : (p = 10 + k) = False := eq_false (by omega)
    have f10 : (10 + p = 10 + k) = (p = k) := propext ⟨fun q => by omega, fun q => by omega⟩
    have f20 : (20 + p = 10 + k) = False := eq_false (by omega)
    by_cases hc : p = k
    · subst hc
      simp only [g_sI, gJ_sI, gI_sJ, gJ_sJ, Nat.reduceEqDiff, false_and, and_false, true_and, and_true, if_false, if_true, reduceIte, not_false_eq_true, not_true_eq_false, f0, f10, f20]
      exact ⟨⟨hh.1.1, hh.1.2.2.1, hh.1.2.2.2⟩, hh.2.1, v1 (by decide), hh.2.2.2.1, hh.2.2.2.2⟩
    · simp only [g_sI, gJ_sI, gI_sJ, gJ_sJ, Nat.reduceEqDiff, false_and, and_false, true_and, and_true, if_false, if_true, reduceIte, not_false_eq_true, not_true_eq_false, f0, f10, f20, hc]
      exact hh
  · have hh := ht p hp9
    have f30 : (30 + p = 10 + k) = False := eq_false (by omega)
    have f36 : (36 + p = 10 + k) = False := eq_false (by omega)
    by_cases hc : p = k
    · subst hc
      simp only [g_sI, gJ_sI, gI_sJ, gJ_sJ, Nat.reduceEqDiff, false_and, and_false, true_and, and_true, if_false, if_true, reduceIte, not_false_eq_true, not_true_eq_false, f30, f36]
      exact ⟨⟨hh.1.1, hh.1.2⟩, hh.2.1, hh.2.2⟩
    · simp only [g_sI, gJ_sI, gI_sJ, gJ_sJ, Nat.reduceEqDiff, false_and, and_false, true_and, and_true, if_false, if_true, reduceIte, not_false_eq_true, not_true_eq_false, f30, f36, hc]
      exact hh
theorem ch_keep2 {k : Nat} (hk : k < 10) {v x : Int32} (hv : okv 2 v) {m m' : Mem} (hp : ITp2 m m') (ht : ITt2 m m') : ITp2 (sI (sI m 5 k v) 1 16 x) (sI m' 86 (20 + k) v) ∧ ITt2 (sI (sI m 5 k v) 1 16 x) (sI m' 86 (20 + k) v) := by
  obtain ⟨v1, v2, v3, v4⟩ := hv
  refine ⟨fun p hp9 => ?_, fun p hp9 => ?_⟩
  · have hh := hp p hp9
    have f0 : (p = 20 + k) = False := eq_false (by omega)
    have f10 : (10 + p = 20 + k) = False := eq_false (by omega)
    have f20 : (20 + p = 20 + k) = (p = k) := propext ⟨fun q => by omega, fun q => by omega⟩
    by_cases hc : p = k
    · subst hc
      simp only [g_sI, gJ_sI, gI_sJ, gJ_sJ, Nat.reduceEqDiff, false_and, and_false, true_and, and_true, if_false, if_true, reduceIte, not_false_eq_true, not_true_eq_false, f0, f10, f20]
      exact ⟨⟨hh.1.1, hh.1.2.1, hh.1.2.2.2⟩, hh.2.1, hh.2.2.1, v2 rfl, hh.2.2.2.2⟩
    · simp only [g_sI, gJ_sI, gI_sJ, gJ_sJ, Nat.reduceEqDiff, false_and, and_false, true_and, and_true, if_false, if_true, reduceIte, not_false_eq_true, not_true_eq_false, f0, f10, f20, hc]
      exact hh
  · have hh := ht p hp9
    have f30 : (30 + p = 20 + k) = False := eq_false (by omega)
    have f36 : (36 + p = 20 + k) = False := eq_false (by omega)
    by_cases hc : p = k
    · subst hc
      simp only [g_sI, gJ_sI, gI_sJ, gJ_sJ, Nat.reduceEqDiff, false_and, and_false, true_and, and_true, if_false, if_true, reduceIte, not_false_eq_true, not_true_eq_false, f30, f36]
      exact ⟨⟨hh.1.1, hh.1.2⟩, hh.2.1, hh.2.2⟩
    · simp only [g_sI, gJ_sI, gI_sJ, gJ_sJ, Nat.reduceEqDiff, false_and, and_false, true_and, and_true, if_false, if_true, reduceIte, not_false_eq_true, not_true_eq_false, f30, f36, hc]
      exact hh
theorem ch_keep3 {k : Nat} (hk : k < 6) {v x : Int32} (hv : okv 3 v) {m m' : Mem} (hp : ITp2 m m') (ht : ITt2 m m') : ITp2 (sI (sI m 6 k v) 1 16 x) (sI m' 86 (30 + k) v) ∧ ITt2 (sI (sI m 6 k v) 1 16 x) (sI m' 86 (30 + k) v) := by
  obtain ⟨v1, v2, v3, v4⟩ := hv
  refine ⟨fun p hp9 => ?_, fun p hp9 => ?_⟩
  · have hh := hp p hp9
    have f0 : (p = 30 + k) = False := eq_false (by omega)
    have f10 : (10 + p = 30 + k) = False := eq_false (by omega)
    have f20 : (20 + p = 30 + k) = False := eq_false (by omega)
    by_cases hc : p = k
    · subst hc
      simp only [g_sI, gJ_sI, gI_sJ, gJ_sJ, Nat.reduceEqDiff, false_and, and_false, true_and, and_true, if_false, if_true, reduceIte, not_false_eq_true, not_true_eq_false, f0, f10, f20]
      exact ⟨⟨hh.1.1, hh.1.2.1, hh.1.2.2.1, hh.1.2.2.2⟩, hh.2.1, hh.2.2.1, hh.2.2.2.1, hh.2.2.2.2⟩
    · simp only [g_sI, gJ_sI, gI_sJ, gJ_sJ, Nat.reduceEqDiff, false_and, and_false, true_and, and_true, if_false, if_true, reduceIte, not_false_eq_true, not_true_eq_false, f0, f10, f20, hc]
      exact hh
  · have hh := ht p hp9
    have f30 : (30 + p = 30 + k) = (p = k) := propext ⟨fun q => by omega, fun q => by omega⟩
    have f36 : (36 + p = 30 + k) = False := eq_false (by omega)
    by_cases hc : p = k
    · subst hc
      simp only [g_sI, gJ_sI, gI_sJ, gJ_sJ, Nat.reduceEqDiff, false_and, and_false, true_and, and_true, if_false, if_true, reduceIte, not_false_eq_true, not_true_eq_false, f30, f36]
      exact ⟨hh.1.2, v3 rfl, hh.2.2⟩
    · simp only [g_sI, gJ_sI, gI_sJ, gJ_sJ, Nat.reduceEqDiff, false_and, and_false, true_and, and_true, if_false, if_true, reduceIte, not_false_eq_true, not_true_eq_false, f30, f36, hc]
      exact hh
theorem ch_keep4 {k : Nat} (hk : k < 6) {v x : Int32} (hv : okv 4 v) {m m' : Mem} (hp : ITp2 m m') (ht : ITt2 m m') : ITp2 (sI (sI m 7 k v) 1 16 x) (sI m' 86 (36 + k) v) ∧ ITt2 (sI (sI m 7 k v) 1 16 x) (sI m' 86 (36 + k) v) := by
  obtain ⟨v1, v2, v3, v4⟩ := hv
  refine ⟨fun p hp9 => ?_, fun p hp9 => ?_⟩
  · have hh := hp p hp9
    have f0 : (p = 36 + k) = False := eq_false (by omega)
    have f10 : (10 + p = 36 + k) = False := eq_false (by omega)
    have f20 : (20 + p = 36 + k) = False := eq_false (by omega)
    by_cases hc : p = k
    · subst hc
      simp only [g_sI, gJ_sI, gI_sJ, gJ_sJ, Nat.reduceEqDiff, false_and, and_false, true_and, and_true, if_false, if_true, reduceIte, not_false_eq_true, not_true_eq_false, f0, f10, f20]
      exact ⟨⟨hh.1.1, hh.1.2.1, hh.1.2.2.1, hh.1.2.2.2⟩, hh.2.1, hh.2.2.1, hh.2.2.2.1, hh.2.2.2.2⟩
    · simp only [g_sI, gJ_sI, gI_sJ, gJ_sJ, Nat.reduceEqDiff, false_and, and_false, true_and, and_true, if_false, if_true, reduceIte, not_false_eq_true, not_true_eq_false, f0, f10, f20, hc]
      exact hh
  · have hh := ht p hp9
    have f30 : (30 + p = 36 + k) = False := eq_false (by omega)
    have f36 : (36 + p = 36 + k) = (p = k) := propext ⟨fun q => by omega, fun q => by omega⟩
    by_cases hc : p = k
    · subst hc
      simp only [g_sI, gJ_sI, gI_sJ, gJ_sJ, Nat.reduceEqDiff, false_and, and_false, true_and, and_true, if_false, if_true, reduceIte, not_false_eq_true, not_true_eq_false, f30, f36]
      exact ⟨hh.1.1, hh.2.1, v4 rfl⟩
    · simp only [g_sI, gJ_sI, gI_sJ, gJ_sJ, Nat.reduceEqDiff, false_and, and_false, true_and, and_true, if_false, if_true, reduceIte, not_false_eq_true, not_true_eq_false, f30, f36, hc]
      exact hh
