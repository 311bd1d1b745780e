/-! CHANGES: mend, undo, redo -/
def IC2 (D K : Nat) (m m' : Mem) : Prop := (gI m 19 4 = nI D ∧ gI m' 85 5 = nI D) ∧ (gI m 19 5 = nI K ∧ gI m' 85 4 = nI K) ∧ (D ≤ K ∧ K ≤ 40) ∧ ∀ i, i < K → ∃ w k, (w < 5 ∧ k < chN w) ∧ (gI m 20 i = nI k ∧ gI m 21 i = nI w ∧ gI m' 87 i = nI (chB w + k)) ∧ (gI m 22 i = gI m' 88 i ∧ gI m 23 i = gI m' 89 i) ∧ okv w (gI m 22 i) ∧ okv w (gI m 23 i)
theorem w5 {w : Nat} (h : w < 5) : w = 0 ∨ w = 1 ∨ w = 2 ∨ w = 3 ∨ w = 4 := by omega
theorem ch_keep {w k : Nat} (hw : w < 5) (hk : k < chN w) {v x : Int32} (hv : okv w v) {m m' : Mem} (hp : ITp2 m m') (ht : ITt2 m m') : ITp2 (sI (sI m (chC w) k v) 1 16 x) (sI m' 86 (chB w + k) v) ∧ ITt2 (sI (sI m (chC w) k v) 1 16 x) (sI m' 86 (chB w + k) v) := by
  rcases w5 hw with rfl | rfl | rfl | rfl | rfl
  · exact ch_keep0 hk hv hp ht
  · exact ch_keep1 hk hv hp ht
  · exact ch_keep2 hk hv hp ht
  · exact ch_keep3 hk hv hp ht
  · exact ch_keep4 hk hv hp ht
theorem chC_far {w : Nat} (hw : w < 5) : ∀ c, (c = 1 ∨ 8 ≤ c) → ¬ c = chC w := by
  rcases w5 hw with rfl | rfl | rfl | rfl | rfl <;> (intro c hc; show ¬ c = _; simp only [chC, List.getD_cons_zero, List.getD_cons_succ]; omega)
theorem chB_lt {w k : Nat} (hw : w < 5) (hk : k < chN w) : chB w + k < 42 ∧ k < 10 := by
  rcases w5 hw with rfl | rfl | rfl | rfl | rfl <;> (simp only [chN, chB, List.getD_cons_zero, List.getD_cons_succ] at hk ⊢; simp at hk; omega)
/-- a change at both sides, the rest as it was -/
theorem ch_n {P T C V w k : Nat} {m m' : Mem} (hw : w < 5) (h : ITn2 P T C V m m') {v : Int32} : ITn2 P T C (V + 1) (sI (sI m (chC w) k v) 1 16 (nI (V + 1))) (sI m' 86 (chB w + k) v) := by
  have f := chC_far hw
  obtain ⟨⟨n1, n2, n3⟩, ⟨n4, n5, n6⟩, ⟨n7, n8, n9⟩, n0⟩ := h
  refine ⟨⟨?_, ?_, n3⟩, ⟨?_, ?_, n6⟩, ⟨?_, ?_, n9⟩, ?_⟩
  · simp only [g_sI, gJ_sI, gI_sJ, gJ_sJ, Nat.reduceEqDiff, false_and, and_false, true_and, and_true, if_false, if_true, reduceIte, not_false_eq_true, not_true_eq_false, f 1 (Or.inl rfl), n1]
  · simp only [g_sI, gJ_sI, gI_sJ, gJ_sJ, Nat.reduceEqDiff, false_and, and_false, true_and, and_true, if_false, if_true, reduceIte, not_false_eq_true, not_true_eq_false, n2]
  · simp only [g_sI, gJ_sI, gI_sJ, gJ_sJ, Nat.reduceEqDiff, false_and, and_false, true_and, and_true, if_false, if_true, reduceIte, not_false_eq_true, not_true_eq_false, f 1 (Or.inl rfl), n4]
  · simp only [g_sI, gJ_sI, gI_sJ, gJ_sJ, Nat.reduceEqDiff, false_and, and_false, true_and, and_true, if_false, if_true, reduceIte, not_false_eq_true, not_true_eq_false, n5]
  · simp only [g_sI, gJ_sI, gI_sJ, gJ_sJ, Nat.reduceEqDiff, false_and, and_false, true_and, and_true, if_false, if_true, reduceIte, not_false_eq_true, not_true_eq_false, f 1 (Or.inl rfl), n7]
  · simp only [g_sI, gJ_sI, gI_sJ, gJ_sJ, Nat.reduceEqDiff, false_and, and_false, true_and, and_true, if_false, if_true, reduceIte, not_false_eq_true, not_true_eq_false, n8]
  · simp only [g_sI, gJ_sI, gI_sJ, gJ_sJ, Nat.reduceEqDiff, false_and, and_false, true_and, and_true, if_false, if_true, reduceIte, not_false_eq_true, not_true_eq_false]
theorem nD_sub {D : Nat} (h : D ≠ 0) : nI D - 1 = nI (D - 1) := by
  obtain ⟨d, rfl⟩ : ∃ d, D = d + 1 := ⟨D - 1, by omega⟩
  exact nI_pred d
theorem op_undo {P T C V D K : Nat} {m m' : Mem} (h : ITn2 P T C V m m') (hp : ITp2 m m') (ht : ITt2 m m') (hc : IC2 D K m m') : ∃ v n n' , f_X8_undo m = some (v, n) ∧ f_X9_undo m' = some (v, n') ∧ ((n = m ∧ n' = m') ∨ (ITn2 P T C (V + 1) n n' ∧ ITp2 n n' ∧ ITt2 n n' ∧ ∃ D', IC2 D' K n n')) := by
  have hc0 := hc
  have n0 := h.2.2.2
  obtain ⟨⟨c1, c2⟩, ⟨c3, c4⟩, ⟨c5, c6⟩, c7⟩ := hc
  have n10 : ¬ ((1 : Int32) = 0) := by decide
  unfold f_X8_undo f_X9_undo f_X1_goBack
  rw [c1, c2]
  by_cases hD : D = 0
  · subst hD
    exact ⟨-5, m, m', by rw [if_neg (fun q => q rfl), bz_0, some_bind, if_neg (fun q => q rfl)], by rw [if_neg (fun q => q rfl)], Or.inl ⟨rfl, rfl⟩⟩
  · obtain ⟨w, k, ⟨hw, hk⟩, ⟨a1, a2, a3⟩, ⟨b1, b2⟩, o1, o2⟩ := c7 (D - 1) (by omega)
    obtain ⟨l1, l2⟩ := chB_lt hw hk
    have f := chC_far hw
    have hD0 : ¬ nI D = 0 := fun q => hD ((eq_nn (b := 0) (by omega) (by decide)).mp q)
    have ek : ∀ {T : Type} (K : Option T), ck (nI (D - 1)) 40 K = K := fun K => ck_in (by omega) (by decide)
    have ei : ix (nI (D - 1)) = D - 1 := ix_n (by omega)
    have ek2 : ∀ {T : Type} (K : Option T), ck (nI (chB w + k)) 42 K = K := fun K => ck_in l1 (by decide)
    have ei2 : ix (nI (chB w + k)) = chB w + k := ix_n (by omega)
    have hX : ∀ m1, m1 = sI m 19 4 (nI (D - 1)) → f_X6_change (nI k) (nI w) (gI m 22 (D - 1)) m1 = some (sI (sI m1 (chC w) k (gI m 22 (D - 1))) 1 16 (nI (V + 1))) := fun m1 e => by
      rw [change_v hw hk, show gI m1 1 16 = nI V by rw [e]; simp only [g_sI, gJ_sI, gI_sJ, gJ_sJ, Nat.reduceEqDiff, false_and, and_false, true_and, and_true, if_false, if_true, reduceIte, not_false_eq_true, not_true_eq_false, n0], nI_1]
    refine ⟨nI (D - 1), sI (sI (sI m 19 4 (nI (D - 1))) (chC w) k (gI m 22 (D - 1))) 1 16 (nI (V + 1)), sI (sI m' 85 5 (nI (D - 1))) 86 (chB w + k) (gI m' 88 (D - 1)), ?_, ?_, Or.inr ⟨?_, ?_⟩⟩
    · simp only [bnd, some_bind, g_sI, gJ_sI, gI_sJ, gJ_sJ, Nat.reduceEqDiff, false_and, and_false, true_and, and_true, if_false, if_true, reduceIte, not_false_eq_true, not_true_eq_false, hD0, n10, nD_sub hD, bz_1, ek, ei, a1, a2, hX _ rfl, f 19 (Or.inr (by decide))]
    · simp only [bnd, some_bind, g_sI, gJ_sI, gI_sJ, gJ_sJ, Nat.reduceEqDiff, false_and, and_false, true_and, and_true, if_false, if_true, reduceIte, not_false_eq_true, not_true_eq_false, hD0, nD_sub hD, ek, ei, ek2, ei2, a3]
    · have h' : ITn2 P T C V (sI m 19 4 (nI (D - 1))) (sI m' 85 5 (nI (D - 1))) := by
        unfold ITn2 at h ⊢
        simp only [g_sI, gJ_sI, gI_sJ, gJ_sJ, Nat.reduceEqDiff, false_and, and_false, true_and, and_true, if_false, if_true, reduceIte, not_false_eq_true, not_true_eq_false]
        exact h
      rw [← b1]
      exact ch_n hw h'
    · have hp' : ITp2 (sI m 19 4 (nI (D - 1))) (sI m' 85 5 (nI (D - 1))) := by
        intro p hp9
        have := hp p hp9
        simp only [g_sI, gJ_sI, gI_sJ, gJ_sJ, Nat.reduceEqDiff, false_and, and_false, true_and, and_true, if_false, if_true, reduceIte, not_false_eq_true, not_true_eq_false]
        exact this
      have ht' : ITt2 (sI m 19 4 (nI (D - 1))) (sI m' 85 5 (nI (D - 1))) := by
        intro p hp9
        have := ht p hp9
        simp only [g_sI, gJ_sI, gI_sJ, gJ_sJ, Nat.reduceEqDiff, false_and, and_false, true_and, and_true, if_false, if_true, reduceIte, not_false_eq_true, not_true_eq_false]
        exact this
      obtain ⟨r1, r2⟩ := ch_keep (x := nI (V + 1)) hw hk o1 hp' ht'
      rw [← b1]
      refine ⟨r1, r2, D - 1, ⟨?_, ?_⟩, ⟨?_, ?_⟩, ⟨by omega, c6⟩, fun i hi => ?_⟩
      · simp only [g_sI, gJ_sI, gI_sJ, gJ_sJ, Nat.reduceEqDiff, false_and, and_false, true_and, and_true, if_false, if_true, reduceIte, not_false_eq_true, not_true_eq_false, f 19 (Or.inr (by decide))]
      · simp only [g_sI, gJ_sI, gI_sJ, gJ_sJ, Nat.reduceEqDiff, false_and, and_false, true_and, and_true, if_false, if_true, reduceIte, not_false_eq_true, not_true_eq_false]
      · simp only [g_sI, gJ_sI, gI_sJ, gJ_sJ, Nat.reduceEqDiff, false_and, and_false, true_and, and_true, if_false, if_true, reduceIte, not_false_eq_true, not_true_eq_false, f 19 (Or.inr (by decide)), c3]
      · simp only [g_sI, gJ_sI, gI_sJ, gJ_sJ, Nat.reduceEqDiff, false_and, and_false, true_and, and_true, if_false, if_true, reduceIte, not_false_eq_true, not_true_eq_false, c4]
      · simp only [g_sI, gJ_sI, gI_sJ, gJ_sJ, Nat.reduceEqDiff, false_and, and_false, true_and, and_true, if_false, if_true, reduceIte, not_false_eq_true, not_true_eq_false, f 20 (Or.inr (by decide)), f 21 (Or.inr (by decide)), f 22 (Or.inr (by decide)), f 23 (Or.inr (by decide))]
        exact c7 i hi
theorem op_redo {P T C V D K : Nat} {m m' : Mem} (h : ITn2 P T C V m m') (hp : ITp2 m m') (ht : ITt2 m m') (hc : IC2 D K m m') : ∃ v n n' , f_X8_redo m = some (v, n) ∧ f_X9_redo m' = some (v, n') ∧ ((n = m ∧ n' = m') ∨ (ITn2 P T C (V + 1) n n' ∧ ITp2 n n' ∧ ITt2 n n' ∧ ∃ D', IC2 D' K n n')) := by
  have hc0 := hc
  have n0 := h.2.2.2
  obtain ⟨⟨c1, c2⟩, ⟨c3, c4⟩, ⟨c5, c6⟩, c7⟩ := hc
  have n10 : ¬ ((1 : Int32) = 0) := by decide
  unfold f_X8_redo f_X9_redo f_X1_goOn
  rw [c1, c2, c3, c4]
  by_cases hD : D = K
  · subst hD
    refine ⟨-5, m, m', ?_, ?_, Or.inl ⟨rfl, rfl⟩⟩
    · rw [if_neg (Int32.lt_irrefl), bz_0, some_bind, if_neg (fun q => q rfl)]
    · rw [if_neg (fun q => q rfl)]
  · obtain ⟨w, k, ⟨hw, hk⟩, ⟨a1, a2, a3⟩, ⟨b1, b2⟩, o1, o2⟩ := c7 D (by omega)
    obtain ⟨l1, l2⟩ := chB_lt hw hk
    have f := chC_far hw
    have hD0 : ¬ nI D = nI K := fun q => hD ((eq_nn (by omega) (by omega)).mp q)
    have hD1 : nI D < nI K := nI_lt (by omega) (by omega)
    have ek : ∀ {T : Type} (K : Option T), ck (nI D) 40 K = K := fun K => ck_in (by omega) (by decide)
    have ei : ix (nI D) = D := ix_n (by omega)
    have ek2 : ∀ {T : Type} (K : Option T), ck (nI (chB w + k)) 42 K = K := fun K => ck_in l1 (by decide)
    have ei2 : ix (nI (chB w + k)) = chB w + k := ix_n (by omega)
    have es : nI K - nI (D + 1) = nI (K - (D + 1)) := nI_sub (by omega)
    have hX : ∀ m1, m1 = sI m 19 4 (nI (D + 1)) → f_X6_change (nI k) (nI w) (gI m 23 D) m1 = some (sI (sI m1 (chC w) k (gI m 23 D)) 1 16 (nI (V + 1))) := fun m1 e => by
      rw [change_v hw hk, show gI m1 1 16 = nI V by rw [e]; simp only [g_sI, gJ_sI, gI_sJ, gJ_sJ, Nat.reduceEqDiff, false_and, and_false, true_and, and_true, if_false, if_true, reduceIte, not_false_eq_true, not_true_eq_false, n0], nI_1]
    refine ⟨nI (K - (D + 1)), sI (sI (sI m 19 4 (nI (D + 1))) (chC w) k (gI m 23 D)) 1 16 (nI (V + 1)), sI (sI m' 86 (chB w + k) (gI m' 89 D)) 85 5 (nI (D + 1)), ?_, ?_, Or.inr ⟨?_, ?_⟩⟩
    · simp only [bnd, some_bind, g_sI, gJ_sI, gI_sJ, gJ_sJ, Nat.reduceEqDiff, false_and, and_false, true_and, and_true, if_false, if_true, reduceIte, not_false_eq_true, not_true_eq_false, hD1, n10, nI_1, nI_pred, bz_1, ek, ei, a1, a2, hX _ rfl, f 19 (Or.inr (by decide)), c3, es]
    · simp only [bnd, some_bind, g_sI, gJ_sI, gI_sJ, gJ_sJ, Nat.reduceEqDiff, false_and, and_false, true_and, and_true, if_false, if_true, reduceIte, not_false_eq_true, not_true_eq_false, hD0, ek, ei, ek2, ei2, a3, c2, c4, nI_1, es]
    · have h' : ITn2 P T C V (sI m 19 4 (nI (D + 1))) m' := by
        unfold ITn2 at h ⊢
        simp only [g_sI, gJ_sI, gI_sJ, gJ_sJ, Nat.reduceEqDiff, false_and, and_false, true_and, and_true, if_false, if_true, reduceIte, not_false_eq_true, not_true_eq_false]
        exact h
      rw [← b2]
      have := ch_n (k := k) hw h' (v := gI m 23 D)
      unfold ITn2 at this ⊢
      simp only [g_sI, gJ_sI, gI_sJ, gJ_sJ, Nat.reduceEqDiff, false_and, and_false, true_and, and_true, if_false, if_true, reduceIte, not_false_eq_true, not_true_eq_false] at this ⊢
      exact this
    · have hp' : ITp2 (sI m 19 4 (nI (D + 1))) m' := by
        intro p hp9
        have := hp p hp9
        simp only [g_sI, gJ_sI, gI_sJ, gJ_sJ, Nat.reduceEqDiff, false_and, and_false, true_and, and_true, if_false, if_true, reduceIte, not_false_eq_true, not_true_eq_false]
        exact this
      have ht' : ITt2 (sI m 19 4 (nI (D + 1))) m' := by
        intro p hp9
        have := ht p hp9
        simp only [g_sI, gJ_sI, gI_sJ, gJ_sJ, Nat.reduceEqDiff, false_and, and_false, true_and, and_true, if_false, if_true, reduceIte, not_false_eq_true, not_true_eq_false]
        exact this
      obtain ⟨r1, r2⟩ := ch_keep (x := nI (V + 1)) hw hk o2 hp' ht'
      rw [← b2]
      refine ⟨fun p hp9 => ?_, fun p hp9 => ?_, D + 1, ⟨?_, ?_⟩, ⟨?_, ?_⟩, ⟨by omega, c6⟩, fun i hi => ?_⟩
      · have := r1 p hp9
        simp only [g_sI, gJ_sI, gI_sJ, gJ_sJ, Nat.reduceEqDiff, false_and, and_false, true_and, and_true, if_false, if_true, reduceIte, not_false_eq_true, not_true_eq_false] at this ⊢
        exact this
      · have := r2 p hp9
        simp only [g_sI, gJ_sI, gI_sJ, gJ_sJ, Nat.reduceEqDiff, false_and, and_false, true_and, and_true, if_false, if_true, reduceIte, not_false_eq_true, not_true_eq_false] at this ⊢
        exact this
      · simp only [g_sI, gJ_sI, gI_sJ, gJ_sJ, Nat.reduceEqDiff, false_and, and_false, true_and, and_true, if_false, if_true, reduceIte, not_false_eq_true, not_true_eq_false, f 19 (Or.inr (by decide))]
      · simp only [g_sI, gJ_sI, gI_sJ, gJ_sJ, Nat.reduceEqDiff, false_and, and_false, true_and, and_true, if_false, if_true, reduceIte, not_false_eq_true, not_true_eq_false]
      · simp only [g_sI, gJ_sI, gI_sJ, gJ_sJ, Nat.reduceEqDiff, false_and, and_false, true_and, and_true, if_false, if_true, reduceIte, not_false_eq_true, not_true_eq_false, f 19 (Or.inr (by decide)), c3]
      · simp only [g_sI, gJ_sI, gI_sJ, gJ_sJ, Nat.reduceEqDiff, false_and, and_false, true_and, and_true, if_false, if_true, reduceIte, not_false_eq_true, not_true_eq_false, c4]
      · simp only [g_sI, gJ_sI, gI_sJ, gJ_sJ, Nat.reduceEqDiff, false_and, and_false, true_and, and_true, if_false, if_true, reduceIte, not_false_eq_true, not_true_eq_false, f 20 (Or.inr (by decide)), f 21 (Or.inr (by decide)), f 22 (Or.inr (by decide)), f 23 (Or.inr (by decide))]
        exact c7 i hi
