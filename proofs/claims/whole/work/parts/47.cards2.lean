theorem len_1 : ∀ t, t ≤ 4 → (nI t = 1 ↔ t = 1) ∧ (nI (50 + t) = 51 ↔ t = 1) := by
  intro t ht
  exact ⟨eq_nn (b := 1) (by omega) (by decide), ⟨fun q => by have := (eq_nn (b := 51) (by omega) (by decide)).mp q; omega, fun q => by subst q; rfl⟩⟩
/-- two memories that agree where a call begins: the class at m, the reference at m' -/
theorem op_cards {P T C V B : Nat} {m m' : Mem} (h : ITn2 P T C V m m') (hc : ITc2 T C m m') (hb : ITb C m) (hS : IS B m) (h6 : ∀ i, gI m' 126 i = gI m 126 i) (h7 : ∀ i, gI m' 127 i = gI m 127 i) (h8 : ∀ i, gJ m' 128 i = gJ m 128 i) (d i n : Int32) : ∃ v n1 n2 C' V', f_X8_cards d i n m = some (v, n1) ∧ f_X9_cards d i n m' = some (v, n2) ∧ ITn2 P T C' V' n1 n2 ∧ ITc2 T C' n1 n2 ∧ ITb C' n1 ∧ V' ≤ V + 20 := by
  have n10 : ¬ ((1 : Int32) = 0) := by decide
  have no : ∀ v, f_X8_cards d i n m = some (v, m) → f_X9_cards d i n m' = some (v, m') → ∃ v n1 n2 C' V', f_X8_cards d i n m = some (v, n1) ∧ f_X9_cards d i n m' = some (v, n2) ∧ ITn2 P T C' V' n1 n2 ∧ ITc2 T C' n1 n2 ∧ ITb C' n1 ∧ V' ≤ V + 20 := fun v q1 q2 => ⟨v, m, m', C, V, q1, q2, h, hc, hb, by omega⟩
  rcases nn_cases 5 (by decide) d with ⟨k, hk, rfl⟩ | hbad
  · have hk6 : k < 6 := by omega
    have ek : ∀ {T : Type} (K : Option T), ck (nI k) 6 K = K := fun K => ck_in hk6 (by decide)
    have ei : ix (nI k) = k := ix_n (by omega)
    have wn : ∀ m, f_X9_within n.toInt64 1 20 m = some (bi (decide (¬ n < 1 ∧ ¬ 20 < n)), m) := fun m => within_i n 1 20 (L := 1) (H := 20) rfl rfl m
    by_cases hn : ¬ n < 1 ∧ ¬ 20 < n
    · have hn' := hn
      obtain ⟨hn1, hn2⟩ := hn
      have hn3 : n ≤ 20 := Int32.not_lt.mp hn2
      obtain ⟨w, hw, rfl⟩ := nn_of (n := 20) (c := n) (by decide) (fun q => hn1 (Int32.lt_trans q (by decide))) hn2
      have w1 : ∀ m, f_X9_within (nI w).toInt64 1 20 m = some (1, m) := fun m => by rw [wn, decide_eq_true hn']; rfl
      obtain ⟨⟨ln, hl, a1, a2⟩, a3, a4⟩ := hS k hk6
      have hX : f_X8_cards (nI k) i (nI w) m = if ¬ gI m (73 + 2 * k) 0 = -2 then if ¬ gI m (73 + 2 * k) 0 = 1 then some (-12, m) else (f_X6_addCards (73 + 2 * k) i (nI w) m).bind (fun q3 => some (q3.1, q3.2)) else some (0, m) := by
        unfold f_X8_cards
        rw [noShelf_ok hk6]
        simp only [bnd, some_bind, g_sI, gJ_sI, gI_sJ, gJ_sJ, Nat.reduceEqDiff, false_and, and_false, true_and, and_true, if_false, if_true, reduceIte, not_false_eq_true, not_true_eq_false, hn1, hn3, ek, ei]
      have hY : f_X9_cards (nI k) i (nI w) m' = if gI m 126 k < 0 then f_X9_cards_J44 (nI k) i (nI w) m' else if gI m 126 k = 51 then f_X9_cards_J44 (nI k) i (nI w) m' else some (-12, m') := by
        unfold f_X9_cards
        rw [isShelf_ok hk6]
        simp only [bnd, some_bind, g_sI, gJ_sI, gI_sJ, gJ_sJ, Nat.reduceEqDiff, false_and, and_false, true_and, and_true, if_false, if_true, reduceIte, not_false_eq_true, not_true_eq_false, w1, ek, ei, n10, h6]
      have z0 : wh f_X9_cards_L69 (nI k, i, nI w, 0, 0, m') = some (0, m') := wh_done (by unfold f_X9_cards_L69; rfl)
      rcases a3 with ⟨a5, a6⟩ | ⟨b, hb1, hb5, a5, a6, a7⟩ | ⟨t, ht, a5, a6, a7⟩
      · refine no 0 ?_ ?_
        · rw [hX, a6]; rfl
        · rw [hY, a5, if_pos (by decide)]
          unfold f_X9_cards_J44
          simp only [ek, ei, h6, a5, z0, show ¬ ((-1 : Int32) = 51) by decide, Nat.reduceEqDiff, false_and, and_false, true_and, and_true, if_false, if_true, reduceIte, not_false_eq_true, not_true_eq_false]
      · refine no (-12) ?_ ?_
        · rw [hX, a6]; rfl
        · rw [hY, a5, if_neg (nn_lt0 (by omega)), if_neg (fun q => by have := (eq_nn (b := 51) (by omega) (by decide)).mp q; omega)]
      · obtain ⟨t1, t2⟩ := len_1 t ht
        rw [a6, if_pos (sh_t ht).2] at hX
        rw [a5, if_neg (nn_lt0 (by omega))] at hY
        by_cases ht1 : t = 1
        · rw [if_neg (fun q => q (t1.mpr ht1))] at hX
          rw [if_pos (t2.mpr ht1)] at hY
          have h51 : gI m' 126 k = 51 := by rw [h6, a5]; exact t2.mpr ht1
          by_cases hi : i < 0
          · refine no 0 ?_ ?_
            · rw [hX]
              unfold f_X6_addCards
              have : wh (f_X6_addCards_L3 (73 + 2 * k)) (i, nI w, 0, m) = some (0, m) := by
                refine wh_done ?_
                have q1 : ¬ nI w ≤ 0 := fun q => hn1 (Int32.lt_of_le_of_lt q (by decide))
                have q2 : ¬ inRun ln i ((3 : Int32) * 0 + 3) := fun q => by
                  have := q.2.1
                  rw [Int32.lt_iff_toInt_lt] at hi
                  change i.toInt < 0 at hi
                  omega
                unfold f_X6_addCards_L3
                simp only [q1, run_n a1 hl q2, some_bind, Nat.reduceEqDiff, false_and, and_false, true_and, and_true, if_false, if_true, reduceIte, not_false_eq_true, not_true_eq_false]
                split <;> rfl
              rw [this]; rfl
            · rw [hY]
              unfold f_X9_cards_J44
              simp only [ek, ei, h51, hi, z0, Nat.reduceEqDiff, false_and, and_false, true_and, and_true, if_false, if_true, reduceIte, not_false_eq_true, not_true_eq_false]
          · obtain ⟨i0, hi0, rfl⟩ : ∃ i0, i0 < 2 ^ 31 ∧ i = nI i0 := by
              obtain ⟨q1, q2⟩ := nI_up (Int32.not_lt.mp hi)
              exact ⟨_, q2, q1.symm⟩
            have hSH : SHc k ln m m' := ⟨⟨a1, (h7 k).trans a2⟩, fun i hi => by
              obtain ⟨y, hy⟩ := a7 ht1 i hi
              exact ⟨y, hy, by rw [h8, ← a4 i hi, hy]⟩⟩
            obtain ⟨v, n1, n2, C', V', o1, o2, o3, o4, o5, o6⟩ := cards_loop hk6 hl hw hi0 w 0 C V m m' (by omega) h hc hb hSH
            refine ⟨v, n1, n2, C', V', ?_, ?_, o3, o4, o5, by omega⟩
            · rw [hX]
              unfold f_X6_addCards
              rw [show (nI i0, nI w, (0 : Int32), m) = (nI i0, nI w, nI 0, m) from rfl, o1]
              rfl
            · rw [hY]
              unfold f_X9_cards_J44
              simp only [ek, ei, h51, hi, Nat.reduceEqDiff, false_and, and_false, true_and, and_true, if_false, if_true, reduceIte, not_false_eq_true, not_true_eq_false]
              exact o2
        · rw [if_pos (fun q => ht1 (t1.mp q))] at hX
          rw [if_neg (fun q => ht1 (t2.mp q))] at hY
          exact no (-12) hX hY
    · refine no (-1) ?_ ?_
      · unfold f_X8_cards
        rw [noShelf_ok hk6, some_bind, if_neg (show ¬ ¬ ((0 : Int32) = 0) by decide)]
        by_cases q1 : n < 1
        · rw [if_pos q1]
        · rw [if_neg q1, if_neg (Int32.not_le.mpr (Classical.byContradiction fun q => hn ⟨q1, q⟩))]
      · unfold f_X9_cards
        rw [isShelf_ok hk6, some_bind, if_neg n10]
        simp only [wn, decide_eq_false hn, some_bind, show bi false = 0 from rfl, Nat.reduceEqDiff, false_and, and_false, true_and, and_true, if_false, if_true, reduceIte, not_false_eq_true, not_true_eq_false]
  · refine no (-1) ?_ ?_
    · unfold f_X8_cards
      rw [noShelf_bad hbad]
      simp only [bnd, some_bind, g_sI, gJ_sI, gI_sJ, gJ_sJ, Nat.reduceEqDiff, false_and, and_false, true_and, and_true, if_false, if_true, reduceIte, not_false_eq_true, not_true_eq_false, n10]
    · unfold f_X9_cards
      rw [isShelf_bad hbad]
      simp only [bnd, some_bind, g_sI, gJ_sI, gI_sJ, gJ_sJ, Nat.reduceEqDiff, false_and, and_false, true_and, and_true, if_false, if_true, reduceIte, not_false_eq_true, not_true_eq_false]
