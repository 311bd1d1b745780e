/-! CARDS again: whether anything came; PEOPLE and THINGS: what else stays -/
theorem cards_loop2 {P T k ln w i0 : Nat} (hk : k < 6) (hl : ln ≤ 60) (hw : w ≤ 20) (hi0 : i0 < 2 ^ 31) : ∀ j came C V m m', came + j = w → ITn2 P T C V m m' → ITc2 T C m m' → ITb C m → SHc k ln m m' → ∃ v n n' C' V', wh (f_X6_addCards_L3 (73 + 2 * k)) (nI i0, nI w, nI came, m) = some (v, n) ∧ wh f_X9_cards_L69 (nI k, nI i0, nI w, nI came, 1, m') = some (v, n') ∧ ITn2 P T C' V' n n' ∧ ITc2 T C' n n' ∧ ITb C' n ∧ V' ≤ V + j ∧ V ≤ V' ∧ (V < V' ∨ (n = m ∧ n' = m')) := by
  have n10 : ¬ ((1 : Int32) = 0) := by decide
  have ek : ∀ {T' : Type} (K : Option T'), ck (nI k) 6 K = K := fun K => ck_in hk (by decide)
  have ei : ix (nI k) = k := ix_n (by omega)
  -- the reference ends: flag 0
  have ref0 : ∀ came (m' : Mem), wh f_X9_cards_L69 (nI k, nI i0, nI w, nI came, 0, m') = some (nI came, m') := fun came m' => wh_done (by unfold f_X9_cards_L69; rfl)
  intro j
  induction j with
  | zero =>
    intro came C V m m' e h1 h2 h3 h4
    have ew : came = w := by omega
    subst ew
    refine ⟨nI came, m, m', C, V, wh_done ?_, wh_done ?_, h1, h2, h3, by omega, Nat.le_refl _, Or.inr ⟨rfl, rfl⟩⟩
    · unfold f_X6_addCards_L3
      simp only [nI_le (Nat.le_refl came) (show came < 2 ^ 31 by omega), Nat.reduceEqDiff, false_and, and_false, true_and, and_true, if_false, if_true, reduceIte, not_false_eq_true, not_true_eq_false]
      rfl
    · unfold f_X9_cards_L69
      simp only [n10, nI_le (Nat.le_refl came) (show came < 2 ^ 31 by omega), Nat.reduceEqDiff, false_and, and_false, true_and, and_true, if_false, if_true, reduceIte, not_false_eq_true, not_true_eq_false]
      rfl
  | succ j ih =>
    intro came C V m m' e h1 h2 h3 h4
    have h1' := h1
    obtain ⟨-, -, ⟨n7, n8, n9⟩, -⟩ := h1
    have h4' := h4
    obtain ⟨⟨a1, a2⟩, a3⟩ := h4
    have b0 : ¬ nI w ≤ nI came := nI_ge (by omega) (by omega)
    have e3 : (3 : Int32) * nI came = nI (3 * came) := nI_mul 3 came
    have e33 : (3 : Int32) * nI came + 3 = nI (3 * came + 3) := by rw [e3]; exact nI_add (3 * came) 3
    have stop9 : wh f_X9_cards_L69 (nI k, nI i0, nI w, nI came, 1, m') = wh f_X9_cards_L69 (nI k, nI i0, nI w, nI came, 0, m') → ∃ n', wh f_X9_cards_L69 (nI k, nI i0, nI w, nI came, 1, m') = some (nI came, n') ∧ n' = m' := fun q => ⟨m', by rw [q, ref0], rfl⟩
    have tl : (nI ln - 3 - 3 * nI came).toInt = (ln : Int) - 3 - 3 * came := by
      have q1 : (nI ln - 3).toInt = (ln : Int) - 3 := by rw [sub_i (by rw [nI_toInt (by omega)]; change _ ≤ (ln : Int) - 3; omega) (by rw [nI_toInt (by omega)]; change (ln : Int) - 3 ≤ _; omega), nI_toInt (by omega)]; rfl
      have q2 : (3 * nI came).toInt = 3 * (came : Int) := by rw [e3, nI_toInt (by omega)]; omega
      rw [sub_i (by rw [q1, q2]; omega) (by rw [q1, q2]; omega), q1, q2]
    by_cases hrun : i0 + 3 * came + 3 ≤ ln
    · have hr : inRun ln (nI i0) (nI (3 * came + 3)) := by
        unfold inRun
        rw [nI_toInt (by omega), nI_toInt (by omega)]
        omega
      have hry := fun (m : Mem) (q : gI m (73 + 2 * k) 2 = nI ln) => run_y q hl hr
      have c9 : ¬ (nI ln - 3 - 3 * nI came) < nI i0 := by
        rw [Int32.lt_iff_toInt_lt, tl, nI_toInt hi0]; omega
      by_cases hC : C < 20
      · have f20 : ¬ (20 : Int32) ≤ nI C := Int32.not_le.mpr (lt_lit (n := 20) rfl (by decide) hC)
        obtain ⟨y0, u0, v0⟩ := a3 (i0 + 3 * came) (by omega)
        obtain ⟨y1, u1, v1⟩ := a3 (i0 + 3 * came + 1) (by omega)
        obtain ⟨y2, u2, v2⟩ := a3 (i0 + 3 * came + 2) (by omega)
        have p0 : nI i0 + 3 * nI came = nI (i0 + 3 * came) := by rw [e3]; exact nI_add _ _
        have p1 : nI (i0 + 3 * came) + 1 = nI (i0 + 3 * came + 1) := nI_1 _
        have p2 : nI (i0 + 3 * came) + 2 = nI (i0 + 3 * came + 2) := nI_add _ 2
        have r0 : (60 : Int32) * nI k + nI i0 + 3 * nI came = nI (60 * k + (i0 + 3 * came)) := by rw [nI_60, e3, nI_add, Nat.add_assoc]
        have r1 : nI (60 * k + (i0 + 3 * came)) + 1 = nI (60 * k + (i0 + 3 * came + 1)) := nI_1 _
        have r2 : nI (60 * k + (i0 + 3 * came)) + 2 = nI (60 * k + (i0 + 3 * came + 2)) := nI_add _ 2
        have k0 : ∀ {T' : Type} (K : Option T'), ck (nI (i0 + 3 * came)) 60 K = K := fun K => ck_in (by omega) (by decide)
        have k1 : ∀ {T' : Type} (K : Option T'), ck (nI (i0 + 3 * came + 1)) 60 K = K := fun K => ck_in (by omega) (by decide)
        have k2 : ∀ {T' : Type} (K : Option T'), ck (nI (i0 + 3 * came + 2)) 60 K = K := fun K => ck_in (by omega) (by decide)
        have l0 : ∀ {T' : Type} (K : Option T'), ck (nI (60 * k + (i0 + 3 * came))) 360 K = K := fun K => ck_in (by omega) (by decide)
        have l1 : ∀ {T' : Type} (K : Option T'), ck (nI (60 * k + (i0 + 3 * came + 1))) 360 K = K := fun K => ck_in (by omega) (by decide)
        have l2 : ∀ {T' : Type} (K : Option T'), ck (nI (60 * k + (i0 + 3 * came + 2))) 360 K = K := fun K => ck_in (by omega) (by decide)
        have x0 : ix (nI (i0 + 3 * came)) = i0 + 3 * came := ix_n (by omega)
        have x1 : ix (nI (i0 + 3 * came + 1)) = i0 + 3 * came + 1 := ix_n (by omega)
        have x2 : ix (nI (i0 + 3 * came + 2)) = i0 + 3 * came + 2 := ix_n (by omega)
        have z0 : ix (nI (60 * k + (i0 + 3 * came))) = 60 * k + (i0 + 3 * came) := ix_n (by omega)
        have z1 : ix (nI (60 * k + (i0 + 3 * came + 1))) = 60 * k + (i0 + 3 * came + 1) := ix_n (by omega)
        have z2 : ix (nI (60 * k + (i0 + 3 * came + 2))) = 60 * k + (i0 + 3 * came + 2) := ix_n (by omega)
        rcases isCard_v h1' y0 y1 y2 with ⟨g1, g2⟩ | ⟨g1, g2, t, x, rfl, ht, rfl, hx, b1, b2⟩
        · refine ⟨nI came, m, m', C, V, wh_done ?_, ?_, h1', h2, h3, by omega, Nat.le_refl _, Or.inr ⟨rfl, rfl⟩⟩
          · unfold f_X6_addCards_L3
            simp only [b0, n7, f20, e33, hry m a1, p0, p1, p2, k0, k1, k2, x0, x1, x2, u0, u1, u2, narrow_wide, g1, n10, bnd, some_bind, Nat.reduceEqDiff, false_and, and_false, true_and, and_true, if_false, if_true, reduceIte, not_false_eq_true, not_true_eq_false]
            rfl
          · refine (wh_inl ?_).trans (ref0 came m')
            unfold f_X9_cards_L69 f_X9_cards_J111 f_X9_cards_J167 f_X9_cards_J168
            simp only [b0, n10, ek, ei, a2, c9, n8, f20, r0, r1, r2, l0, l1, l2, z0, z1, z2, v0, v1, v2, g2, bnd, some_bind, Nat.reduceEqDiff, false_and, and_false, true_and, and_true, if_false, if_true, reduceIte, not_false_eq_true, not_true_eq_false]
        · obtain ⟨n, n', q1, q2, q3, q4, q5⟩ := addCard_v h1' h2 h3 hC ht hx b1 b2
          have q6 := SHc_step hk h4' q1 q2
          obtain ⟨v, w1, w2, C', V', o1, o2, o3, o4, o5, o6, o7, -⟩ := ih (came + 1) (C + 1) (V + 1) n n' (by omega) q3 q4 q5 q6
          refine ⟨v, w1, w2, C', V', wh_next ?_ o1, wh_next ?_ o2, o3, o4, o5, by omega, by omega, Or.inl (by omega)⟩
          · unfold f_X6_addCards_L3
            simp only [b0, n7, f20, e33, hry m a1, p0, p1, p2, k0, k1, k2, x0, x1, x2, u0, u1, u2, narrow_wide, g1, q1, n10, bnd, some_bind, nI_1, Nat.reduceEqDiff, false_and, and_false, true_and, and_true, if_false, if_true, reduceIte, not_false_eq_true, not_true_eq_false]
          · unfold f_X9_cards_L69 f_X9_cards_J111 f_X9_cards_J168
            simp only [b0, n10, ek, ei, a2, c9, n8, f20, r0, r1, r2, l0, l1, l2, z0, z1, z2, v0, v1, v2, narrow_wide, g2, q2, bnd, some_bind, nI_1, Nat.reduceEqDiff, false_and, and_false, true_and, and_true, if_false, if_true, reduceIte, not_false_eq_true, not_true_eq_false]
      · have f20 : (20 : Int32) ≤ nI C := ge_lit (n := 20) rfl (by omega) (by omega)
        refine ⟨nI came, m, m', C, V, wh_done ?_, ?_, h1', h2, h3, by omega, Nat.le_refl _, Or.inr ⟨rfl, rfl⟩⟩
        · unfold f_X6_addCards_L3
          simp only [b0, n7, f20, Nat.reduceEqDiff, false_and, and_false, true_and, and_true, if_false, if_true, reduceIte, not_false_eq_true, not_true_eq_false]
          rfl
        · refine (wh_inl ?_).trans (ref0 came m')
          unfold f_X9_cards_L69 f_X9_cards_J110 f_X9_cards_J111 f_X9_cards_J167 f_X9_cards_J168
          simp only [b0, n10, ek, ei, a2, c9, n8, f20, bnd, some_bind, Nat.reduceEqDiff, false_and, and_false, true_and, and_true, if_false, if_true, reduceIte, not_false_eq_true, not_true_eq_false]
    · have hr : ¬ inRun ln (nI i0) (nI (3 * came + 3)) := by
        unfold inRun
        rw [nI_toInt (by omega), nI_toInt (by omega)]
        omega
      have c9 : (nI ln - 3 - 3 * nI came) < nI i0 := by
        rw [Int32.lt_iff_toInt_lt, tl, nI_toInt hi0]; omega
      refine ⟨nI came, m, m', C, V, wh_done ?_, ?_, h1', h2, h3, by omega, Nat.le_refl _, Or.inr ⟨rfl, rfl⟩⟩
      · unfold f_X6_addCards_L3
        simp only [b0, n7, e33, run_n a1 hl hr, some_bind, Nat.reduceEqDiff, false_and, and_false, true_and, and_true, if_false, if_true, reduceIte, not_false_eq_true, not_true_eq_false]
        split <;> rfl
      · refine (wh_inl ?_).trans (ref0 came m')
        unfold f_X9_cards_L69 f_X9_cards_J110 f_X9_cards_J111 f_X9_cards_J167 f_X9_cards_J168
        simp only [b0, n10, ek, ei, a2, c9, bnd, some_bind, Nat.reduceEqDiff, false_and, and_false, true_and, and_true, if_false, if_true, reduceIte, not_false_eq_true, not_true_eq_false]
/-- two memories that agree where a call begins: the class at m, the reference at m' -/
theorem op_cards2 {P T C V B : Nat} {m m' : Mem} (h : ITn2 P T C V m m') (hc : ITc2 T C m m') (hb : ITb C m) (hS : IS B m) (h6 : ∀ i, gI m' 126 i = gI m 126 i) (h7 : ∀ i, gI m' 127 i = gI m 127 i) (h8 : ∀ i, gJ m' 128 i = gJ m 128 i) (d i n : Int32) : ∃ v n1 n2 C' V', f_X8_cards d i n m = some (v, n1) ∧ f_X9_cards d i n m' = some (v, n2) ∧ ITn2 P T C' V' n1 n2 ∧ ITc2 T C' n1 n2 ∧ ITb C' n1 ∧ V' ≤ V + 20 ∧ (V < V' ∨ (n1 = m ∧ n2 = m')) := by
  have n10 : ¬ ((1 : Int32) = 0) := by decide
  have no : ∀ v, f_X8_cards d i n m = some (v, m) → f_X9_cards d i n m' = some (v, m') → ∃ v n1 n2 C' V', f_X8_cards d i n m = some (v, n1) ∧ f_X9_cards d i n m' = some (v, n2) ∧ ITn2 P T C' V' n1 n2 ∧ ITc2 T C' n1 n2 ∧ ITb C' n1 ∧ V' ≤ V + 20 ∧ (V < V' ∨ (n1 = m ∧ n2 = m')) := fun v q1 q2 => ⟨v, m, m', C, V, q1, q2, h, hc, hb, by omega, Or.inr ⟨rfl, rfl⟩⟩
  rcases nn_cases 5 (by decide) d with ⟨k, hk, rfl⟩ | hbad
  · have hk6 : k < 6 := by omega
    have ek : ∀ {T : Type} (K : Option T), ck (nI k) 6 K = K := fun K => ck_in hk6 (by decide)
    have ei : ix (nI k) = k := ix_n (by omega)
    have wn : ∀ m, f_X9_within n.toInt64 1 20 m = some (bi (decide (¬ n < 1 ∧ ¬ 20 < n)), m) := fun m => within_i n 1 20 (L := 1) (H := 20) rfl rfl m
    by_cases hn : ¬ n < 1 ∧ ¬ 20 < n
    · have hn' := hn
      obtain ⟨hn1, hn2⟩ := hn
      have hn3 : n ≤ 20 := Int32.not_lt.mp hn2
      obtain ⟨w, hw, rfl⟩ := nn_of (n := 20) (c := n) (by decide) (fun q => hn1 (Int32.lt_trans q (by decide))) hn2
      have w1 : ∀ m, f_X9_within (nI w).toInt64 1 20 m = some (1, m) := fun m => by rw [wn, decide_eq_true hn']; rfl
      obtain ⟨⟨ln, hl, a1, a2⟩, a3, a4⟩ := hS k hk6
      have hX : f_X8_cards (nI k) i (nI w) m = if ¬ gI m (73 + 2 * k) 0 = -2 then if ¬ gI m (73 + 2 * k) 0 = 1 then some (-12, m) else (f_X6_addCards (73 + 2 * k) i (nI w) m).bind (fun q3 => some (q3.1, q3.2)) else some (0, m) := by
        unfold f_X8_cards
        rw [noShelf_ok hk6]
        simp only [bnd, some_bind, g_sI, gJ_sI, gI_sJ, gJ_sJ, Nat.reduceEqDiff, false_and, and_false, true_and, and_true, if_false, if_true, reduceIte, not_false_eq_true, not_true_eq_false, hn1, hn3, ek, ei]
      have hY : f_X9_cards (nI k) i (nI w) m' = if gI m 126 k < 0 then f_X9_cards_J44 (nI k) i (nI w) m' else if gI m 126 k = 51 then f_X9_cards_J44 (nI k) i (nI w) m' else some (-12, m') := by
        unfold f_X9_cards
        rw [isShelf_ok hk6]
        simp only [bnd, some_bind, g_sI, gJ_sI, gI_sJ, gJ_sJ, Nat.reduceEqDiff, false_and, and_false, true_and, and_true, if_false, if_true, reduceIte, not_false_eq_true, not_true_eq_false, w1, ek, ei, n10, h6]
      have z0 : wh f_X9_cards_L69 (nI k, i, nI w, 0, 0, m') = some (0, m') := wh_done (by unfold f_X9_cards_L69; rfl)
      rcases a3 with ⟨a5, a6⟩ | ⟨b, hb1, hb5, a5, a6, a7⟩ | ⟨t, ht, a5, a6, a7⟩
      · refine no 0 ?_ ?_
        · rw [hX, a6]; rfl
        · rw [hY, a5, if_pos (by decide)]
          unfold f_X9_cards_J44
          simp only [ek, ei, h6, a5, z0, show ¬ ((-1 : Int32) = 51) by decide, Nat.reduceEqDiff, false_and, and_false, true_and, and_true, if_false, if_true, reduceIte, not_false_eq_true, not_true_eq_false]
      · refine no (-12) ?_ ?_
        · rw [hX, a6]; rfl
        · rw [hY, a5, if_neg (nn_lt0 (by omega)), if_neg (fun q => by have := (eq_nn (b := 51) (by omega) (by decide)).mp q; omega)]
      · obtain ⟨t1, t2⟩ := len_1 t ht
        rw [a6, if_pos (sh_t ht).2] at hX
        rw [a5, if_neg (nn_lt0 (by omega))] at hY
        by_cases ht1 : t = 1
        · rw [if_neg (fun q => q (t1.mpr ht1))] at hX
          rw [if_pos (t2.mpr ht1)] at hY
          have h51 : gI m' 126 k = 51 := by rw [h6, a5]; exact t2.mpr ht1
          by_cases hi : i < 0
          · refine no 0 ?_ ?_
            · rw [hX]
              unfold f_X6_addCards
              have : wh (f_X6_addCards_L3 (73 + 2 * k)) (i, nI w, 0, m) = some (0, m) := by
                refine wh_done ?_
                have q1 : ¬ nI w ≤ 0 := fun q => hn1 (Int32.lt_of_le_of_lt q (by decide))
                have q2 : ¬ inRun ln i ((3 : Int32) * 0 + 3) := fun q => by
                  have := q.2.1
                  rw [Int32.lt_iff_toInt_lt] at hi
                  change i.toInt < 0 at hi
                  omega
                unfold f_X6_addCards_L3
                simp only [q1, run_n a1 hl q2, some_bind, Nat.reduceEqDiff, false_and, and_false, true_and, and_true, if_false, if_true, reduceIte, not_false_eq_true, not_true_eq_false]
                split <;> rfl
              rw [this]; rfl
            · rw [hY]
              unfold f_X9_cards_J44
              simp only [ek, ei, h51, hi, z0, Nat.reduceEqDiff, false_and, and_false, true_and, and_true, if_false, if_true, reduceIte, not_false_eq_true, not_true_eq_false]
          · obtain ⟨i0, hi0, rfl⟩ : ∃ i0, i0 < 2 ^ 31 ∧ i = nI i0 := by
              obtain ⟨q1, q2⟩ := nI_up (Int32.not_lt.mp hi)
              exact ⟨_, q2, q1.symm⟩
            have hSH : SHc k ln m m' := ⟨⟨a1, (h7 k).trans a2⟩, fun i hi => by
              obtain ⟨y, hy⟩ := a7 ht1 i hi
              exact ⟨y, hy, by rw [h8, ← a4 i hi, hy]⟩⟩
            obtain ⟨v, n1, n2, C', V', o1, o2, o3, o4, o5, o6, -, o7⟩ := cards_loop2 hk6 hl hw hi0 w 0 C V m m' (by omega) h hc hb hSH
            refine ⟨v, n1, n2, C', V', ?_, ?_, o3, o4, o5, by omega, o7⟩
            · rw [hX]
              unfold f_X6_addCards
              rw [show (nI i0, nI w, (0 : Int32), m) = (nI i0, nI w, nI 0, m) from rfl, o1]
              rfl
            · rw [hY]
              unfold f_X9_cards_J44
              simp only [ek, ei, h51, hi, Nat.reduceEqDiff, false_and, and_false, true_and, and_true, if_false, if_true, reduceIte, not_false_eq_true, not_true_eq_false]
              exact o2
        · rw [if_pos (fun q => ht1 (t1.mp q))] at hX
          rw [if_neg (fun q => ht1 (t2.mp q))] at hY
          exact no (-12) hX hY
    · refine no (-1) ?_ ?_
      · unfold f_X8_cards
        rw [noShelf_ok hk6, some_bind, if_neg (show ¬ ¬ ((0 : Int32) = 0) by decide)]
        by_cases q1 : n < 1
        · rw [if_pos q1]
        · rw [if_neg q1, if_neg (Int32.not_le.mpr (Classical.byContradiction fun q => hn ⟨q1, q⟩))]
      · unfold f_X9_cards
        rw [isShelf_ok hk6, some_bind, if_neg n10]
        simp only [wn, decide_eq_false hn, some_bind, show bi false = 0 from rfl, Nat.reduceEqDiff, false_and, and_false, true_and, and_true, if_false, if_true, reduceIte, not_false_eq_true, not_true_eq_false]
  · refine no (-1) ?_ ?_
    · unfold f_X8_cards
      rw [noShelf_bad hbad]
      simp only [bnd, some_bind, g_sI, gJ_sI, gI_sJ, gJ_sJ, Nat.reduceEqDiff, false_and, and_false, true_and, and_true, if_false, if_true, reduceIte, not_false_eq_true, not_true_eq_false, n10]
    · unfold f_X9_cards
      rw [isShelf_bad hbad]
      simp only [bnd, some_bind, g_sI, gJ_sI, gI_sJ, gJ_sJ, Nat.reduceEqDiff, false_and, and_false, true_and, and_true, if_false, if_true, reduceIte, not_false_eq_true, not_true_eq_false]
theorem person_86 {P T C V : Nat} {m : Mem} (h : ITn P T C V m) (hp : ITp m) (a b : Int32) : ∃ v m1 m2, f_X8_person a b m = some (v, m1) ∧ f_X9_person a b m1 = some (v, m2) ∧ ∀ i, 30 ≤ i → gI m2 86 i = gI m 86 i := by
  obtain ⟨⟨n1, n2, n3⟩, ⟨n4, n5, n6⟩, ⟨n7, n8, n9⟩, n0⟩ := h
  rcases nn_cases 99 (by decide) a with ⟨a, ha, rfl⟩ | hbad
  · rcases nn_cases 9999 (by decide) b with ⟨b, hb, rfl⟩ | hbad
    · have w1 : ∀ m, f_X9_within (nI a).toInt64 0 99 m = some (1, m) := fun m => wi_ok (n := 99) rfl (by decide) ha m
      have w2 : ∀ m, f_X9_within (nI b).toInt64 0 9999 m = some (1, m) := fun m => wi_ok (n := 9999) rfl (by decide) hb m
      by_cases hP : P < 10
      · obtain ⟨f1, f2⟩ := full_n (c := 10) (N := 10) rfl (by decide) hP
        have e1 : ∀ {T : Type} (K : Option T), ck (nI P) 10 K = K := fun K => ck_in hP (by decide)
        have e2 : ∀ {T : Type} (K : Option T), ck (nI P) 42 K = K := fun K => ck_in (by omega) (by decide)
        have e3 : ∀ {T : Type} (K : Option T), ck (10 + nI P) 42 K = K := fun K => by rw [show (10 : Int32) + nI P = nI (10 + P) from nI_add 10 P]; exact ck_in (by omega) (by decide)
        have e4 : ∀ {T : Type} (K : Option T), ck (20 + nI P) 42 K = K := fun K => by rw [show (20 : Int32) + nI P = nI (20 + P) from nI_add 20 P]; exact ck_in (by omega) (by decide)
        have i1 : ix (nI P) = P := ix_n (by omega)
        have i2 : ix (10 + nI P) = 10 + P := by rw [show (10 : Int32) + nI P = nI (10 + P) from nI_add 10 P]; exact ix_n (by omega)
        have i3 : ix (20 + nI P) = 20 + P := by rw [show (20 : Int32) + nI P = nI (20 + P) from nI_add 20 P]; exact ix_n (by omega)
        have r1 : nI a / 10 = nI (a / 10) := nI_div (b := 10) (by omega) (by decide) (by decide)
        have r2 : nI a - nI (a / 10) * 10 = nI (a % 10) := by rw [← r1]; exact nI_mod (b := 10) (by omega) (by decide) (by decide)
        have r3 : nI b / 100 = nI (b / 100) := nI_div (b := 100) (by omega) (by decide) (by decide)
        have r4 : nI b - nI (b / 100) * 100 = nI (b % 100) := by rw [← r3]; exact nI_mod (b := 100) (by omega) (by decide) (by decide)
        have hX : f_X8_person (nI a) (nI b) m = some (nI P, sI (sI (sI (sI (sI (sI m 2 P (nI (a / 10))) 3 P (nI (a % 10))) 4 P (nI (b / 100))) 5 P (nI (b % 100))) 1 16 (nI (V + 1))) 1 13 (nI (P + 1))) := by
          unfold f_X8_person f_X6_addPerson
          rw [rng_y (n := 99) (c := 99) rfl (by decide) ha, rng_y' (n := 9999) (c := 9999) rfl (by decide) hb]
          simp only [bnd, some_bind, g_sI, gJ_sI, gI_sJ, gJ_sJ, Nat.reduceEqDiff, false_and, and_false, true_and, and_true, if_false, if_true, reduceIte, not_false_eq_true, not_true_eq_false, n1, n0, f1, e1, i1, nI_1, r1, r2, r3, r4]
        have hY : ∀ m1, gI m1 85 6 = nI P → f_X9_person (nI a) (nI b) m1 = some (nI P, sI (sI (sI (sI (sI m1 86 P (nI (a / 10))) 86 (10 + P) (nI (a % 10))) 90 P (nI (b / 100))) 86 (20 + P) (nI (b % 100))) 85 6 (nI (P + 1))) := fun m1 q => by
          unfold f_X9_person
          simp only [bnd, some_bind, g_sI, gJ_sI, gI_sJ, gJ_sJ, Nat.reduceEqDiff, false_and, and_false, true_and, and_true, if_false, if_true, reduceIte, not_false_eq_true, not_true_eq_false, w1, w2, q, f2, e1, e2, e3, e4, i1, i2, i3, nI_1, nI_pred, r1, r2, r3, r4, show ¬ ((1 : Int32) = 0) by decide]
        have hY' := hY _ (show gI (sI (sI (sI (sI (sI (sI m 2 P (nI (a / 10))) 3 P (nI (a % 10))) 4 P (nI (b / 100))) 5 P (nI (b % 100))) 1 16 (nI (V + 1))) 1 13 (nI (P + 1))) 85 6 = nI P by simp only [g_sI, gJ_sI, gI_sJ, gJ_sJ, Nat.reduceEqDiff, false_and, and_false, true_and, and_true, if_false, if_true, reduceIte, not_false_eq_true, not_true_eq_false, n2])
        refine ⟨nI P, _, _, hX, hY', fun i hi => ?_⟩
        have q1 : ¬ i = 20 + P := by omega
        have q2 : ¬ i = 10 + P := by omega
        have q3 : ¬ i = P := by omega
        simp only [g_sI, gJ_sI, gI_sJ, gJ_sJ, Nat.reduceEqDiff, false_and, and_false, true_and, and_true, if_false, if_true, reduceIte, not_false_eq_true, not_true_eq_false, q1, q2, q3]
      · have eP : P = 10 := by omega
        subst eP
        refine ⟨-3, m, m, ?_, ?_, fun _ _ => rfl⟩
        · unfold f_X8_person
          rw [rng_y (n := 99) (c := 99) rfl (by decide) ha, rng_y' (n := 9999) (c := 9999) rfl (by decide) hb, n1]
          rfl
        · unfold f_X9_person
          simp only [bnd, some_bind, g_sI, gJ_sI, gI_sJ, gJ_sJ, Nat.reduceEqDiff, false_and, and_false, true_and, and_true, if_false, if_true, reduceIte, not_false_eq_true, not_true_eq_false, w1, w2, n2, show nI 10 = 10 from rfl, show ¬ ((1 : Int32) = 0) by decide]
    · have w1 : ∀ m, f_X9_within (nI a).toInt64 0 99 m = some (1, m) := fun m => wi_ok (n := 99) rfl (by decide) ha m
      refine ⟨-1, m, m, ?_, ?_, fun _ _ => rfl⟩
      · unfold f_X8_person
        rw [rng_y (n := 99) (c := 99) rfl (by decide) ha, rng_n' (n := 9999) (c := 9999) rfl hbad]
      · unfold f_X9_person
        simp only [bnd, some_bind, g_sI, gJ_sI, gI_sJ, gJ_sJ, Nat.reduceEqDiff, false_and, and_false, true_and, and_true, if_false, if_true, reduceIte, not_false_eq_true, not_true_eq_false, w1, wi_bad (n := 9999) (H := 9999) rfl hbad, show ¬ ((1 : Int32) = 0) by decide]
  · refine ⟨-1, m, m, ?_, ?_, fun _ _ => rfl⟩
    · unfold f_X8_person
      rw [rng_n (n := 99) (c := 99) rfl hbad]
    · unfold f_X9_person
      simp only [bnd, some_bind, g_sI, gJ_sI, gI_sJ, gJ_sJ, Nat.reduceEqDiff, false_and, and_false, true_and, and_true, if_false, if_true, reduceIte, not_false_eq_true, not_true_eq_false, wi_bad (n := 99) (H := 99) rfl hbad]
theorem thing_86 {P T C V : Nat} {m : Mem} (h : ITn P T C V m) (hp : ITt m) (a b : Int32) : ∃ v m1 m2, f_X8_thing a b m = some (v, m1) ∧ f_X9_thing a b m1 = some (v, m2) ∧ ∀ i, i < 30 → gI m2 86 i = gI m 86 i := by
  obtain ⟨⟨n1, n2, n3⟩, ⟨n4, n5, n6⟩, ⟨n7, n8, n9⟩, n0⟩ := h
  by_cases ha : ¬ a < -99 ∧ ¬ 99 < a
  · have w1 : ∀ m, f_X9_isWorth a m = some (1, m) := fun m => by rw [isWorth_v, decide_eq_true ha]; rfl
    obtain ⟨ha1, ha2⟩ := ha
    rcases nn_cases 9 (by decide) b with ⟨b, hb, rfl⟩ | hbad
    · have w2 := isDigit_y hb
      by_cases hT : T < 6
      · obtain ⟨f1, f2⟩ := full_n (c := 6) (N := 6) rfl (by decide) hT
        have e1 : ∀ {T' : Type} (K : Option T'), ck (nI T) 6 K = K := fun K => ck_in hT (by decide)
        have e3 : ∀ {T' : Type} (K : Option T'), ck (30 + nI T) 42 K = K := fun K => by rw [show (30 : Int32) + nI T = nI (30 + T) from nI_add 30 T]; exact ck_in (by omega) (by decide)
        have e4 : ∀ {T' : Type} (K : Option T'), ck (36 + nI T) 42 K = K := fun K => by rw [show (36 : Int32) + nI T = nI (36 + T) from nI_add 36 T]; exact ck_in (by omega) (by decide)
        have i1 : ix (nI T) = T := ix_n (by omega)
        have i2 : ix (30 + nI T) = 30 + T := by rw [show (30 : Int32) + nI T = nI (30 + T) from nI_add 30 T]; exact ix_n (by omega)
        have i3 : ix (36 + nI T) = 36 + T := by rw [show (36 : Int32) + nI T = nI (36 + T) from nI_add 36 T]; exact ix_n (by omega)
        have hX : f_X8_thing a (nI b) m = some (nI T, sI (sI (sI (sI m 6 T a) 7 T (nI b)) 1 16 (nI (V + 1))) 1 14 (nI (T + 1))) := by
          unfold f_X8_thing f_X6_addThing
          rw [if_neg ha1, if_neg ha2, rng_y' (n := 9) (c := 9) rfl (by decide) hb]
          simp only [bnd, some_bind, g_sI, gJ_sI, gI_sJ, gJ_sJ, Nat.reduceEqDiff, false_and, and_false, true_and, and_true, if_false, if_true, reduceIte, not_false_eq_true, not_true_eq_false, n4, n0, f1, e1, i1, nI_1]
        have hY : ∀ m1, gI m1 85 8 = nI T → f_X9_thing a (nI b) m1 = some (nI T, sI (sI (sI m1 86 (30 + T) a) 86 (36 + T) (nI b)) 85 8 (nI (T + 1))) := fun m1 q => by
          unfold f_X9_thing
          simp only [bnd, some_bind, g_sI, gJ_sI, gI_sJ, gJ_sJ, Nat.reduceEqDiff, false_and, and_false, true_and, and_true, if_false, if_true, reduceIte, not_false_eq_true, not_true_eq_false, w1, w2, q, f2, e1, e3, e4, i1, i2, i3, nI_1, nI_pred, show ¬ ((1 : Int32) = 0) by decide]
        have hY' := hY _ (show gI (sI (sI (sI (sI m 6 T a) 7 T (nI b)) 1 16 (nI (V + 1))) 1 14 (nI (T + 1))) 85 8 = nI T by simp only [g_sI, gJ_sI, gI_sJ, gJ_sJ, Nat.reduceEqDiff, false_and, and_false, true_and, and_true, if_false, if_true, reduceIte, not_false_eq_true, not_true_eq_false, n5])
        refine ⟨nI T, _, _, hX, hY', fun i hi => ?_⟩
        have q1 : ¬ i = 36 + T := by omega
        have q2 : ¬ i = 30 + T := by omega
        simp only [g_sI, gJ_sI, gI_sJ, gJ_sJ, Nat.reduceEqDiff, false_and, and_false, true_and, and_true, if_false, if_true, reduceIte, not_false_eq_true, not_true_eq_false, q1, q2]
      · have eT : T = 6 := by omega
        subst eT
        refine ⟨-3, m, m, ?_, ?_, fun _ _ => rfl⟩
        · unfold f_X8_thing
          rw [if_neg ha1, if_neg ha2, rng_y' (n := 9) (c := 9) rfl (by decide) hb, n4]
          rfl
        · unfold f_X9_thing
          simp only [bnd, some_bind, g_sI, gJ_sI, gI_sJ, gJ_sJ, Nat.reduceEqDiff, false_and, and_false, true_and, and_true, if_false, if_true, reduceIte, not_false_eq_true, not_true_eq_false, w1, w2, n5, show nI 6 = 6 from rfl, show ¬ ((1 : Int32) = 0) by decide]
    · refine ⟨-1, m, m, ?_, ?_, fun _ _ => rfl⟩
      · unfold f_X8_thing
        rw [if_neg ha1, if_neg ha2, rng_n' (n := 9) (c := 9) rfl hbad]
      · unfold f_X9_thing
        simp only [bnd, some_bind, g_sI, gJ_sI, gI_sJ, gJ_sJ, Nat.reduceEqDiff, false_and, and_false, true_and, and_true, if_false, if_true, reduceIte, not_false_eq_true, not_true_eq_false, w1, isDigit_n hbad, show ¬ ((1 : Int32) = 0) by decide]
  · have w1 : ∀ m, f_X9_isWorth a m = some (0, m) := fun m => by rw [isWorth_v, decide_eq_false ha]; rfl
    refine ⟨-1, m, m, ?_, ?_, fun _ _ => rfl⟩
    · unfold f_X8_thing
      by_cases h1 : a < -99
      · rw [if_pos h1]
      · rw [if_neg h1, if_pos (Classical.byContradiction fun q => ha ⟨h1, q⟩)]
    · unfold f_X9_thing
      simp only [bnd, some_bind, g_sI, gJ_sI, gI_sJ, gJ_sJ, Nat.reduceEqDiff, false_and, and_false, true_and, and_true, if_false, if_true, reduceIte, not_false_eq_true, not_true_eq_false, w1]
