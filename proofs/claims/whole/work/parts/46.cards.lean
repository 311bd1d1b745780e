/-! CARDS FROM A SHELF -/
def SHc (k ln : Nat) (m m' : Mem) : Prop := (gI m (73 + 2 * k) 2 = nI ln ∧ gI m' 127 k = nI ln) ∧ ∀ i, i < 60 → ∃ y : Int32, gJ m (73 + 2 * k + 1) i = y.toInt64 ∧ gJ m' 128 (60 * k + i) = y.toInt64
theorem SHc_step {k ln : Nat} {m m' : Mem} {t1 : Int32 × Mem} {n' : Mem} {a b x : Int32} (hk : k < 6) (h : SHc k ln m m') (h1 : f_X6_addCard a b x m = some t1) (h2 : f_X9_adds a b x m' = some n') : SHc k ln t1.2 n' := by
  have F1 := fr_X6_addCard h1
  have F2 := fr_X9_adds h2
  obtain ⟨⟨a1, a2⟩, a3⟩ := h
  have e2 : ∀ i, gJ n' 128 i = gJ m' 128 i := fun i => fr_J F2 128 i rfl
  have e3 : gI n' 127 k = gI m' 127 k := fr_I F2 127 k rfl
  have hk6 : k = 0 ∨ k = 1 ∨ k = 2 ∨ k = 3 ∨ k = 4 ∨ k = 5 := by omega
  have e1 : gI t1.2 (73 + 2 * k) 2 = gI m (73 + 2 * k) 2 := by
    rcases hk6 with rfl | rfl | rfl | rfl | rfl | rfl <;> exact fr_I F1 _ 2 rfl
  have e4 : ∀ i, gJ t1.2 (73 + 2 * k + 1) i = gJ m (73 + 2 * k + 1) i := fun i => by
    rcases hk6 with rfl | rfl | rfl | rfl | rfl | rfl <;> exact fr_J F1 _ i rfl
  refine ⟨⟨e1.trans a1, e3.trans a2⟩, fun i hi => ?_⟩
  rw [e4, e2]
  exact a3 i hi
theorem narrow_wide (y : Int32) : y.toInt64.toInt32 = y := Int32.toInt32_toInt64 y
theorem cards_loop {P T k ln w i0 : Nat} (hk : k < 6) (hl : ln ≤ 60) (hw : w ≤ 20) (hi0 : i0 < 2 ^ 31) : ∀ j came C V m m', came + j = w → ITn2 P T C V m m' → ITc2 T C m m' → ITb C m → SHc k ln m m' → ∃ v n n' C' V', wh (f_X6_addCards_L3 (73 + 2 * k)) (nI i0, nI w, nI came, m) = some (v, n) ∧ wh f_X9_cards_L69 (nI k, nI i0, nI w, nI came, 1, m') = some (v, n') ∧ ITn2 P T C' V' n n' ∧ ITc2 T C' n n' ∧ ITb C' n ∧ V' ≤ V + j := by
  have n10 : ¬ ((1 : Int32) = 0) := by decide
  have ek : ∀ {T' : Type} (K : Option T'), ck (nI k) 6 K = K := fun K => ck_in hk (by decide)
  have ei : ix (nI k) = k := ix_n (by omega)
  -- the reference ends: flag 0
  have ref0 : ∀ came (m' : Mem), wh f_X9_cards_L69 (nI k, nI i0, nI w, nI came, 0, m') = some (nI came, m') := fun came m' => wh_done (by unfold f_X9_cards_L69; rfl)
  intro j
  induction j with
  | zero =>
    intro came C V m m' e h1 h2 h3 h4
    have ew : came = w := by omega
    subst ew
    refine ⟨nI came, m, m', C, V, wh_done ?_, wh_done ?_, h1, h2, h3, by omega⟩
    · unfold f_X6_addCards_L3
      simp only [nI_le (Nat.le_refl came) (show came < 2 ^ 31 by omega), Nat.reduceEqDiff, false_and, and_false, true_and, and_true, if_false, if_true, reduceIte, not_false_eq_true, not_true_eq_false]
      rfl
    · unfold f_X9_cards_L69
      simp only [n10, nI_le (Nat.le_refl came) (show came < 2 ^ 31 by omega), Nat.reduceEqDiff, false_and, and_false, true_and, and_true, if_false, if_true, reduceIte, not_false_eq_true, not_true_eq_false]
      rfl
  | succ j ih =>
    intro came C V m m' e h1 h2 h3 h4
    have h1' := h1
    obtain ⟨-, -, ⟨n7, n8, n9⟩, -⟩ := h1
    have h4' := h4
    obtain ⟨⟨a1, a2⟩, a3⟩ := h4
    have b0 : ¬ nI w ≤ nI came := nI_ge (by omega) (by omega)
    have e3 : (3 : Int32) * nI came = nI (3 * came) := nI_mul 3 came
    have e33 : (3 : Int32) * nI came + 3 = nI (3 * came + 3) := by rw [e3]; exact nI_add (3 * came) 3
    have stop9 : wh f_X9_cards_L69 (nI k, nI i0, nI w, nI came, 1, m') = wh f_X9_cards_L69 (nI k, nI i0, nI w, nI came, 0, m') → ∃ n', wh f_X9_cards_L69 (nI k, nI i0, nI w, nI came, 1, m') = some (nI came, n') ∧ n' = m' := fun q => ⟨m', by rw [q, ref0], rfl⟩
    have tl : (nI ln - 3 - 3 * nI came).toInt = (ln : Int) - 3 - 3 * came := by
      have q1 : (nI ln - 3).toInt = (ln : Int) - 3 := by rw [sub_i (by rw [nI_toInt (by omega)]; change _ ≤ (ln : Int) - 3; omega) (by rw [nI_toInt (by omega)]; change (ln : Int) - 3 ≤ _; omega), nI_toInt (by omega)]; rfl
      have q2 : (3 * nI came).toInt = 3 * (came : Int) := by rw [e3, nI_toInt (by omega)]; omega
      rw [sub_i (by rw [q1, q2]; omega) (by rw [q1, q2]; omega), q1, q2]
    by_cases hrun : i0 + 3 * came + 3 ≤ ln
    · have hr : inRun ln (nI i0) (nI (3 * came + 3)) := by
        unfold inRun
        rw [nI_toInt (by omega), nI_toInt (by omega)]
        omega
      have hry := fun (m : Mem) (q : gI m (73 + 2 * k) 2 = nI ln) => run_y q hl hr
      have c9 : ¬ (nI ln - 3 - 3 * nI came) < nI i0 := by
        rw [Int32.lt_iff_toInt_lt, tl, nI_toInt hi0]; omega
      by_cases hC : C < 20
      · have f20 : ¬ (20 : Int32) ≤ nI C := Int32.not_le.mpr (lt_lit (n := 20) rfl (by decide) hC)
        obtain ⟨y0, u0, v0⟩ := a3 (i0 + 3 * came) (by omega)
        obtain ⟨y1, u1, v1⟩ := a3 (i0 + 3 * came + 1) (by omega)
        obtain ⟨y2, u2, v2⟩ := a3 (i0 + 3 * came + 2) (by omega)
        have p0 : nI i0 + 3 * nI came = nI (i0 + 3 * came) := by rw [e3]; exact nI_add _ _
        have p1 : nI (i0 + 3 * came) + 1 = nI (i0 + 3 * came + 1) := nI_1 _
        have p2 : nI (i0 + 3 * came) + 2 = nI (i0 + 3 * came + 2) := nI_add _ 2
        have r0 : (60 : Int32) * nI k + nI i0 + 3 * nI came = nI (60 * k + (i0 + 3 * came)) := by rw [nI_60, e3, nI_add, Nat.add_assoc]
        have r1 : nI (60 * k + (i0 + 3 * came)) + 1 = nI (60 * k + (i0 + 3 * came + 1)) := nI_1 _
        have r2 : nI (60 * k + (i0 + 3 * came)) + 2 = nI (60 * k + (i0 + 3 * came + 2)) := nI_add _ 2
        have k0 : ∀ {T' : Type} (K : Option T'), ck (nI (i0 + 3 * came)) 60 K = K := fun K => ck_in (by omega) (by decide)
        have k1 : ∀ {T' : Type} (K : Option T'), ck (nI (i0 + 3 * came + 1)) 60 K = K := fun K => ck_in (by omega) (by decide)
        have k2 : ∀ {T' : Type} (K : Option T'), ck (nI (i0 + 3 * came + 2)) 60 K = K := fun K => ck_in (by omega) (by decide)
        have l0 : ∀ {T' : Type} (K : Option T'), ck (nI (60 * k + (i0 + 3 * came))) 360 K = K := fun K => ck_in (by omega) (by decide)
        have l1 : ∀ {T' : Type} (K : Option T'), ck (nI (60 * k + (i0 + 3 * came + 1))) 360 K = K := fun K => ck_in (by omega) (by decide)
        have l2 : ∀ {T' : Type} (K : Option T'), ck (nI (60 * k + (i0 + 3 * came + 2))) 360 K = K := fun K => ck_in (by omega) (by decide)
        have x0 : ix (nI (i0 + 3 * came)) = i0 + 3 * came := ix_n (by omega)
        have x1 : ix (nI (i0 + 3 * came + 1)) = i0 + 3 * came + 1 := ix_n (by omega)
        have x2 : ix (nI (i0 + 3 * came + 2)) = i0 + 3 * came + 2 := ix_n (by omega)
        have z0 : ix (nI (60 * k + (i0 + 3 * came))) = 60 * k + (i0 + 3 * came) := ix_n (by omega)
        have z1 : ix (nI (60 * k + (i0 + 3 * came + 1))) = 60 * k + (i0 + 3 * came + 1) := ix_n (by omega)
        have z2 : ix (nI (60 * k + (i0 + 3 * came + 2))) = 60 * k + (i0 + 3 * came + 2) := ix_n (by omega)
        rcases isCard_v h1' y0 y1 y2 with ⟨g1, g2⟩ | ⟨g1, g2, t, x, rfl, ht, rfl, hx, b1, b2⟩
        · refine ⟨nI came, m, m', C, V, wh_done ?_, ?_, h1', h2, h3, by omega⟩
          · unfold f_X6_addCards_L3
            simp only [b0, n7, f20, e33, hry m a1, p0, p1, p2, k0, k1, k2, x0, x1, x2, u0, u1, u2, narrow_wide, g1, n10, bnd, some_bind, Nat.reduceEqDiff, false_and, and_false, true_and, and_true, if_false, if_true, reduceIte, not_false_eq_true, not_true_eq_false]
            rfl
          · refine (wh_inl ?_).trans (ref0 came m')
            unfold f_X9_cards_L69 f_X9_cards_J111 f_X9_cards_J167 f_X9_cards_J168
            simp only [b0, n10, ek, ei, a2, c9, n8, f20, r0, r1, r2, l0, l1, l2, z0, z1, z2, v0, v1, v2, g2, bnd, some_bind, Nat.reduceEqDiff, false_and, and_false, true_and, and_true, if_false, if_true, reduceIte, not_false_eq_true, not_true_eq_false]
        · obtain ⟨n, n', q1, q2, q3, q4, q5⟩ := addCard_v h1' h2 h3 hC ht hx b1 b2
          have q6 := SHc_step hk h4' q1 q2
          obtain ⟨v, w1, w2, C', V', o1, o2, o3, o4, o5, o6⟩ := ih (came + 1) (C + 1) (V + 1) n n' (by omega) q3 q4 q5 q6
          refine ⟨v, w1, w2, C', V', wh_next ?_ o1, wh_next ?_ o2, o3, o4, o5, by omega⟩
          · unfold f_X6_addCards_L3
            simp only [b0, n7, f20, e33, hry m a1, p0, p1, p2, k0, k1, k2, x0, x1, x2, u0, u1, u2, narrow_wide, g1, q1, n10, bnd, some_bind, nI_1, Nat.reduceEqDiff, false_and, and_false, true_and, and_true, if_false, if_true, reduceIte, not_false_eq_true, not_true_eq_false]
          · unfold f_X9_cards_L69 f_X9_cards_J111 f_X9_cards_J168
            simp only [b0, n10, ek, ei, a2, c9, n8, f20, r0, r1, r2, l0, l1, l2, z0, z1, z2, v0, v1, v2, narrow_wide, g2, q2, bnd, some_bind, nI_1, Nat.reduceEqDiff, false_and, and_false, true_and, and_true, if_false, if_true, reduceIte, not_false_eq_true, not_true_eq_false]
      · have f20 : (20 : Int32) ≤ nI C := ge_lit (n := 20) rfl (by omega) (by omega)
        refine ⟨nI came, m, m', C, V, wh_done ?_, ?_, h1', h2, h3, by omega⟩
        · unfold f_X6_addCards_L3
          simp only [b0, n7, f20, Nat.reduceEqDiff, false_and, and_false, true_and, and_true, if_false, if_true, reduceIte, not_false_eq_true, not_true_eq_false]
          rfl
        · refine (wh_inl ?_).trans (ref0 came m')
          unfold f_X9_cards_L69 f_X9_cards_J110 f_X9_cards_J111 f_X9_cards_J167 f_X9_cards_J168
          simp only [b0, n10, ek, ei, a2, c9, n8, f20, bnd, some_bind, Nat.reduceEqDiff, false_and, and_false, true_and, and_true, if_false, if_true, reduceIte, not_false_eq_true, not_true_eq_false]
    · have hr : ¬ inRun ln (nI i0) (nI (3 * came + 3)) := by
        unfold inRun
        rw [nI_toInt (by omega), nI_toInt (by omega)]
        omega
      have c9 : (nI ln - 3 - 3 * nI came) < nI i0 := by
        rw [Int32.lt_iff_toInt_lt, tl, nI_toInt hi0]; omega
      refine ⟨nI came, m, m', C, V, wh_done ?_, ?_, h1', h2, h3, by omega⟩
      · unfold f_X6_addCards_L3
        simp only [b0, n7, e33, run_n a1 hl hr, some_bind, Nat.reduceEqDiff, false_and, and_false, true_and, and_true, if_false, if_true, reduceIte, not_false_eq_true, not_true_eq_false]
        split <;> rfl
      · refine (wh_inl ?_).trans (ref0 came m')
        unfold f_X9_cards_L69 f_X9_cards_J110 f_X9_cards_J111 f_X9_cards_J167 f_X9_cards_J168
        simp only [b0, n10, ek, ei, a2, c9, bnd, some_bind, Nat.reduceEqDiff, false_and, and_false, true_and, and_true, if_false, if_true, reduceIte, not_false_eq_true, not_true_eq_false]
