/-! CHANGES: mend -/
theorem mend_core {P T C V D K w k : Nat} {m m' : Mem} (h : ITn2 P T C V m m') (hp : ITp2 m m') (ht : ITt2 m m') (hc : IC2 D K m m') (hw : w < 5) (hk : k < (if w < 3 then P else T)) {v : Int32} (hv : okv w v) : ∃ r n n', f_X8_mend_J57 (nI k) (nI w) v (nI (if w < 3 then P else T)) (nI k) m = some (r, n) ∧ f_X9_becomes (nI (chB w + k)) v m' = some (r, n') ∧ ((n = m ∧ n' = m') ∨ (ITn2 P T C (V + 1) n n' ∧ ITp2 n n' ∧ ITt2 n n' ∧ ∃ D' K', IC2 D' K' n n')) := by
  have h0 := h
  obtain ⟨⟨n1, n2, n3⟩, ⟨n4, n5, n6⟩, ⟨n7, n8, n9⟩, n0⟩ := h
  have hk2 : k < chN w := by
    unfold chN
    by_cases q : w < 3
    · rw [if_pos q] at hk ⊢; omega
    · rw [if_neg q] at hk ⊢; omega
  obtain ⟨l1, l2⟩ := chB_lt hw hk2
  have ek2 : ∀ {T : Type} (K : Option T), ck (nI (chB w + k)) 42 K = K := fun K => ck_in l1 (by decide)
  have ei2 : ix (nI (chB w + k)) = chB w + k := ix_n (by omega)
  have ei : ix (nI k) = k := ix_n (by omega)
  have hlt : nI k < nI (if w < 3 then P else T) := nI_lt hk (by split <;> omega)
  have hcur : gI m (chC w) k = gI m' 86 (chB w + k) ∧ okv w (gI m (chC w) k) := by
    rcases w5 hw with rfl | rfl | rfl | rfl | rfl
    · have := hp k hk2
      exact ⟨this.1.1.trans (by rw [show chB 0 + k = k from Nat.zero_add k]), fun _ => this.2.1, fun q => absurd q (by decide), fun q => absurd q (by decide), fun q => absurd q (by decide)⟩
    · have := hp k hk2
      exact ⟨this.1.2.1, fun _ => this.2.2.1, fun q => absurd q (by decide), fun q => absurd q (by decide), fun q => absurd q (by decide)⟩
    · have := hp k hk2
      exact ⟨this.1.2.2.1, fun q => absurd q (by decide), fun _ => this.2.2.2.1, fun q => absurd q (by decide), fun q => absurd q (by decide)⟩
    · have := ht k hk2
      exact ⟨this.1.1, fun q => absurd q (by decide), fun q => absurd q (by decide), fun _ => this.2.1, fun q => absurd q (by decide)⟩
    · have := ht k hk2
      exact ⟨this.1.2, fun q => absurd q (by decide), fun q => absurd q (by decide), fun q => absurd q (by decide), fun _ => this.2.2⟩
  obtain ⟨hcur, hok⟩ := hcur
  have hX0 : f_X8_mend_J57 (nI k) (nI w) v (nI (if w < 3 then P else T)) (nI k) m = if gI m (chC w) k = v then some (gI m (chC w) k, m) else (f_X1_note (nI k) (nI w) (gI m (chC w) k) v m).bind (fun q3 => (f_X6_change (nI k) (nI w) v q3).bind (fun q4 => some (gI m (chC w) k, q4))) := by
    unfold f_X8_mend_J57
    rw [if_pos hlt, mendable_v w hw]
    simp only [some_bind, ckS_v hw hk2, bnd, ei]
  by_cases he : gI m (chC w) k = v
  · refine ⟨gI m (chC w) k, m, m', by rw [hX0, if_pos he], ?_, Or.inl ⟨rfl, rfl⟩⟩
    unfold f_X9_becomes
    simp only [ek2, bnd, ei2, ← hcur, he, not_true_eq_false, if_false]
  · obtain ⟨n, n', x1, x2, f1, f2, D', x3⟩ := note_v hc hw hk2 hok hv he hcur.symm
    have h1 : ITn2 P T C V n n' := ⟨⟨(fr_I f1 1 13 rfl).trans n1, (fr_I f2 85 6 rfl).trans n2, n3⟩, ⟨(fr_I f1 1 14 rfl).trans n4, (fr_I f2 85 8 rfl).trans n5, n6⟩, ⟨(fr_I f1 1 15 rfl).trans n7, (fr_I f2 85 9 rfl).trans n8, n9⟩, (fr_I f1 1 16 rfl).trans n0⟩
    have hp1 : ITp2 n n' := fun p hp9 => by
      rw [fr_I f1 2 p rfl, fr_I f1 3 p rfl, fr_I f1 4 p rfl, fr_I f1 5 p rfl, fr_I f2 86 p rfl, fr_I f2 86 (10 + p) rfl, fr_I f2 86 (20 + p) rfl, fr_I f2 90 p rfl]
      exact hp p hp9
    have ht1 : ITt2 n n' := fun p hp9 => by
      rw [fr_I f1 6 p rfl, fr_I f1 7 p rfl, fr_I f2 86 (30 + p) rfl, fr_I f2 86 (36 + p) rfl]
      exact ht p hp9
    obtain ⟨r1, r2⟩ := ch_keep (x := nI (V + 1)) hw hk2 hv hp1 ht1
    have f := chC_far hw
    refine ⟨gI m (chC w) k, _, _, ?_, x2, Or.inr ⟨ch_n hw h1, r1, r2, D', D', ?_⟩⟩
    · rw [hX0, if_neg he, x1, some_bind, change_v hw hk2, some_bind, h1.2.2.2, nI_1]
    · obtain ⟨⟨c1, c2⟩, ⟨c3, c4⟩, c5, c7⟩ := x3
      refine ⟨⟨?_, ?_⟩, ⟨?_, ?_⟩, c5, fun i hi => ?_⟩
      · simp only [g_sI, gJ_sI, gI_sJ, gJ_sJ, Nat.reduceEqDiff, false_and, and_false, true_and, and_true, if_false, if_true, reduceIte, not_false_eq_true, not_true_eq_false, f 19 (Or.inr (by decide)), c1]
      · simp only [g_sI, gJ_sI, gI_sJ, gJ_sJ, Nat.reduceEqDiff, false_and, and_false, true_and, and_true, if_false, if_true, reduceIte, not_false_eq_true, not_true_eq_false, c2]
      · simp only [g_sI, gJ_sI, gI_sJ, gJ_sJ, Nat.reduceEqDiff, false_and, and_false, true_and, and_true, if_false, if_true, reduceIte, not_false_eq_true, not_true_eq_false, f 19 (Or.inr (by decide)), c3]
      · simp only [g_sI, gJ_sI, gI_sJ, gJ_sJ, Nat.reduceEqDiff, false_and, and_false, true_and, and_true, if_false, if_true, reduceIte, not_false_eq_true, not_true_eq_false, c4]
      · simp only [g_sI, gJ_sI, gI_sJ, gJ_sJ, Nat.reduceEqDiff, false_and, and_false, true_and, and_true, if_false, if_true, reduceIte, not_false_eq_true, not_true_eq_false, f 20 (Or.inr (by decide)), f 21 (Or.inr (by decide)), f 22 (Or.inr (by decide)), f 23 (Or.inr (by decide))]
        exact c7 i hi
theorem mend_X {w : Nat} (hw : w < 5) (a v : Int32) (m : Mem) : f_X8_mend a (nI w) v m = if v < st_2.getD w 0 then some (-2000000000, m) else if v ≤ st_3.getD w 0 then if a < 0 then some (-2000000000, m) else f_X8_mend_J57 a (nI w) v (gI m 1 (if w < 3 then 13 else 14)) a m else some (-2000000000, m) := by
  rcases w5 hw with rfl | rfl | rfl | rfl | rfl <;> rfl
theorem mend_R {w : Nat} (hw : w < 5) (a v : Int32) (m : Mem) : f_X9_mend a (nI w) v m = (if w < 3 then f_X9_isPerson a m else f_X9_isThing a m).bind (fun q1 => if q1.1 = 0 then some (-2000000000, q1.2) else (if w = 2 then f_X9_within v.toInt64 0 99 q1.2 else if w = 3 then f_X9_isWorth v q1.2 else f_X9_isDigit1 v q1.2).bind (fun q2 => if q2.1 = 0 then some (-2000000000, q2.2) else (f_X9_becomes (if w = 0 then a else nI (chB w) + a) v q2.2).bind (fun q3 => some (q3.1, q3.2)))) := by
  rcases w5 hw with rfl | rfl | rfl | rfl | rfl <;> rfl
theorem val_R {w : Nat} (hw : w < 5) (v : Int32) (m : Mem) : (if w = 2 then f_X9_within v.toInt64 0 99 m else if w = 3 then f_X9_isWorth v m else f_X9_isDigit1 v m) = some (bi (decide (¬ v < st_2.getD w 0 ∧ ¬ st_3.getD w 0 < v)), m) := by
  have e1 : ∀ m, f_X9_isDigit1 v m = some (bi (decide (¬ v < 0 ∧ ¬ 9 < v)), m) := fun m => by
    unfold f_X9_isDigit1
    rw [within_i v 0 9 (L := 0) (H := 9) rfl rfl, some_bind, bz_b]
  have e2 : ∀ m, f_X9_isWorth v m = some (bi (decide (¬ v < -99 ∧ ¬ 99 < v)), m) := fun m => by
    unfold f_X9_isWorth
    rw [within_i v (-99) 99 (L := -99) (H := 99) rfl rfl, some_bind, bz_b]
  rcases w5 hw with rfl | rfl | rfl | rfl | rfl
  · exact e1 m
  · exact e1 m
  · exact within_i v 0 99 (L := 0) (H := 99) rfl rfl m
  · exact e2 m
  · exact e1 m
theorem okv_of {w : Nat} (hw : w < 5) {v : Int32} (h1 : ¬ v < st_2.getD w 0) (h2 : ¬ st_3.getD w 0 < v) : okv w v := by
  have nn : ∀ n, n < 2 ^ 31 → ¬ v < 0 → ¬ nI n < v → ∃ r, r ≤ n ∧ v = nI r := fun n hn q1 q2 => nn_of hn q1 q2
  rcases w5 hw with rfl | rfl | rfl | rfl | rfl
  · exact ⟨fun _ => nn 9 (by decide) h1 h2, fun q => absurd q (by decide), fun q => absurd q (by decide), fun q => absurd q (by decide)⟩
  · exact ⟨fun _ => nn 9 (by decide) h1 h2, fun q => absurd q (by decide), fun q => absurd q (by decide), fun q => absurd q (by decide)⟩
  · exact ⟨fun q => absurd q (by decide), fun _ => nn 99 (by decide) h1 h2, fun q => absurd q (by decide), fun q => absurd q (by decide)⟩
  · exact ⟨fun q => absurd q (by decide), fun q => absurd q (by decide), fun _ => ⟨Int32.not_lt.mp h1, Int32.not_lt.mp h2⟩, fun q => absurd q (by decide)⟩
  · exact ⟨fun q => absurd q (by decide), fun q => absurd q (by decide), fun q => absurd q (by decide), fun _ => nn 9 (by decide) h1 h2⟩
theorem op_mend {P T C V D K : Nat} {m m' : Mem} (h : ITn2 P T C V m m') (hp : ITp2 m m') (ht : ITt2 m m') (hc : IC2 D K m m') (a x v : Int32) : ∃ r n n', f_X8_mend a x v m = some (r, n) ∧ f_X9_mend a x v m' = some (r, n') ∧ ((n = m ∧ n' = m') ∨ (ITn2 P T C (V + 1) n n' ∧ ITp2 n n' ∧ ITt2 n n' ∧ ∃ D' K', IC2 D' K' n n')) := by
  have h0 := h
  obtain ⟨⟨n1, n2, n3⟩, ⟨n4, n5, n6⟩, ⟨n7, n8, n9⟩, n0⟩ := h
  rcases nn_cases 4 (by decide) x with ⟨w, hw4, rfl⟩ | hbad
  · have hw : w < 5 := by omega
    have hN : gI m 1 (if w < 3 then 13 else 14) = nI (if w < 3 then P else T) := by split <;> assumption
    have hN6 : (if w < 3 then P else T) ≤ 10 := by split <;> omega
    rw [mend_X hw, mend_R hw, hN]
    by_cases ha : a < 0 ∨ nI (if w < 3 then P else T) ≤ a
    · refine ⟨-2000000000, m, m', ?_, ?_, Or.inl ⟨rfl, rfl⟩⟩
      · split
        · rfl
        · split
          · split
            · rfl
            · next q => unfold f_X8_mend_J57; rw [if_neg (Int32.not_lt.mpr (ha.resolve_left q))]
          · rfl
      · by_cases q : w < 3
        · rw [if_pos q] at ha ⊢
          rw [isPerson_n n2 n3 ha]; rfl
        · rw [if_neg q] at ha ⊢
          rw [isThing_n n5 n6 ha]; rfl
    · obtain ⟨k, hk, rfl⟩ := nn_of2 (n := if w < 3 then P else T) (by omega) (Int32.not_lt.mp fun q => ha (Or.inl q)) (Int32.not_le.mp fun q => ha (Or.inr q))
      have hq : (if w < 3 then f_X9_isPerson (nI k) m' else f_X9_isThing (nI k) m') = some (1, m') := by
        by_cases q : w < 3
        · rw [if_pos q] at hk ⊢; exact isPerson_y n2 n3 hk
        · rw [if_neg q] at hk ⊢; exact isThing_y n5 n6 hk
      rw [hq, some_bind, if_neg (show ¬ ((1 : Int32) = 0) by decide), val_R hw, some_bind, if_neg (show ¬ (nI k < 0) from nn_lt0 (by omega))]
      by_cases hv : ¬ v < st_2.getD w 0 ∧ ¬ st_3.getD w 0 < v
      · obtain ⟨r, q, q', o1, o2, o3⟩ := mend_core h0 hp ht hc hw hk (okv_of hw hv.1 hv.2)
        have eB : (if w = 0 then nI k else nI (chB w) + nI k) = nI (chB w + k) := by
          rw [nI_add]
          split
          · next e => subst e; rw [show chB 0 + k = k from Nat.zero_add k]
          · rfl
        refine ⟨r, q, q', ?_, ?_, o3⟩
        · rw [if_neg hv.1, if_pos (Int32.not_lt.mp hv.2), o1]
        · rw [decide_eq_true hv, if_neg (show ¬ (bi true = 0) by decide), eB, o2]; rfl
      · refine ⟨-2000000000, m, m', ?_, ?_, Or.inl ⟨rfl, rfl⟩⟩
        · by_cases q : v < st_2.getD w 0
          · rw [if_pos q]
          · rw [if_neg q, if_neg (Int32.not_le.mpr (Classical.byContradiction fun q2 => hv ⟨q, q2⟩))]
        · rw [decide_eq_false hv]; rfl
  · refine ⟨-2000000000, m, m', ?_, ?_, Or.inl ⟨rfl, rfl⟩⟩
    · unfold f_X8_mend
      by_cases a0 : x < 0
      · rw [if_pos a0]
      · have b : ¬ x < (5 : Int32) := far_ge (n := 4) (by decide) hbad a0
        rw [if_neg a0, if_pos (Int32.not_lt.mp b)]
    · have hn : ¬ x = 0 ∧ ¬ x = 1 ∧ ¬ x = 2 ∧ ¬ x = 3 ∧ ¬ x = 4 := by
        refine ⟨?_, ?_, ?_, ?_, ?_⟩ <;> (rintro rfl; rcases hbad with q | q <;> exact absurd q (by decide))
      unfold f_X9_mend
      simp only [sw, hn, Nat.reduceEqDiff, false_and, and_false, true_and, and_true, if_false, if_true, reduceIte, not_false_eq_true, not_true_eq_false]
