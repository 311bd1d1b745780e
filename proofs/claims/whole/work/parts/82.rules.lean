/-! IN THOUGHT: rules, timers -/
theorem rules_v {P T C V x : Nat} {u w0 : Mem} (hB : TB P T C V u w0) (hP : 0 < P) (hT : 0 < T) (h54 : ∀ i, i < 6 → gI u 54 i = nI i) (h55 : gI u 55 (0 * 3) = -2) {k : Nat} (hk : k < 3) : ∃ r r', f_X7_tryRules u = some r ∧ f_X9_rule (nI k) w0 = some (gI r 55 (0 * 3 + k), r') ∧ ∀ i, (i < 0 * 3 ∨ 0 * 3 + 3 ≤ i) → gI r 55 i = gI u 55 i := by
  have hB0 := hB
  obtain ⟨⟨⟨n1, n2, n3⟩, ⟨n4, n5, n6⟩, ⟨n7, n8, n9⟩, n0⟩, -, -, -, -, ⟨⟨s0, -⟩, -, s2, x, x1, x9, hx⟩, -⟩ := hB
  obtain ⟨w, p1, p2, p3, p4, p5, p6, p7⟩ := plain_v n5 n6
  have ck2 : ∀ {T : Type} (K : Option T), ck (2 : Int32) 3 K = K := fun K => rfl
  have ck0 : ∀ {T : Type} (K : Option T), ck (0 : Int32) 3 K = K := fun K => rfl
  have j2 : ix (2 : Int32) = 2 := rfl
  have j0 : ix (0 : Int32) = 0 := rfl
  have key : ∀ j i u w, i + j = 6 → 0 ≤ i → TB P T C V u w → OR 54 T (fun i => i) u w → gI u 11 2 = nI x → gI w 85 27 = gI u 11 2 → gI w 85 28 = -1 → BR 0 u w → (0 < i → gI u 55 (0 * 3) = gI w 85 63 ∧ 0 ≤ gI w 85 63) → ∃ r r', wh f_X7_tryRules_L2 (nI i, u) = some r ∧ wh f_X9_rule_L35 (nI k, nI i, w) = some (gI r 55 (0 * 3 + k), r') ∧ ∀ i, (i < 0 * 3 ∨ 0 * 3 + 3 ≤ i) → gI r 55 i = gI u 55 i := by
    intro j
    induction j with
    | zero =>
      intro i u w e hb0 hB hO hx h27 h28 hb hz
      have ei : i = 6 := by omega
      subst ei
      obtain ⟨z1, z2⟩ := hz (by decide)
      have hbr : gI u 55 (0 * 3) = gI w 85 63 ∧ gI u 55 (0 * 3 + 1) = gI w 85 64 ∧ gI u 55 (0 * 3 + 2) = gI w 85 65 := by
        rcases hb with ⟨-, b2⟩ | ⟨b1, -, b3, b4⟩
        · rw [b2] at z2; exact absurd z2 (by decide)
        · exact ⟨b1, b3, b4⟩
      refine ⟨u, w, wh_done ?_, wh_up ?_, fun _ _ => rfl⟩
      · unfold f_X7_tryRules_L2
        rw [if_pos (show (6 : Int32) ≤ nI 6 by decide)]; rfl
      · unfold f_X9_rule_L35 f_X9_bestTold
        rw [if_pos (show (6 : Int32) ≤ nI 6 by decide)]
        have : k = 0 ∨ k = 1 ∨ k = 2 := by omega
        rcases this with rfl | rfl | rfl
        · show up (some (gI w 85 63, w)) = up (some (gI u 55 (0 * 3 + 0), w))
          rw [← hbr.1]
        · show up (some (gI w 85 64, w)) = up (some (gI u 55 (0 * 3 + 1), w))
          rw [← hbr.2.1]
        · show up (some (gI w 85 65, w)) = up (some (gI u 55 (0 * 3 + 2), w))
          rw [← hbr.2.2]
    | succ j ih =>
      intro i u w e hb0 hB hO hx h27 h28 hb hz
      have hi : i < 6 := by omega
      have tw : TS' w (sI w 85 26 (nI i)) := ⟨fun c hc i => g_far _ _ (by omega), fun i hi => g_off _ _ (by omega), g_off _ _ (by decide), fun i => g_far _ _ (by decide)⟩
      have hB1 := TB_cong hB TS.rf tw
      have hO1 : OR 54 T (fun i => i) u (sI w 85 26 (nI i)) := ⟨fun i hi => by rw [g_far _ _ (by decide)]; exact hO.1 i hi, hO.2⟩
      have g1 : gI (sI w 85 26 (nI i)) 85 26 = nI i := g_hit _ _ _ _
      have g2 : gI (sI w 85 26 (nI i)) 85 27 = gI u 11 2 := by rw [g_off _ _ (by decide), h27]
      have g3 : gI (sI w 85 26 (nI i)) 85 28 = -1 := by rw [g_off _ _ (by decide), h28]
      have gb : BR 0 u (sI w 85 26 (nI i)) := by
        unfold BR
        rw [g_off _ _ (by decide), g_off _ _ (by decide), g_off _ _ (by decide)]
        exact hb
      obtain ⟨n, r, r', c1, c2, c3, c4, c5, c6, c7, c8, c9, c10, c11⟩ := try_v (q := 0) (tried := nI i) hB1 hO1 x1 x9 (g2.trans hx) g3 (by decide) (nn_0le (by omega)) gb
      rw [g1, g2] at c1
      have kt := c7.tr c8
      have hO2 : OR 54 T (fun i => i) r r' := ⟨fun i hi => by
        rw [kt.2.1 i, c9.2.1 i, g_far _ _ (by decide)]
        exact hO.1 i hi, hO.2⟩
      obtain ⟨v, v', o1, o2, o3⟩ := ih (i + 1) r r' (by omega) (by omega) (TB_cong hB1 kt.1 c9.1) hO2 (by rw [kt.1.1 11 (by decide) (by decide), hx]) (by rw [c9.2.2 27 (by decide) (by decide), g2, kt.1.1 11 (by decide) (by decide)]) (by rw [c9.2.2 28 (by decide) (by decide), g3]) c4 (fun _ => ⟨c5, c6⟩)
      refine ⟨v, v', (wh_inl (s' := (nI (i + 1), r)) ?_).trans o1, (wh_inl (s' := (nI k, nI (i + 1), r')) ?_).trans o2, fun i hi => (o3 i hi).trans (c11 i hi)⟩
      · unfold f_X7_tryRules_L2
        have hc2 : f_X7_compare (0 : Int32) (nI i) n = some r := c2
        have nX : ¬ ((6 : Int32) ≤ nI i) := (nI_ge (a := i) (b := 6) hi (by decide))
        simp only [nX, if_false, ck2, j2, c1, hc2, some_bind, bnd, nI_1]
      · unfold f_X9_rule_L35
        have nX : ¬ ((6 : Int32) ≤ nI i) := (nI_ge (a := i) (b := 6) hi (by decide))
        simp only [nX, if_false, bnd, c3, some_bind, nI_1]
  have t63 : TS' w (sI w 85 63 (-1)) := ⟨fun c hc i => g_far _ _ (by omega), fun i hi => g_off _ _ (by omega), g_off _ _ (by decide), fun i => g_far _ _ (by decide)⟩
  obtain ⟨r, r', o1, o2, o3⟩ := key (6 - 0) 0 u (sI w 85 63 (-1)) (by omega) (Nat.le_refl _) (TB_cong hB0 TS.rf (p6.tr t63)) ⟨fun i hi => ⟨hi, h54 i (by omega), by rw [g_far _ _ (by decide), p5 i hi]⟩, fun _ _ _ _ e => e⟩ hx (by rw [g_off _ _ (by decide), p3, s2]) (by rw [g_off _ _ (by decide), p4]) (Or.inl ⟨h55, g_hit _ _ _ _⟩) (fun z => absurd z (by decide))
  refine ⟨r, r', o1, ?_, o3⟩
  unfold f_X9_rule
  rw [wi_ok (n := 2) (H := 2) rfl (by decide) (by omega), some_bind, if_pos (show ¬ ((1 : Int32), w0).1 = 0 from (by decide : ¬ ((1 : Int32) = 0)))]
  show (f_X9_isTable w0).bind _ = _
  rw [isTable_y n2 n3 n5 n6, some_bind, decide_eq_true ⟨hP, hT⟩, if_pos (show ¬ (bi true, w0).1 = 0 from (by decide : ¬ (bi true = 0)))]
  show (f_X9_plain w0).bind _ = _
  rw [p1, some_bind]
  exact o2
theorem timers_v {P T C V x : Nat} {u w0 : Mem} (hB : TB P T C V u w0) (hP : 0 < P) (hT : 0 < T) (h54 : ∀ i, i < 6 → gI u 54 i = nI i) (h55 : gI u 55 (2 * 3) = -2) {k : Nat} (hk : k < 3) : ∃ r r', f_X7_tryTimers u = some r ∧ f_X9_times (nI k) w0 = some (gI r 55 (2 * 3 + k), r') ∧ ∀ i, (i < 2 * 3 ∨ 2 * 3 + 3 ≤ i) → gI r 55 i = gI u 55 i := by
  have hB0 := hB
  obtain ⟨⟨⟨n1, n2, n3⟩, ⟨n4, n5, n6⟩, ⟨n7, n8, n9⟩, n0⟩, -, -, -, -, ⟨⟨s0, -⟩, -, s2, x, x1, x9, hx⟩, -⟩ := hB
  obtain ⟨w, p1, p2, p3, p4, p5, p6, p7⟩ := plain_v n5 n6
  have ck2 : ∀ {T : Type} (K : Option T), ck (2 : Int32) 3 K = K := fun K => rfl
  have ck0 : ∀ {T : Type} (K : Option T), ck (0 : Int32) 3 K = K := fun K => rfl
  have j2 : ix (2 : Int32) = 2 := rfl
  have j0 : ix (0 : Int32) = 0 := rfl
  have key : ∀ j i u w, i + j = 10 → 1 ≤ i → TB P T C V u w → OR 54 T (fun i => i) u w → gI u 11 2 = nI x → gI w 85 26 = gI u 11 0 → gI w 85 28 = -1 → BR 2 u w → (1 < i → gI u 55 (2 * 3) = gI w 85 63 ∧ 0 ≤ gI w 85 63) → ∃ r r', wh f_X7_tryTimers_L2 (nI i, u) = some r ∧ wh f_X9_times_L35 (nI k, nI i, w) = some (gI r 55 (2 * 3 + k), r') ∧ ∀ i, (i < 2 * 3 ∨ 2 * 3 + 3 ≤ i) → gI r 55 i = gI u 55 i := by
    intro j
    induction j with
    | zero =>
      intro i u w e hb0 hB hO hx h27 h28 hb hz
      have ei : i = 10 := by omega
      subst ei
      obtain ⟨z1, z2⟩ := hz (by decide)
      have hbr : gI u 55 (2 * 3) = gI w 85 63 ∧ gI u 55 (2 * 3 + 1) = gI w 85 64 ∧ gI u 55 (2 * 3 + 2) = gI w 85 65 := by
        rcases hb with ⟨-, b2⟩ | ⟨b1, -, b3, b4⟩
        · rw [b2] at z2; exact absurd z2 (by decide)
        · exact ⟨b1, b3, b4⟩
      refine ⟨u, w, wh_done ?_, wh_up ?_, fun _ _ => rfl⟩
      · unfold f_X7_tryTimers_L2
        rw [if_pos (show (9 : Int32) < nI 10 by decide)]; rfl
      · unfold f_X9_times_L35 f_X9_bestTold
        rw [if_pos (show (10 : Int32) ≤ nI 10 by decide)]
        have : k = 0 ∨ k = 1 ∨ k = 2 := by omega
        rcases this with rfl | rfl | rfl
        · show up (some (gI w 85 63, w)) = up (some (gI u 55 (2 * 3 + 0), w))
          rw [← hbr.1]
        · show up (some (gI w 85 64, w)) = up (some (gI u 55 (2 * 3 + 1), w))
          rw [← hbr.2.1]
        · show up (some (gI w 85 65, w)) = up (some (gI u 55 (2 * 3 + 2), w))
          rw [← hbr.2.2]
    | succ j ih =>
      intro i u w e hb0 hB hO hx h27 h28 hb hz
      have hi : i < 10 := by omega
      have tw : TS' w (sI w 85 27 (nI i)) := ⟨fun c hc i => g_far _ _ (by omega), fun i hi => g_off _ _ (by omega), g_off _ _ (by decide), fun i => g_far _ _ (by decide)⟩
      have hB1 := TB_cong hB TS.rf tw
      have hO1 : OR 54 T (fun i => i) u (sI w 85 27 (nI i)) := ⟨fun i hi => by rw [g_far _ _ (by decide)]; exact hO.1 i hi, hO.2⟩
      have g1 : gI (sI w 85 27 (nI i)) 85 27 = nI i := g_hit _ _ _ _
      have g2 : gI (sI w 85 27 (nI i)) 85 26 = gI u 11 0 := by rw [g_off _ _ (by decide), h27]
      have g3 : gI (sI w 85 27 (nI i)) 85 28 = -1 := by rw [g_off _ _ (by decide), h28]
      have gb : BR 2 u (sI w 85 27 (nI i)) := by
        unfold BR
        rw [g_off _ _ (by decide), g_off _ _ (by decide), g_off _ _ (by decide)]
        exact hb
      obtain ⟨n, r, r', c1, c2, c3, c4, c5, c6, c7, c8, c9, c10, c11⟩ := try_v (q := 2) (tried := nI i) hB1 hO1 (show 1 ≤ i by omega) (show i ≤ 9 by omega) g1 g3 (by decide) (nn_0le (by omega)) gb
      rw [g2, g1] at c1
      have kt := c7.tr c8
      have hO2 : OR 54 T (fun i => i) r r' := ⟨fun i hi => by
        rw [kt.2.1 i, c9.2.1 i, g_far _ _ (by decide)]
        exact hO.1 i hi, hO.2⟩
      obtain ⟨v, v', o1, o2, o3⟩ := ih (i + 1) r r' (by omega) (by omega) (TB_cong hB1 kt.1 c9.1) hO2 (by rw [kt.1.1 11 (by decide) (by decide), hx]) (by rw [c9.2.2 26 (by decide) (by decide), g2, kt.1.1 11 (by decide) (by decide)]) (by rw [c9.2.2 28 (by decide) (by decide), g3]) c4 (fun _ => ⟨c5, c6⟩)
      refine ⟨v, v', (wh_inl (s' := (nI (i + 1), r)) ?_).trans o1, (wh_inl (s' := (nI k, nI (i + 1), r')) ?_).trans o2, fun i hi => (o3 i hi).trans (c11 i hi)⟩
      · unfold f_X7_tryTimers_L2
        have hc2 : f_X7_compare (2 : Int32) (nI i) n = some r := c2
        have nX : ¬ ((9 : Int32) < nI i) := (nI_nlt (a := 9) (b := i) (by omega) (by omega))
        simp only [nX, if_false, ck0, j0, c1, hc2, some_bind, bnd, nI_1]
      · unfold f_X9_times_L35
        have nX : ¬ ((10 : Int32) ≤ nI i) := (nI_ge (a := i) (b := 10) hi (by decide))
        simp only [nX, if_false, bnd, c3, some_bind, nI_1]
  have t63 : TS' w (sI w 85 63 (-1)) := ⟨fun c hc i => g_far _ _ (by omega), fun i hi => g_off _ _ (by omega), g_off _ _ (by decide), fun i => g_far _ _ (by decide)⟩
  obtain ⟨r, r', o1, o2, o3⟩ := key (10 - 1) 1 u (sI w 85 63 (-1)) (by omega) (Nat.le_refl _) (TB_cong hB0 TS.rf (p6.tr t63)) ⟨fun i hi => ⟨hi, h54 i (by omega), by rw [g_far _ _ (by decide), p5 i hi]⟩, fun _ _ _ _ e => e⟩ hx (by rw [g_off _ _ (by decide), p2, s0]) (by rw [g_off _ _ (by decide), p4]) (Or.inl ⟨h55, g_hit _ _ _ _⟩) (fun z => absurd z (by decide))
  refine ⟨r, r', o1, ?_, o3⟩
  unfold f_X9_times
  rw [wi_ok (n := 2) (H := 2) rfl (by decide) (by omega), some_bind, if_pos (show ¬ ((1 : Int32), w0).1 = 0 from (by decide : ¬ ((1 : Int32) = 0)))]
  show (f_X9_isTable w0).bind _ = _
  rw [isTable_y n2 n3 n5 n6, some_bind, decide_eq_true ⟨hP, hT⟩, if_pos (show ¬ (bi true, w0).1 = 0 from (by decide : ¬ (bi true = 0)))]
  show (f_X9_plain w0).bind _ = _
  rw [p1, some_bind]
  exact o2
