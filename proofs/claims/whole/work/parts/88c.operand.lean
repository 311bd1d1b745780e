/-! THE LAW'S TEXT: the class's comparisons and operands -/
theorem readCompared_C {L B : Nat} {τ : Nat → Nat} (hL : L ≤ 120) (hτ : ∀ i, i < L → τ i ≤ 255) (hB : 120 ≤ B) (hB2 : B ≤ 1000) {one : Nat → PR} {rc : Int32 → Int32 → Mem → Option Mem} {p1 : Int32} (hs : CSp L τ B (f_X2_readSum rc p1) (suR one (bet L τ))) (hG : GP L (suR one (bet L τ))) : CSp L τ B (f_X2_readCompared rc p1) (coR one (bet L τ)) := by
  intro m pos dl h
  have hG0 := hG pos h.2.2.2.2.2
  obtain ⟨n1, a1, a2, a3⟩ := hs m pos dl h
  unfold f_X2_readCompared coR lvR
  rw [a1, some_bind]
  cases hR : suR one (bet L τ) pos with
  | inl e =>
    rw [hR] at a3
    have a4 : CF L τ B n1 e := a3
    obtain ⟨hT, -, -, ⟨p, hp, h7⟩, -⟩ := a4
    refine ⟨n1, bs (next_t hL hT h7 (by omega)) ?_, a2, a3⟩
    dsimp only
    rw [if_pos (CF_t hL (show CF L τ B n1 e from a3))]
  | inr z =>
    obtain ⟨r, c, v⟩ := z
    rw [hR] at a3 hG0
    obtain ⟨b1, b2, b3⟩ := a3
    obtain ⟨g1, g2, g3, g4⟩ := hG0
    have hn := next_t hL b1.1 b1.2.1 (by omega)
    show ∃ n, _ ∧ _ ∧ CR L τ B m n dl (lpR (suR one (bet L τ)) opC (bet L τ) 1 r c v)
    unfold lpR
    cases ho : opC (bet L τ r)
    · have hno := of_decide_eq_false ho
      rw [if_neg (by decide)]
      refine ⟨n1, bs hn ?_, a2, b1, b2, b3⟩
      dsimp only
      rw [if_neg (CS_f b1), if_neg (nx_f hτ (q := r) (c := 60) (C := (60 : Int32)) (by decide) (by decide) rfl (by omega)), if_neg (nx_f hτ (q := r) (c := 61) (C := (61 : Int32)) (by decide) (by decide) rfl (by omega)), if_pos (nx_f hτ (q := r) (c := 62) (C := (62 : Int32)) (by decide) (by decide) rfl (by omega))]
    · rw [if_pos rfl]
      have hyes := of_decide_eq_true ho
      have hO := opC_O ho
      have hr := bet_lt (isO_nz hO)
      have hnx := nx_op (L := L) (q := r) (τ := τ) (isO_nz hO)
      have he : (20000 : Int32) + nI (bet L τ r) = nI (20000 + bet L τ r) := nI_add 20000 _
      have e7 : gI n1 14 7 + 1 = nI (r + 1) := by rw [b1.2.1, nI_1]
      have hJ : ∀ X, (f_X2_readSum rc p1 (sI n1 14 7 (nI (r + 1)))).bind (fun q4 => (f_X2_emit (nI (20000 + bet L τ r)) q4).bind (fun q5 => some q5)) = X → (f_X2_next n1).bind (fun q2 => if 0 ≤ (gI q2.2 14 8) then some q2.2 else if q2.1 = (60 : Int32) then f_X2_readCompared_J35 rc p1 q2.1 q2.2 else if q2.1 = (61 : Int32) then f_X2_readCompared_J35 rc p1 q2.1 q2.2 else if ¬ q2.1 = (62 : Int32) then some q2.2 else f_X2_readCompared_J35 rc p1 q2.1 q2.2) = X := fun X hX => by
        have hJ35 : f_X2_readCompared_J35 rc p1 (nx L τ r) n1 = X := by
          unfold f_X2_readCompared_J35
          rw [e7, hnx, he]
          exact hX
        refine bs hn ?_
        dsimp only
        rw [if_neg (CS_f b1)]
        by_cases d0 : bet L τ r = 60
        · rw [if_pos (nx_t hτ (q := r) (c := 60) (C := (60 : Int32)) (by decide) (by decide) rfl d0)]; exact hJ35
        · rw [if_neg (nx_f hτ (q := r) (c := 60) (C := (60 : Int32)) (by decide) (by decide) rfl d0)]
          by_cases d1 : bet L τ r = 61
          · rw [if_pos (nx_t hτ (q := r) (c := 61) (C := (61 : Int32)) (by decide) (by decide) rfl d1)]; exact hJ35
          · rw [if_neg (nx_f hτ (q := r) (c := 61) (C := (61 : Int32)) (by decide) (by decide) rfl d1), if_neg (fun z => z (nx_t hτ (q := r) (c := 62) (C := (62 : Int32)) (by decide) (by decide) rfl (by omega)))]; exact hJ35
      have hG1 := hG (r + 1) (by omega)
      obtain ⟨hT, h7, h8, h6, h9, h10⟩ := b1
      obtain ⟨n2, c1, c2, c3⟩ := hs (sI n1 14 7 (nI (r + 1))) (r + 1) (dl + c.length) ⟨TP_14 hT (by decide) _, g_hit _ _ _ _, by rw [g_off _ _ (by decide), h8], by rw [g_off _ _ (by decide), h6], by omega, by omega⟩
      have k1 : CK n1 n2 := (CK_14 (Or.inr (Or.inl rfl)) _).tr c2
      cases hR2 : suR one (bet L τ) (r + 1) with
      | inl e1 =>
        rw [hR2] at c3
        obtain ⟨n3, d1, d2, d3⟩ := emit_f (show CF L τ B n2 e1 from c3) (nI (20000 + bet L τ r))
        exact ⟨n3, hJ _ (bs c1 (bs d1 rfl)), a2.tr (k1.tr d2), d3⟩
      | inr z =>
        obtain ⟨r2, d, w⟩ := z
        rw [hR2] at c3 hG1
        obtain ⟨c4, c5, c6⟩ := c3
        obtain ⟨q1, q2, q3, q4⟩ := hG1
        have ef : (sI n1 14 7 (nI (r + 1))).2.2 = m.2.2 := a2.1
        rw [show cD (sI n1 14 7 (nI (r + 1))).2.2 = cD m.2.2 by rw [ef]] at c5 c6
        have hD14 := (cD_v m.2.2).2.1
        have hcd : ∀ j, j < (c ++ d).length → gI n2 (cD m.2.2) (dl + j) = nI ((c ++ d).getD j 0) := fun j hj => by
          rw [List.length_append] at hj
          rw [getD_app]
          by_cases e : j < c.length
          · rw [if_pos e, c6 _ (by omega), g_far _ _ hD14, b2 j e]
          · rw [if_neg e]
            have := c5 (j - c.length) (by omega)
            rw [show dl + c.length + (j - c.length) = dl + j by omega] at this
            exact this
        have e0 : n2.2.2 = m.2.2 := c2.1.trans ef
        obtain ⟨n3, d1, d2, d3, d4, d5⟩ := emit_c (pos0 := 0) (dl := dl) (c := c ++ d) hL e0 (by rw [List.length_append, ← Nat.add_assoc]; exact c4) hcd (fun j hj => by rw [c6 _ (by omega), g_far _ _ hD14, b3 j hj]) (by rw [List.length_append]; omega) (20000 + bet L τ r) rfl
        rw [List.append_assoc] at d3 d4
        exact ⟨n3, hJ _ (bs c1 (bs d1 rfl)), a2.tr (k1.tr d2), d3, d4, d5⟩
theorem digit_v {L q : Nat} {τ : Nat → Nat} (hτ : ∀ i, i < L → τ i ≤ 255) (m : Mem) : f_X2_isDigit (nx L τ q) m = some (bi (decide (48 ≤ bet L τ q ∧ bet L τ q ≤ 57)), m) := by
  unfold f_X2_isDigit nx bet
  by_cases h : q < L
  · rw [if_pos h, if_pos h]
    have ht := hτ q h
    by_cases c1 : τ q < 48
    · rw [if_pos (show nI (τ q) < (48 : Int32) from nI_lt (b := 48) c1 (by decide)), bz_0, decide_eq_false (by omega)]; rfl
    · rw [if_neg (show ¬ nI (τ q) < (48 : Int32) from nI_nlt (a := τ q) (b := 48) (by omega) (by omega))]
      by_cases c2 : 57 < τ q
      · rw [if_pos (show (57 : Int32) < nI (τ q) from nI_lt (a := 57) c2 (by omega)), bz_0, decide_eq_false (by omega)]; rfl
      · rw [if_neg (show ¬ (57 : Int32) < nI (τ q) from nI_nlt (a := 57) (b := τ q) (by omega) (by decide)), bz_1, decide_eq_true (by omega)]; rfl
  · rw [if_neg h, if_neg h, if_pos (show (-1 : Int32) < 48 by decide), bz_0, decide_eq_false (by omega)]; rfl
theorem bind_id {α : Type} (x : Option α) : x.bind (fun q => some q) = x := by cases x <;> rfl
theorem number_v {L dl : Nat} {τ : Nat → Nat} (hL : L ≤ 120) (hτ : ∀ i, i < L → τ i ≤ 255) : ∀ f i q a m, i + f = 4 → CS L τ m q dl → a < 10 ^ i → ∃ n, CS L τ n (nuR (bet L τ) f q a).1 dl ∧ CK m n ∧ (∀ j, gI n (cD m.2.2) j = gI m (cD m.2.2) j) ∧ wh f_X2_readNumber_L4 (nI a, nI i, m) = f_X2_emit (nI (nuR (bet L τ) f q a).2) n := by
  intro f
  induction f with
  | zero =>
    intro i q a m e h ha
    have : i = 4 := by omega
    subst this
    refine ⟨m, h, CK.rf, fun _ => rfl, wh_up ?_⟩
    unfold f_X2_readNumber_L4
    dsimp only
    rw [if_pos (show (4 : Int32) ≤ nI 4 by decide)]
    rw [bind_id]; rfl
  | succ f ih =>
    intro i q a m e h ha
    have hn := next_t hL h.1 h.2.1 (by have := h.2.2.2.2.2; omega)
    have hd := digit_v (q := q) hτ m
    have h4 : ¬ (4 : Int32) ≤ nI i := nI_ge (a := i) (b := 4) (by omega) (by decide)
    unfold nuR
    by_cases c : 48 ≤ bet L τ q ∧ bet L τ q ≤ 57
    · rw [if_pos c]
      have hq := bet_lt (show bet L τ q ≠ 0 by omega)
      have h' := h
      obtain ⟨hT, h7, h8, h6, h9, h10⟩ := h
      have ey : nI a * 10 + nI (bet L τ q) - 48 = nI (a * 10 + bet L τ q - 48) := by
        rw [show nI a * 10 = nI (a * 10) from nI_mul a 10, nI_add]
        exact nI_sub (b := 48) (by omega)
      obtain ⟨n, o1, o2, o3, o4⟩ := ih (i + 1) (q + 1) (a * 10 + bet L τ q - 48) (sI m 14 7 (nI (q + 1))) (by omega) ⟨TP_14 hT (by decide) _, g_hit _ _ _ _, by rw [g_off _ _ (by decide), h8], by rw [g_off _ _ (by decide), h6], by omega, by omega⟩ (by rw [Nat.pow_succ]; omega)
      refine ⟨n, o1, (CK_14 (Or.inr (Or.inl rfl)) _).tr o2, fun j => (o3 j).trans (g_far _ _ (cD_v m.2.2).2.1), (wh_inl ?_).trans o4⟩
      unfold f_X2_readNumber_L4
      dsimp only
      rw [if_neg h4]
      refine bs hn (bs hd ?_)
      dsimp only
      rw [decide_eq_true c, if_neg (show ¬ bi true = 0 by decide)]
      refine bs hn ?_
      dsimp only
      rw [nx_op (by omega), ey, h7, nI_1]
      refine bn (bn (bn ?_))
      rw [nI_1]
    · rw [if_neg c]
      refine ⟨m, h, CK.rf, fun _ => rfl, wh_up ?_⟩
      unfold f_X2_readNumber_L4
      dsimp only
      rw [if_neg h4]
      refine bs hn (bs hd ?_)
      dsimp only
      rw [decide_eq_false c, if_pos (show bi false = 0 from rfl)]
      rw [bind_id]
