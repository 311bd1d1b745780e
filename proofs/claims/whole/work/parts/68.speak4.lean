/-! A MEETING: one has spoken -/
theorem nu_eq {p u : Nat} (hp : p < 2 ^ 31) (hu : u < 2 ^ 31) : (nI p = nI u) = (u = p) := propext ⟨fun h => ((eq_nn hp hu).mp h).symm, fun h => by rw [h]⟩
theorem speak_v {a P T C V S p t : Nat} {m m' : Mem} (ha : MA a) (h : RA a P T C V S m m') (hL : RL a C P S m m') (hw : WI a P m m') (hp : p < P) (ht : t < T) (hp0 : ¬ gI m' 98 p ≤ 0) (hS : S < 200) : ∃ n n', f_X3_speak a (nI p) (nI t) m = some n ∧ f_X9_speaks (nI p) (nI t) m' = some n' ∧ RA a P T C V (S + 1) n n' ∧ RL a C P (S + 1) n n' ∧ ∀ k, k < C → Sd n' k = true → Sd m' k = true ∨ gI m' 91 k = nI t := by
  have h0 := h
  obtain ⟨by', y, ln, w, q, n0', ⟨ln1, ln9⟩, hby, x1, x2, x3, x4, x5, hw31, x6⟩ := speakX_v ha h hw hp ht hp0 hS
  obtain ⟨hB, hf, hpp, hk, htt⟩ := h
  have hB0 := hB
  obtain ⟨⟨⟨n1, n2, n3⟩, ⟨n4, n5, n6⟩, ⟨n7, n8, n9⟩, n0⟩, -⟩ := hB
  obtain ⟨⟨f1, f2, f3⟩, ⟨U, u1, u2, u3⟩, ⟨l1, l2⟩, r1, ⟨t1, t2⟩, b1⟩ := hf
  have hma := ha
  unfold MA at hma
  have q0 : ∀ i, gI q a i = gI m a i := fun i => x2 a i (by omega) (by omega)
  have qj : ∀ j i, j ≠ 5 → j ≠ 6 → gI q (a + j) i = gI m (a + j) i := fun j i h5 h6 => x2 (a + j) i (by omega) (by omega)
  obtain ⟨n, c1, ⟨d7, d8, d9, d15, d16, d17, d18⟩, d2, d3, d5, ⟨g0, g1, g2, g3, g4, g5, g6⟩, gl⟩ := J179_v (a := a) (C := C) (P := P) (T := T) (S := S) (p := p) (t := t) ha (q := q) (by rw [x2 1 15 (by omega) (by omega), n7]) n9 (by omega) (by omega) (by rw [q0, f1]) hS by' y (AG m' C p t y) (nI ln)
  obtain ⟨y', n', e1, e2, ⟨e30, e29, e31⟩, e97, e100, ⟨e104, e105, e106, e107, e108, e109, e110⟩, eo⟩ := J103_v (C := C) (p := p) (t := t) (S := S) (w := w) n8 n9 (show p < 10 by omega) (show t < 6 by omega) f2 hS hw31 (nI ln) by'
  have hyy : y' = y := b_ext (fun i hi => by rw [e2 i hi, x6 i hi])
  subst hyy
  have hX := x1.trans c1
  have hY := x5.trans e1
  have FX := fr_X3_speak hX
  have FY := fr_X9_speaks hY
  -- who is in y' was not said
  have ySd : ∀ k, k < C → Sd m' k = true → bt y' k = false := fun k hk hs => by
    rw [e2 k (by omega), hs]; simp
  have yC : ∀ k, bt y' k = true → k < 32 → k < C := fun k hb h32 => by
    rw [e2 k h32] at hb
    by_cases c : k < C
    · exact c
    · rw [decide_eq_false c] at hb; cases hb
  have TSn : TS m n := TS_fr FX (by rcases ha with rfl | rfl | rfl <;> rfl)
  have TSn' : TS' m' n' := TS'_fr FY rfl
  have k26 : gI n' 85 26 = gI m' 85 26 := fr_I FY 85 26 rfl
  have k27 : gI n' 85 27 = gI m' 85 27 := fr_I FY 85 27 rfl
  have k28 : gI n' 85 28 = gI m' 85 28 := fr_I FY 85 28 rfl
  have Sdn : ∀ k, k < C → Sd n' k = (bt y' k || Sd m' k) := fun k hk => by
    unfold Sd
    rw [(e100 k).1]
    by_cases c : bt y' k = true
    · rw [if_pos ⟨hk, c⟩, c, Bool.true_or, decide_eq_false]
      · rfl
      · intro z
        have := congrArg Int32.toInt z
        rw [nI_toInt (by omega)] at this
        change _ = (-2 : Int) at this
        omega
    · rw [if_neg (fun z => c z.2), show bt y' k = false by simpa using c, Bool.false_or]
  refine ⟨n, n', hX, hY, ⟨TB_cong hB0 TSn TSn', ⟨⟨d7, e30, by omega⟩, ⟨U + ln, by omega, ?_, ?_⟩, ⟨?_, Or.inr ⟨p, hp, d18⟩⟩, ?_, ⟨?_, ?_⟩, ?_⟩, fun u hu => ⟨?_, ?_⟩, ⟨fun k hk2 => ⟨?_, ?_⟩, fun i hi => ?_⟩, fun u hu => ?_⟩, ⟨fun i hi => ?_, fun i hi => ?_, fun u hu => ?_⟩, fun k hk2 hs => ?_⟩
  · rw [d8, q0, u2, nI_add]
  · rw [e29, u3, nI_add]
  · rw [d18, e31]
  · rw [d15, q0, k26, r1]
  · rw [d16, q0, k27, t1]
  · rw [d16, q0]; exact t2
  · rw [d17, q0, k28, b1]
  · rw [(d5 u).2.2.2.1, (e97 u).1, qj 10 u (by decide) (by decide), (hpp u hu).1]
  · rw [(d5 u).2.2.2.2, (e97 u).2.1, qj 11 u (by decide) (by decide), (hpp u hu).2]
  · rw [(d3 k).1, (e100 k).1, qj 3 k (by decide) (by decide), (hk.1 k hk2).1]
  · rw [(d3 k).2, (e100 k).2, qj 4 k (by decide) (by decide), (hk.1 k hk2).2]
  · rw [d9, q0, b_or, hk.2 i hi]
    by_cases c : i < C
    · rw [decide_eq_true c, Bool.true_and, Bool.true_and, Sdn i c, Bool.or_comm]
    · rw [decide_eq_false c, Bool.false_and, Bool.false_or, Bool.false_and, e2 i hi, decide_eq_false c]; rfl
  · obtain ⟨y1, z, z1, z2⟩ := htt u hu
    rw [d2 u, (e97 u).2.2, qj 2 u (by decide) (by decide), y1]
    refine ⟨rfl, ?_⟩
    rw [y1] at z2
    by_cases c : u = t
    · rw [if_pos c, z2, nI_add]
      exact ⟨z + ln, by omega, rfl⟩
    · rw [if_neg c, z2]
      exact ⟨z, by omega, rfl⟩
  · by_cases c : i = S
    · subst c
      rw [g0, g1, g2, g3, g4, g5, g6, e104, e105, e106, e107, e108, e109, e110, q0, u2, u3]
      exact ⟨rfl, rfl, rfl, rfl, rfl, rfl, rfl⟩
    · have hi2 : i < S := by omega
      rw [gl _ (by omega), gl _ (by omega), gl _ (by omega), gl _ (by omega), gl _ (by omega), gl _ (by omega), gl _ (by omega), qj 1 _ (by decide) (by decide), qj 1 _ (by decide) (by decide), qj 1 _ (by decide) (by decide), qj 1 _ (by decide) (by decide), qj 1 _ (by decide) (by decide), qj 1 _ (by decide) (by decide), qj 1 _ (by decide) (by decide), eo 104 (by decide) (by decide) i c, eo 105 (by decide) (by decide) i c, eo 106 (by decide) (by decide) i c, eo 107 (by decide) (by decide) i c, eo 108 (by decide) (by decide) i c, eo 109 (by decide) (by decide) i c, eo 110 (by decide) (by decide) i c]
      exact hL.1 i hi2
  · by_cases c : i = S
    · subst c
      rw [e109]
      rcases AG_v (m' := m') (C := C) (p := p) (t := t) (y := y') with z | ⟨k, z1, z2, z3⟩
      · exact Or.inl z
      · exact Or.inr ⟨k, z1, z2, by rw [Sdn k z1, z3, Bool.or_true]⟩
    · rw [eo 109 (by decide) (by decide) i c]
      rcases hL.2.1 i (by omega) with z | ⟨k, z1, z2, z3⟩
      · exact Or.inl z
      · exact Or.inr ⟨k, z1, z2, by rw [Sdn k z1, z3, Bool.or_true]⟩
  · obtain ⟨s7, s5, s6⟩ := hL.2.2 u hu
    -- a card said again keeps who said it first
    have keep : ∀ x : Int32, (x = -2 ∨ ∃ k, k < C ∧ x = nI k ∧ Sd m' k = true) → (0 ≤ x ∧ 0 ≤ gI n' 100 (ix x) ∧ ¬ gI n' 100 (ix x) = nI u ↔ 0 ≤ x ∧ 0 ≤ gI m' 100 (ix x) ∧ ¬ gI m' 100 (ix x) = nI u) := fun x hx => by
      rcases hx with rfl | ⟨k, z1, rfl, z3⟩
      · exact ⟨fun z => absurd z.1 (by decide), fun z => absurd z.1 (by decide)⟩
      · rw [ix_n (by omega), (e100 k).1, if_neg (fun z => by rw [ySd k z1 z3] at z; cases z.2)]
    refine ⟨?_, ?_, ?_⟩
    · rw [(d5 u).2.2.1, qj 7 u (by decide) (by decide), s7]
      show _ = sm _ S + (if gI n' 104 S = nI u then gI n' 107 S else 0)
      rw [e104, e107, sm_cong (f := fun i => if gI n' 104 i = nI u then gI n' 107 i else 0) (g := fun i => if gI m' 104 i = nI u then gI m' 107 i else 0) (fun i hi => by rw [eo 104 (by decide) (by decide) i (by omega), eo 107 (by decide) (by decide) i (by omega)])]
      simp only [nu_eq (show p < 2 ^ 31 by omega) (show u < 2 ^ 31 by omega)]
      by_cases c : u = p
      · rw [if_pos c, if_pos c]
      · rw [if_neg c, if_neg c, Int32.add_zero]
    · rw [(d5 u).1, x3 u (by omega), s5]
      show _ = sm _ S + (if gI n' 110 S = nI u then 1 else 0)
      rw [e110, sm_cong (f := fun i => if gI n' 110 i = nI u then (1 : Int32) else 0) (g := fun i => if gI m' 110 i = nI u then (1 : Int32) else 0) (fun i hi => by rw [eo 110 (by decide) (by decide) i (by omega)])]
      by_cases c : by' = nI u
      · rw [if_pos c, if_pos c]
      · rw [if_neg c, if_neg c, Int32.add_zero]
    · rw [(d5 u).2.1, x4 u, s6]
      show _ = sm _ S + (if gI n' 104 S = nI u ∧ 0 ≤ gI n' 109 S ∧ 0 ≤ gI n' 100 (ix (gI n' 109 S)) ∧ ¬ gI n' 100 (ix (gI n' 109 S)) = nI u then 1 else 0)
      rw [sm_cong (f := fun i => if gI n' 104 i = nI u ∧ 0 ≤ gI n' 109 i ∧ 0 ≤ gI n' 100 (ix (gI n' 109 i)) ∧ ¬ gI n' 100 (ix (gI n' 109 i)) = nI u then (1 : Int32) else 0) (g := fun i => if gI m' 104 i = nI u ∧ 0 ≤ gI m' 109 i ∧ 0 ≤ gI m' 100 (ix (gI m' 109 i)) ∧ ¬ gI m' 100 (ix (gI m' 109 i)) = nI u then (1 : Int32) else 0) (fun i hi => by
        rw [eo 104 (by decide) (by decide) i (by omega), eo 109 (by decide) (by decide) i (by omega)]
        simp only [keep _ (hL.2.1 i hi)])]
      rw [e104, e109]
      simp only [keep _ AG_v, nu_eq (show p < 2 ^ 31 by omega) (show u < 2 ^ 31 by omega)]
      have hfw : (0 ≤ AG m' C p t y' ∧ 0 ≤ gI m (a + 3) (ix (AG m' C p t y')) ∧ ¬ gI m (a + 3) (ix (AG m' C p t y')) = nI p) ↔ (0 ≤ AG m' C p t y' ∧ 0 ≤ gI m' 100 (ix (AG m' C p t y')) ∧ ¬ gI m' 100 (ix (AG m' C p t y')) = nI p) := by
        rcases AG_v (m' := m') (C := C) (p := p) (t := t) (y := y') with z | ⟨k, z1, z2, z3⟩
        · rw [z]
          exact ⟨fun z => absurd z.1 (by decide), fun z => absurd z.1 (by decide)⟩
        · rw [z2, ix_n (by omega), (hk.1 k z1).1]
      simp only [hfw]
      by_cases c : u = p
      · subst c
        by_cases d : (0 ≤ AG m' C u t y' ∧ 0 ≤ gI m' 100 (ix (AG m' C u t y')) ∧ ¬ gI m' 100 (ix (AG m' C u t y')) = nI u)
        · rw [if_pos ⟨rfl, d⟩, if_pos ⟨rfl, d⟩]
        · rw [if_neg (fun z => d z.2), if_neg (fun z => d z.2), Int32.add_zero]
      · rw [if_neg (fun z => c z.1), if_neg (fun z => c z.1), Int32.add_zero]
  · rw [Sdn k hk2] at hs
    cases hs2 : Sd m' k
    · rw [hs2, Bool.or_false, e2 k (by omega)] at hs
      right
      unfold Kn at hs
      cases d : decide (gI m' 91 k = nI t)
      · rw [d] at hs; simp at hs
      · exact of_decide_eq_true d
    · exact Or.inl rfl
