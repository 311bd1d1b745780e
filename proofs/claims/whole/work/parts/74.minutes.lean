/-! THE MEETING KEPT: at the class -/
theorem bs {α β : Type} {x : Option α} {f : α → Option β} {a : α} {y : Option β} (h : x = some a) (k : f a = y) : x.bind f = y := by rw [h]; exact k
theorem ckb {T : Type} {i : Int32} {n : Nat} {K y : Option T} (h : ∀ K : Option T, ck i n K = K) (k : K = y) : ck i n K = y := (h K).trans k
theorem bn {α T : Type} {x : α} {k : α → Option T} {y : Option T} (h : k x = y) : bnd x k = y := h
theorem RA0_cong {a P T C V S : Nat} {m m' n n' : Mem} (h : RA0 a P T C V S m m') (hs : RAS a m n) (hs' : RAS' m' n') : RA0 a P T C V S n n' := by
  obtain ⟨h1, ⟨⟨f1, f2, f3⟩, ⟨U, u1, u2, u3⟩, ⟨l1, l2⟩, r1, ⟨t1, t2⟩, b1⟩, hp, ⟨hk1, hk2⟩, ht⟩ := h
  obtain ⟨s1, s2, s3⟩ := hs
  obtain ⟨z1, z2, z3⟩ := hs'
  refine ⟨TB_cong h1 s1 z1, ⟨⟨(s2 7 (by decide) (by decide)).trans f1, (z2 30 (by decide) (by decide)).trans f2, f3⟩, ⟨U, u1, (s2 8 (by decide) (by decide)).trans u2, (z2 29 (by decide) (by decide)).trans u3⟩, ?_, ?_, ?_, ?_⟩, fun p hp9 => ?_, ⟨fun k hk => ?_, fun i hi => ?_⟩, fun t ht9 => ?_⟩
  · rw [s2 18 (by decide) (by decide), z2 31 (by decide) (by decide)]; exact ⟨l1, l2⟩
  · rw [s2 15 (by decide) (by decide), z2 26 (by decide) (by decide)]; exact r1
  · rw [s2 16 (by decide) (by decide), z2 27 (by decide) (by decide)]; exact ⟨t1, t2⟩
  · rw [s2 17 (by decide) (by decide), z2 28 (by decide) (by decide)]; exact b1
  · rw [s3 11 (by decide), z3 99 (by decide)]; exact hp p hp9
  · rw [s3 3 (by decide), s3 4 (by decide), z3 100 (by decide), z3 101 (by decide)]; exact hk1 k hk
  · unfold Sd
    rw [s2 9 (by decide) (by decide), z3 100 (by decide)]; exact hk2 i hi
  · rw [s3 2 (by decide), z3 102 (by decide)]; exact ht t ht9
/-- a cell that no meeting at 29 looks at -/
theorem RAS_sI {m : Mem} {c i : Nat} {x : Int32} (hc : c = 24 ∨ c = 25 ∨ c = 26 ∨ c = 27 ∨ c = 28) : RAS 29 m (sI m c i x) :=
  ⟨⟨fun c' h1 h2 j => g_far _ _ (by omega), fun j h1 h2 => g_far _ _ (by omega), g_far _ _ (by omega), fun j => g_far _ _ (by omega), fun j => g_far _ _ (by omega), rfl⟩, fun j h1 h2 => g_far _ _ (by omega), fun k hk j => g_far _ _ (by omega)⟩
theorem RA0_sI {P T C V S : Nat} {m m' : Mem} {c i : Nat} {x : Int32} (h : RA0 29 P T C V S m m') (hc : c = 24 ∨ c = 25 ∨ c = 26 ∨ c = 27 ∨ c = 28) : RA0 29 P T C V S (sI m c i x) m' := RA0_cong h (RAS_sI hc) RAS'.rf
theorem summ_v {P T C V S : Nat} {m m' : Mem} (h : RA0 29 P T C V S m m') (hn : gI m' 85 28 = -1) (hT : 0 < T) (h24 : gI m 24 9 = nI T) : ∃ n hb co sh, f_X4_summarize m = some n ∧ RAS 29 m n ∧ (∀ c i, c ≠ 25 → gI n c i = gI m c i) ∧ f_X9_heldBack m' = some (hb, m') ∧ f_X9_cost m' = some (co, m') ∧ f_X9_shed m' = some (sh, m') ∧ gI n 25 0 = gI m' 85 29 ∧ gI n 25 1 = nI S ∧ gI n 25 2 = dc m' C (Sd m') T ∧ gI n 25 3 = hb ∧ gI n 25 4 = dc m' C (Sd m') T ^^^ dc m' C (Kw m' P) T ∧ gI n 25 5 = nI (fb_ct (fun k => decide (PK m' P k = 1) && Sd m' k) C) ∧ gI n 25 6 = nI (fb_ct (fun k => decide (PK m' P k = 1)) C) ∧ gI n 25 7 = co ∧ gI n 25 8 = sh := by
  obtain ⟨al, al1, al2⟩ := alone_X h.1
  have hC := h.1.1.2.2.1.2.2
  have c1 : RA0 29 P T C V S (sI m 25 0 (gI m 29 8)) m' := RA0_sI h (by decide)
  have c2 : RA0 29 P T C V S (sI (sI m 25 0 (gI m 29 8)) 25 1 (gI (sI m 25 0 (gI m 29 8)) 29 7)) m' := RA0_sI c1 (by decide)
  have d3 := decided_v c2
  generalize hm3 : sI (sI m 25 0 (gI m 29 8)) 25 1 (gI (sI m 25 0 (gI m 29 8)) 29 7) = m3 at c2 d3
  have c5 : RA0 29 P T C V S (sI m3 25 2 (dc m' C (Sd m') T)) m' := RA0_sI c2 (by decide)
  generalize hm5 : sI m3 25 2 (dc m' C (Sd m') T) = m5 at c5
  obtain ⟨x, hb, x1, x2, x3⟩ := held_v c5
  have c7 : RA0 29 P T C V S (sI m5 25 3 hb) m' := RA0_sI c5 (by decide)
  generalize hm7 : sI m5 25 3 hb = m7 at c7
  have w8 := wrong_X c7
  have c9 : RA0 29 P T C V S (sI m7 25 4 (dc m' C (Sd m') T ^^^ dc m' C (Kw m' P) T)) m' := RA0_sI c7 (by decide)
  generalize hm9 : sI m7 25 4 (dc m' C (Sd m') T ^^^ dc m' C (Kw m' P) T) = m9 at c9
  have p10 : f_J6_bitCount_0f7a4 (al &&& gI m9 29 9) m9 = some (nI (fb_ct (fun k => decide (PK m' P k = 1) && Sd m' k) C), m9) := by
    have hb2 : ∀ i, i < 32 → bt (al &&& gI m9 29 9) i = (decide (i < C) && (decide (PK m' P i = 1) && Sd m' i)) := fun i hi => by
      rw [b_and, al2 i hi, c9.2.2.2.1.2 i hi]
      cases decide (i < C) <;> cases decide (PK m' P i = 1) <;> cases Sd m' i <;> rfl
    rw [pop_v (fun i h1 h2 => by rw [hb2 i h2, decide_eq_false (by omega)]; rfl), ct_C hC (fun i hi => hb2 i (by omega))]
  have c11 : RA0 29 P T C V S (sI m9 25 5 (nI (fb_ct (fun k => decide (PK m' P k = 1) && Sd m' k) C))) m' := RA0_sI c9 (by decide)
  generalize hm11 : sI m9 25 5 (nI (fb_ct (fun k => decide (PK m' P k = 1) && Sd m' k) C)) = m11 at c11
  have p12 : f_J6_bitCount_0f7a4 al m11 = some (nI (fb_ct (fun k => decide (PK m' P k = 1)) C), m11) := by
    rw [pop_v (fun i h1 h2 => by rw [al2 i h2, decide_eq_false (by omega)]; rfl), ct_C hC (fun i hi => al2 i (by omega))]
  have c13 : RA0 29 P T C V S (sI m11 25 6 (nI (fb_ct (fun k => decide (PK m' P k = 1)) C))) m' := RA0_sI c11 (by decide)
  generalize hm13 : sI m11 25 6 (nI (fb_ct (fun k => decide (PK m' P k = 1)) C)) = m13 at c13
  obtain ⟨co, o1, o2⟩ := cost_v c13 hn
  have c15 : RA0 29 P T C V S (sI m13 25 7 co) m' := RA0_sI c13 (by decide)
  generalize hm15 : sI m13 25 7 co = m15 at c15
  have h24' : gI m15 24 9 = nI T := by
    rw [← hm15, g_far _ _ (by decide), ← hm13, g_far _ _ (by decide), ← hm11, g_far _ _ (by decide), ← hm9, g_far _ _ (by decide), ← hm7, g_far _ _ (by decide), ← hm5, g_far _ _ (by decide), ← hm3, g_far _ _ (by decide), g_far _ _ (by decide)]
    exact h24
  obtain ⟨sh, s1, s2⟩ := shed_v c15 h24' hT
  have k0 : ∀ {T : Type} (K : Option T), ck (0 : Int32) 10 K = K := fun K => rfl
  have k1 : ∀ {T : Type} (K : Option T), ck (1 : Int32) 10 K = K := fun K => rfl
  have k2 : ∀ {T : Type} (K : Option T), ck (2 : Int32) 10 K = K := fun K => rfl
  have k3 : ∀ {T : Type} (K : Option T), ck (3 : Int32) 10 K = K := fun K => rfl
  have k4 : ∀ {T : Type} (K : Option T), ck (4 : Int32) 10 K = K := fun K => rfl
  have k5 : ∀ {T : Type} (K : Option T), ck (5 : Int32) 10 K = K := fun K => rfl
  have k6 : ∀ {T : Type} (K : Option T), ck (6 : Int32) 10 K = K := fun K => rfl
  have k7 : ∀ {T : Type} (K : Option T), ck (7 : Int32) 10 K = K := fun K => rfl
  have k8 : ∀ {T : Type} (K : Option T), ck (8 : Int32) 10 K = K := fun K => rfl
  have j0 : ix (0 : Int32) = 0 := rfl
  have j1 : ix (1 : Int32) = 1 := rfl
  have j2 : ix (2 : Int32) = 2 := rfl
  have j3 : ix (3 : Int32) = 3 := rfl
  have j4 : ix (4 : Int32) = 4 := rfl
  have j5 : ix (5 : Int32) = 5 := rfl
  have j6 : ix (6 : Int32) = 6 := rfl
  have j7 : ix (7 : Int32) = 7 := rfl
  have j8 : ix (8 : Int32) = 8 := rfl
  have e8 : gI m 29 8 = gI m' 85 29 := by
    obtain ⟨-, ⟨-, ⟨U, -, u1, u2⟩, -⟩, -⟩ := h
    rw [u1, u2]
  have e7 : gI m 29 7 = nI S := h.2.1.1.1
  refine ⟨sI m15 25 8 sh, hb, co, sh, ?_, ?_, fun c i hc => ?_, x3, o2, s2, ?_, ?_, ?_, ?_, ?_, ?_, ?_, ?_, ?_⟩
  · unfold f_X4_summarize
    simp only [al1, some_bind, bnd, k0, k1, k2, k3, k4, k5, k6, k7, k8, j0, j1, j2, j3, j4, j5, j6, j7, j8, hm3, d3, hm5, x1, x2, hm7, w8, hm9, p10, hm11, p12, hm13, o1, hm15, s1]
  · have t1 : RAS 29 m m3 := by
      rw [← hm3]
      exact (RAS_sI (m := m) (i := 0) (x := gI m 29 8) (by decide : (25 : Nat) = 24 ∨ _)).tr (RAS_sI (by decide))
    have t2 : RAS 29 m3 m5 := by rw [← hm5]; exact RAS_sI (by decide)
    have t3 : RAS 29 m5 m7 := by rw [← hm7]; exact RAS_sI (by decide)
    have t4 : RAS 29 m7 m9 := by rw [← hm9]; exact RAS_sI (by decide)
    have t5 : RAS 29 m9 m11 := by rw [← hm11]; exact RAS_sI (by decide)
    have t6 : RAS 29 m11 m13 := by rw [← hm13]; exact RAS_sI (by decide)
    have t7 : RAS 29 m13 m15 := by rw [← hm15]; exact RAS_sI (by decide)
    exact t1.tr (t2.tr (t3.tr (t4.tr (t5.tr (t6.tr (t7.tr (RAS_sI (by decide))))))))
  · rw [g_far _ _ hc, ← hm15, g_far _ _ hc, ← hm13, g_far _ _ hc, ← hm11, g_far _ _ hc, ← hm9, g_far _ _ hc, ← hm7, g_far _ _ hc, ← hm5, g_far _ _ hc, ← hm3, g_far _ _ hc, g_far _ _ hc]
  · rw [← hm15, ← hm13, ← hm11, ← hm9, ← hm7, ← hm5, ← hm3]
    simp only [g_sI, gJ_sI, gI_sJ, gJ_sJ, Nat.reduceEqDiff, false_and, and_false, true_and, and_true, if_false, if_true, reduceIte, not_false_eq_true, not_true_eq_false, e8]
  · rw [← hm15, ← hm13, ← hm11, ← hm9, ← hm7, ← hm5, ← hm3]
    simp only [g_sI, gJ_sI, gI_sJ, gJ_sJ, Nat.reduceEqDiff, false_and, and_false, true_and, and_true, if_false, if_true, reduceIte, not_false_eq_true, not_true_eq_false, e7]
  · rw [← hm15, ← hm13, ← hm11, ← hm9, ← hm7, ← hm5]
    simp only [g_sI, gJ_sI, gI_sJ, gJ_sJ, Nat.reduceEqDiff, false_and, and_false, true_and, and_true, if_false, if_true, reduceIte, not_false_eq_true, not_true_eq_false]
  · rw [← hm15, ← hm13, ← hm11, ← hm9, ← hm7]
    simp only [g_sI, gJ_sI, gI_sJ, gJ_sJ, Nat.reduceEqDiff, false_and, and_false, true_and, and_true, if_false, if_true, reduceIte, not_false_eq_true, not_true_eq_false]
  · rw [← hm15, ← hm13, ← hm11, ← hm9]
    simp only [g_sI, gJ_sI, gI_sJ, gJ_sJ, Nat.reduceEqDiff, false_and, and_false, true_and, and_true, if_false, if_true, reduceIte, not_false_eq_true, not_true_eq_false]
  · rw [← hm15, ← hm13, ← hm11]
    simp only [g_sI, gJ_sI, gI_sJ, gJ_sJ, Nat.reduceEqDiff, false_and, and_false, true_and, and_true, if_false, if_true, reduceIte, not_false_eq_true, not_true_eq_false]
  · rw [← hm15, ← hm13]
    simp only [g_sI, gJ_sI, gI_sJ, gJ_sJ, Nat.reduceEqDiff, false_and, and_false, true_and, and_true, if_false, if_true, reduceIte, not_false_eq_true, not_true_eq_false]
  · rw [← hm15]
    simp only [g_sI, gJ_sI, gI_sJ, gJ_sJ, Nat.reduceEqDiff, false_and, and_false, true_and, and_true, if_false, if_true, reduceIte, not_false_eq_true, not_true_eq_false]
  · simp only [g_sI, gJ_sI, gI_sJ, gJ_sJ, Nat.reduceEqDiff, false_and, and_false, true_and, and_true, if_false, if_true, reduceIte, not_false_eq_true, not_true_eq_false]
/-- what THE MEETING keeps of things and people -/
theorem rows_v {P T C V S : Nat} {m m' : Mem} (h : RA0 29 P T C V S m m') (hn : gI m' 85 28 = -1) (h9 : gI m 24 9 = nI T) (h8 : gI m 24 8 = nI P) : ∃ n, wh f_X4_hold_L70 (0, m) = ((f_X4_summarize n).bind (fun q6 => (f_X4_needed q6).bind (fun q7 => ck (9 : Int32) 10 (bnd (sI q7.2 25 (ix (9 : Int32)) q7.1) (fun m8 => some ((gI m8 29 8), m8)))))) ∧ RAS 29 m n ∧ (∀ c i, c ≠ 26 → c ≠ 28 → gI n c i = gI m c i) ∧ (∀ t, t < T → gI n 26 t = ts m' (Sd m') t C) ∧ ∀ p, p < P → gI n 28 p = tf m' p := by
  have n6 := h.1.1.2.1.2.2
  have n3 := h.1.1.1.2.2
  have n9 := h.1.1.2.2.1.2.2
  -- things
  have k70 : ∀ j k u, k + j = T → RA0 29 P T C V S u m' → gI u 24 9 = nI T → ∃ n, wh f_X4_hold_L70 (nI k, u) = wh f_X4_hold_L107 (0, n) ∧ RAS 29 u n ∧ (∀ c i, c ≠ 26 → gI n c i = gI u c i) ∧ ∀ t, t < T → gI n 26 t = if k ≤ t then ts m' (Sd m') t C else gI u 26 t := by
    intro j
    induction j with
    | zero =>
      intro k u e hu hu9
      have ek : k = T := by omega
      subst ek
      refine ⟨u, wh_up ?_, RAS.rf, fun _ _ _ => rfl, fun t ht => by rw [if_neg (by omega)]⟩
      unfold f_X4_hold_L70
      simp only [hu9, nI_le (Nat.le_refl k) (show k < 2 ^ 31 by omega), if_true]
    | succ j ih =>
      intro k u e hu hu9
      have hk : k < T := by omega
      have hs := sum_X hu.1 (show k < 6 by omega) (x := gI u 29 9) (sel := Sd m') (fun i hi => by rw [hu.2.2.2.1.2 i (by omega), decide_eq_true hi, Bool.true_and])
      obtain ⟨n, o1, o2, o3, o4⟩ := ih (k + 1) (sI u 26 k (ts m' (Sd m') k C)) (by omega) (RA0_sI hu (by decide)) (by rw [g_far _ _ (by decide), hu9])
      refine ⟨n, (wh_inl ?_).trans o1, (RAS_sI (by decide)).tr o2, fun c i hc => by rw [o3 c i hc, g_far _ _ hc], fun t ht => ?_⟩
      · unfold f_X4_hold_L70
        simp only [hu9, nI_ge hk (show T < 2 ^ 31 by omega), if_false, hs, some_bind, ck_in (show k < 6 by omega) (show 6 < 2 ^ 31 by decide), ix_n (show k < 2 ^ 31 by omega), bnd, nI_1]
      · rw [o4 t ht, g_sI]
        by_cases c : t = k
        · subst c
          rw [if_neg (by omega), if_pos ⟨rfl, rfl⟩, if_pos (Nat.le_refl t)]
        · rw [if_neg (show ¬ (26 = 26 ∧ t = k) from fun z => c z.2)]
          by_cases d : k ≤ t
          · rw [if_pos d, if_pos (by omega)]
          · rw [if_neg d, if_neg (by omega)]
  have k107 : ∀ j k u, k + j = P → RA0 29 P T C V S u m' → gI u 24 8 = nI P → ∃ n, wh f_X4_hold_L107 (nI k, u) = ((f_X4_summarize n).bind (fun q6 => (f_X4_needed q6).bind (fun q7 => ck (9 : Int32) 10 (bnd (sI q7.2 25 (ix (9 : Int32)) q7.1) (fun m8 => some ((gI m8 29 8), m8)))))) ∧ RAS 29 u n ∧ (∀ c i, c ≠ 28 → gI n c i = gI u c i) ∧ ∀ p, p < P → gI n 28 p = if k ≤ p then tf m' p else gI u 28 p := by
    intro j
    induction j with
    | zero =>
      intro k u e hu hu9
      have ek : k = P := by omega
      subst ek
      refine ⟨u, wh_up ?_, RAS.rf, fun _ _ _ => rfl, fun t ht => by rw [if_neg (by omega)]⟩
      unfold f_X4_hold_L107
      simp only [hu9, nI_le (Nat.le_refl k) (show k < 2 ^ 31 by omega), if_true]
    | succ j ih =>
      intro k u e hu hu9
      have hk : k < P := by omega
      have hs := (tf_v hu hn hk).1
      obtain ⟨n, o1, o2, o3, o4⟩ := ih (k + 1) (sI u 28 k (tf m' k)) (by omega) (RA0_sI hu (by decide)) (by rw [g_far _ _ (by decide), hu9])
      refine ⟨n, (wh_inl ?_).trans o1, (RAS_sI (by decide)).tr o2, fun c i hc => by rw [o3 c i hc, g_far _ _ hc], fun t ht => ?_⟩
      · unfold f_X4_hold_L107
        simp only [hu9, nI_ge hk (show P < 2 ^ 31 by omega), if_false, hs, some_bind, ck_in (show k < 10 by omega) (show 10 < 2 ^ 31 by decide), ix_n (show k < 2 ^ 31 by omega), bnd, nI_1]
      · rw [o4 t ht, g_sI]
        by_cases c : t = k
        · subst c
          rw [if_neg (by omega), if_pos ⟨rfl, rfl⟩, if_pos (Nat.le_refl t)]
        · rw [if_neg (show ¬ (28 = 28 ∧ t = k) from fun z => c z.2)]
          by_cases d : k ≤ t
          · rw [if_pos d, if_pos (by omega)]
          · rw [if_neg d, if_neg (by omega)]
  obtain ⟨n1, a1, a2, a3, a4⟩ := k70 T 0 m (by omega) h h9
  obtain ⟨n2, b1, b2, b3, b4⟩ := k107 P 0 n1 (by omega) (RA0_cong h a2 RAS'.rf) (by rw [a3 _ _ (by decide), h8])
  refine ⟨n2, a1.trans b1, a2.tr b2, fun c i h1 h2 => by rw [b3 c i h2, a3 c i h1], fun t ht => ?_, fun p hp => ?_⟩
  · rw [b3 _ _ (by decide), a4 t ht, if_pos (Nat.zero_le t)]
  · rw [b4 p hp, if_pos (Nat.zero_le p)]
