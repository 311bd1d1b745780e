/-! THE MEETING KEPT: what is told, who is needed -/
theorem held_same {P T C V S : Nat} {u w n : Mem} (h : RA0 29 P T C V S u w) (hr : RAS' w n) {b : Int32} (hb : f_X9_heldBack w = some (b, w)) : f_X9_heldBack n = some (b, n) := by
  obtain ⟨x, y, x1, x2, x3⟩ := held_v h
  obtain ⟨x', y', z1, z2, z3⟩ := held_v (RA0_cong h RAS.rf hr)
  have e1 : x = x' := by
    have := x1.symm.trans z1
    exact congrArg Prod.fst (Option.some.inj this)
  have e2 : b = y := by
    have := hb.symm.trans x3
    exact congrArg Prod.fst (Option.some.inj this)
  rw [z3, e2, ← x2, ← z2, e1]
theorem cost_same {P T C V S : Nat} {u w n : Mem} (h : RA0 29 P T C V S u w) (hn : gI w 85 28 = -1) (hr : RAS' w n) {b : Int32} (hb : f_X9_cost w = some (b, w)) : f_X9_cost n = some (b, n) := by
  obtain ⟨x, x1, x2⟩ := cost_v h hn
  obtain ⟨y, y1, y2⟩ := cost_v (RA0_cong h RAS.rf hr) ((hr.2.1 28 (by decide) (by decide)).trans hn)
  have e1 : x = y := congrArg Prod.fst (Option.some.inj (x1.symm.trans y1))
  have e2 : b = x := congrArg Prod.fst (Option.some.inj (hb.symm.trans x2))
  rw [y2, e2, e1]
theorem shed_same {P T C V S : Nat} {u w n : Mem} (h : RA0 29 P T C V S u w) (h24 : gI u 24 9 = nI T) (hT : 0 < T) (hr : RAS' w n) {b : Int32} (hb : f_X9_shed w = some (b, w)) : f_X9_shed n = some (b, n) := by
  obtain ⟨x, x1, x2⟩ := shed_v h h24 hT
  obtain ⟨y, y1, y2⟩ := shed_v (RA0_cong h RAS.rf hr) h24 hT
  have e1 : x = y := congrArg Prod.fst (Option.some.inj (x1.symm.trans y1))
  have e2 : b = x := congrArg Prod.fst (Option.some.inj (hb.symm.trans x2))
  rw [y2, e2, e1]
theorem isTable_y {P T : Nat} {m' : Mem} (h6 : gI m' 85 6 = nI P) (hP : P ≤ 10) (h8 : gI m' 85 8 = nI T) (hT : T ≤ 6) : f_X9_isTable m' = some (bi (decide (0 < P ∧ 0 < T)), m') := by
  unfold f_X9_isTable
  rw [h6, h8]
  by_cases p : 0 < P
  · rw [if_neg (show ¬ nI P ≤ (0 : Int32) from nI_ge (a := 0) p (by omega))]
    by_cases t : 0 < T
    · rw [if_neg (show ¬ nI T ≤ (0 : Int32) from nI_ge (a := 0) t (by omega)), bz_1, decide_eq_true ⟨p, t⟩]; rfl
    · rw [if_pos (show nI T ≤ (0 : Int32) from nI_le (b := 0) (by omega) (by decide)), bz_0, decide_eq_false (fun z => t z.2)]; rfl
  · rw [if_pos (show nI P ≤ (0 : Int32) from nI_le (b := 0) (by omega) (by decide)), bz_0, decide_eq_false (fun z => p z.1)]; rfl
theorem isBare_y {P T : Nat} {m : Mem} (h6 : gI m 1 13 = nI P) (hP : P ≤ 10) (h8 : gI m 1 14 = nI T) (hT : T ≤ 6) : f_X6_isBare m = some (bi (!decide (0 < P ∧ 0 < T)), m) := by
  unfold f_X6_isBare
  rw [h6, h8]
  by_cases p : 0 < P
  · rw [if_neg (fun z => by have := (eq_nn (b := 0) (by omega) (by decide)).mp z; omega)]
    by_cases t : 0 < T
    · rw [if_pos (show ¬ nI T = (0 : Int32) from fun z => by have := (eq_nn (b := 0) (by omega) (by decide)).mp z; omega), bz_0, decide_eq_true ⟨p, t⟩]; rfl
    · have : T = 0 := by omega
      subst this
      rw [if_neg (fun z => z rfl), bz_1, decide_eq_false (fun z => t z.2)]; rfl
  · have : P = 0 := by omega
    subst this
    rw [if_pos (show nI 0 = (0 : Int32) from rfl), bz_1, decide_eq_false (fun z => p z.1)]; rfl
theorem J18_v {P T C V S : Nat} {u m0 w0 : Mem} (h6 : gI m0 85 6 = nI P) (h8 : gI m0 85 8 = nI T) (hP : 0 < P) (hT : 0 < T) (hm : f_X9_meets m0 = some w0) (h : RA0 29 P T C V S u w0) (hn : gI w0 85 28 = -1) (h24 : gI u 24 9 = nI T) {hb co sh : Int32} (b1 : f_X9_heldBack w0 = some (hb, w0)) (b2 : f_X9_cost w0 = some (co, w0)) (b3 : f_X9_shed w0 = some (sh, w0)) : ∃ n, f_X9_meet_J18 m0 = wh f_X9_meet_L146 (0, n) ∧ RAS' w0 n ∧ (gI n 85 46 = nI S ∧ gI n 85 47 = nI P ∧ gI n 85 48 = nI T ∧ gI n 85 49 = nI C) ∧ (∀ c i, 112 ≤ c → c ≤ 118 → i < S → gI n c i = gI w0 (c - 8) i) ∧ (∀ t, t < T → gI n 119 t = gI w0 102 t ∧ gI n 120 t = ts w0 (Sd w0) t C) ∧ (∀ k, k < C → gI n 121 k = gI w0 100 k ∧ gI n 122 k = gI w0 101 k) ∧ (∀ p, p < P → gI n 123 p = tf w0 p) ∧ gI n 111 0 = gI w0 85 29 ∧ gI n 111 1 = nI S ∧ gI n 111 2 = dc w0 C (Sd w0) T ∧ gI n 111 3 = hb ∧ gI n 111 4 = dc w0 C (Sd w0) T ^^^ dc w0 C (Kw w0 P) T ∧ gI n 111 5 = nI (fb_ct (fun k => decide (PK w0 P k = 1) && Sd w0 k) C) ∧ gI n 111 6 = nI (fb_ct (fun k => decide (PK w0 P k = 1)) C) ∧ gI n 111 7 = co ∧ gI n 111 8 = sh ∧ gI n 111 9 = 0 := by
  obtain ⟨⟨⟨⟨-, p6, p10⟩, ⟨-, p8, p66⟩, ⟨-, p9, p20⟩, -⟩, -⟩, ⟨⟨-, f30, f200⟩, -⟩, -⟩ := h.1, h.2.1, h.2.2
  obtain ⟨q4, k1, k2, k3, ⟨k46, k47, k48, k49⟩, k5, k6, k7, k8⟩ := keeps_v p6 p10 p8 p66 p9 p20 f30 f200
  -- the steps
  have r5 : RAS' w0 (sI q4 111 0 (gI q4 85 29)) := k2.tr (RAS'_sI (Or.inl (by decide)))
  have r6 : RAS' w0 (sI (sI q4 111 0 (gI q4 85 29)) 111 1 (gI (sI q4 111 0 (gI q4 85 29)) 85 30)) := r5.tr (RAS'_sI (Or.inl (by decide)))
  generalize hm6 : sI (sI q4 111 0 (gI q4 85 29)) 111 1 (gI (sI q4 111 0 (gI q4 85 29)) 85 30) = m6 at r6
  have n6 : ∀ {n}, RAS' w0 n → gI n 85 6 = nI P := fun r => (r.1.2.1 6 (by decide)).trans p6
  have n8 : ∀ {n}, RAS' w0 n → gI n 85 8 = nI T := fun r => (r.1.2.1 8 (by decide)).trans p8
  have n9 : ∀ {n}, RAS' w0 n → gI n 85 9 = nI C := fun r => (r.1.2.1 9 (by decide)).trans p9
  have dec : ∀ {n}, RAS' w0 n → f_X9_decided n = some (dc w0 C (Sd w0) T, n) := fun r => by rw [dec_R (n8 r) p66 (n9 r) p20, dc_R r]
  have shb : ∀ {n}, RAS' w0 n → f_X9_shouldBe n = some (dc w0 C (Kw w0 P) T, n) := fun r => by rw [shouldBe_R (n6 r) p10 (n8 r) p66 (n9 r) p20, dcK_R r]
  have al : ∀ {n} (fl : Int32), RAS' w0 n → f_X9_aloneSaid fl n = some (nI (fb_ct (fun k => decide (PK w0 P k = 1) && (!decide (fl = 0) || Sd w0 k)) C), n) := fun fl r => by
    rw [alone_R (n6 r) p10 (n9 r) p20]
    congr 3
    exact fb_ct_cong (fun k _ => by rw [PK_R r, Sd_R r])
  have d7 := dec r6
  have r8 : RAS' w0 (sI m6 111 2 (dc w0 C (Sd w0) T)) := r6.tr (RAS'_sI (Or.inl (by decide)))
  generalize hm8 : sI m6 111 2 (dc w0 C (Sd w0) T) = m8 at r8
  have d9 := held_same h r8 b1
  have r10 : RAS' w0 (sI m8 111 3 hb) := r8.tr (RAS'_sI (Or.inl (by decide)))
  generalize hm10 : sI m8 111 3 hb = m10 at r10
  have d11 := dec r10
  have d12 := shb r10
  have r13 : RAS' w0 (sI m10 111 4 (dc w0 C (Sd w0) T ^^^ dc w0 C (Kw w0 P) T)) := r10.tr (RAS'_sI (Or.inl (by decide)))
  generalize hm13 : sI m10 111 4 (dc w0 C (Sd w0) T ^^^ dc w0 C (Kw w0 P) T) = m13 at r13
  have d14 := al 0 r13
  have e14 : fb_ct (fun k => decide (PK w0 P k = 1) && (!decide ((0 : Int32) = 0) || Sd w0 k)) C = fb_ct (fun k => decide (PK w0 P k = 1) && Sd w0 k) C := rfl
  rw [e14] at d14
  have r15 : RAS' w0 (sI m13 111 5 (nI (fb_ct (fun k => decide (PK w0 P k = 1) && Sd w0 k) C))) := r13.tr (RAS'_sI (Or.inl (by decide)))
  generalize hm15 : sI m13 111 5 (nI (fb_ct (fun k => decide (PK w0 P k = 1) && Sd w0 k) C)) = m15 at r15
  have d16 := al 1 r15
  have e16 : fb_ct (fun k => decide (PK w0 P k = 1) && (!decide ((1 : Int32) = 0) || Sd w0 k)) C = fb_ct (fun k => decide (PK w0 P k = 1)) C := fb_ct_cong (fun k _ => by rw [decide_eq_false (show ¬ ((1 : Int32) = 0) by decide)]; simp)
  rw [e16] at d16
  have r17 : RAS' w0 (sI m15 111 6 (nI (fb_ct (fun k => decide (PK w0 P k = 1)) C))) := r15.tr (RAS'_sI (Or.inl (by decide)))
  generalize hm17 : sI m15 111 6 (nI (fb_ct (fun k => decide (PK w0 P k = 1)) C)) = m17 at r17
  have d18 := cost_same h hn r17 b2
  have r19 : RAS' w0 (sI m17 111 7 co) := r17.tr (RAS'_sI (Or.inl (by decide)))
  generalize hm19 : sI m17 111 7 co = m19 at r19
  have d20 := shed_same h h24 hT r19 b3
  have r21 : RAS' w0 (sI m19 111 8 sh) := r19.tr (RAS'_sI (Or.inl (by decide)))
  have k0 : ∀ {T : Type} (K : Option T), ck (0 : Int32) 10 K = K := fun K => rfl
  have k1' : ∀ {T : Type} (K : Option T), ck (1 : Int32) 10 K = K := fun K => rfl
  have k2' : ∀ {T : Type} (K : Option T), ck (2 : Int32) 10 K = K := fun K => rfl
  have k3' : ∀ {T : Type} (K : Option T), ck (3 : Int32) 10 K = K := fun K => rfl
  have k4' : ∀ {T : Type} (K : Option T), ck (4 : Int32) 10 K = K := fun K => rfl
  have k5' : ∀ {T : Type} (K : Option T), ck (5 : Int32) 10 K = K := fun K => rfl
  have k6' : ∀ {T : Type} (K : Option T), ck (6 : Int32) 10 K = K := fun K => rfl
  have k7' : ∀ {T : Type} (K : Option T), ck (7 : Int32) 10 K = K := fun K => rfl
  have k8' : ∀ {T : Type} (K : Option T), ck (8 : Int32) 10 K = K := fun K => rfl
  have k9' : ∀ {T : Type} (K : Option T), ck (9 : Int32) 10 K = K := fun K => rfl
  have j0 : ix (0 : Int32) = 0 := rfl
  have j1 : ix (1 : Int32) = 1 := rfl
  have j2 : ix (2 : Int32) = 2 := rfl
  have j3 : ix (3 : Int32) = 3 := rfl
  have j4 : ix (4 : Int32) = 4 := rfl
  have j5 : ix (5 : Int32) = 5 := rfl
  have j6 : ix (6 : Int32) = 6 := rfl
  have j7 : ix (7 : Int32) = 7 := rfl
  have j8 : ix (8 : Int32) = 8 := rfl
  have j9 : ix (9 : Int32) = 9 := rfl
  have e0 : gI (sI (sI m19 111 8 sh) 111 9 0) = gI (sI (sI m19 111 8 sh) 111 9 0) := rfl
  have far : ∀ c i, c ≠ 111 → gI (sI (sI m19 111 8 sh) 111 9 0) c i = gI q4 c i := fun c i hc => by
    rw [g_far _ _ hc, g_far _ _ hc, ← hm19, g_far _ _ hc, ← hm17, g_far _ _ hc, ← hm15, g_far _ _ hc, ← hm13, g_far _ _ hc, ← hm10, g_far _ _ hc, ← hm8, g_far _ _ hc, ← hm6, g_far _ _ hc, g_far _ _ hc]
  refine ⟨sI (sI m19 111 8 sh) 111 9 0, ?_, r21.tr (RAS'_sI (Or.inl (by decide))), ⟨?_, ?_, ?_, ?_⟩, fun c i h1 h2 hi => ?_, fun t ht => ?_, fun k hk => ?_, fun p hp => ?_, ?_, ?_, ?_, ?_, ?_, ?_, ?_, ?_, ?_, ?_⟩
  · unfold f_X9_meet_J18
    rw [isTable_y h6 p10 h8 p66, some_bind, decide_eq_true ⟨hP, hT⟩, if_pos (show ¬ (bi true = 0) by decide)]
    show (f_X9_meets m0).bind _ = _
    simp only [hm, k1, some_bind, bnd, k0, k1', k2', k3', k4', k5', k6', k7', k8', k9', j0, j1, j2, j3, j4, j5, j6, j7, j8, j9, hm6, d7, hm8, d9, hm10, d11, d12, hm13, d14, hm15, d16, hm17, d18, hm19, d20]
  · rw [far _ _ (by decide), k46]
  · rw [far _ _ (by decide), k47]
  · rw [far _ _ (by decide), k48]
  · rw [far _ _ (by decide), k49]
  · rw [far _ _ (by omega), k5 c i h1 h2 hi]
  · rw [far _ _ (by decide), far _ _ (by decide)]; exact k6 t ht
  · rw [far _ _ (by decide), far _ _ (by decide)]; exact k7 k hk
  · rw [far _ _ (by decide)]; exact k8 p hp
  · rw [← hm19, ← hm17, ← hm15, ← hm13, ← hm10, ← hm8, ← hm6]
    simp only [g_sI, gJ_sI, gI_sJ, gJ_sJ, Nat.reduceEqDiff, false_and, and_false, true_and, and_true, if_false, if_true, reduceIte, not_false_eq_true, not_true_eq_false, k2.2.1 29 (by decide) (by decide)]
  · rw [← hm19, ← hm17, ← hm15, ← hm13, ← hm10, ← hm8, ← hm6]
    simp only [g_sI, gJ_sI, gI_sJ, gJ_sJ, Nat.reduceEqDiff, false_and, and_false, true_and, and_true, if_false, if_true, reduceIte, not_false_eq_true, not_true_eq_false, k2.2.1 30 (by decide) (by decide), f30]
  · rw [← hm19, ← hm17, ← hm15, ← hm13, ← hm10, ← hm8]
    simp only [g_sI, gJ_sI, gI_sJ, gJ_sJ, Nat.reduceEqDiff, false_and, and_false, true_and, and_true, if_false, if_true, reduceIte, not_false_eq_true, not_true_eq_false]
  · rw [← hm19, ← hm17, ← hm15, ← hm13, ← hm10]
    simp only [g_sI, gJ_sI, gI_sJ, gJ_sJ, Nat.reduceEqDiff, false_and, and_false, true_and, and_true, if_false, if_true, reduceIte, not_false_eq_true, not_true_eq_false]
  · rw [← hm19, ← hm17, ← hm15, ← hm13]
    simp only [g_sI, gJ_sI, gI_sJ, gJ_sJ, Nat.reduceEqDiff, false_and, and_false, true_and, and_true, if_false, if_true, reduceIte, not_false_eq_true, not_true_eq_false]
  · rw [← hm19, ← hm17, ← hm15]
    simp only [g_sI, gJ_sI, gI_sJ, gJ_sJ, Nat.reduceEqDiff, false_and, and_false, true_and, and_true, if_false, if_true, reduceIte, not_false_eq_true, not_true_eq_false]
  · rw [← hm19, ← hm17]
    simp only [g_sI, gJ_sI, gI_sJ, gJ_sJ, Nat.reduceEqDiff, false_and, and_false, true_and, and_true, if_false, if_true, reduceIte, not_false_eq_true, not_true_eq_false]
  · rw [← hm19]
    simp only [g_sI, gJ_sI, gI_sJ, gJ_sJ, Nat.reduceEqDiff, false_and, and_false, true_and, and_true, if_false, if_true, reduceIte, not_false_eq_true, not_true_eq_false]
  · simp only [g_sI, gJ_sI, gI_sJ, gJ_sJ, Nat.reduceEqDiff, false_and, and_false, true_and, and_true, if_false, if_true, reduceIte, not_false_eq_true, not_true_eq_false]
  · simp only [g_sI, gJ_sI, gI_sJ, gJ_sJ, Nat.reduceEqDiff, false_and, and_false, true_and, and_true, if_false, if_true, reduceIte, not_false_eq_true, not_true_eq_false]
theorem RAS_h {u n : Mem} (h : Fr (l_X3_hold 41) u n) : RAS 29 u n := by
  refine ⟨TS_fr h rfl, fun i h1 h2 => fr_c h 29 i (by decide), fun j hj i => fr_c h (29 + j) i (fun q hq => ?_)⟩
  simp only [List.mem_cons, List.not_mem_nil, or_false, Nat.reduceAdd] at hq
  rcases hq with rfl | rfl | rfl | rfl | rfl | rfl | rfl | rfl | rfl | rfl | rfl | rfl | rfl | rfl | rfl | rfl | rfl | rfl | rfl <;> (simp only; omega)
theorem needed_v {P T C V S x : Nat} {o : Nat → Nat} {w0 : Mem} (hx1 : 1 ≤ x) (hx9 : x ≤ 9) : ∀ j k u w b, k + j = P → TB P T C V u w → OR 27 T o u w → RA0 29 P T C V S u w0 → gI u 24 8 = nI P → gI w 111 2 = dc w0 C (Sd w0) T → gI w 111 9 = b → gI w 85 26 = gI u 11 0 → gI w 85 27 = gI u 11 2 → gI u 11 2 = nI x → ∃ v n n', wh f_X4_needed_L4 (b, nI k, u) = some (v, n) ∧ wh f_X9_meet_L146 (nI k, w) = some (gI w 111 0, n') ∧ gI n' 111 9 = v ∧ (∀ i, i ≠ 9 → gI n' 111 i = gI w 111 i) ∧ RAS 29 u n ∧ (∀ c i, c = 24 ∨ c = 25 ∨ c = 26 ∨ c = 28 → gI n c i = gI u c i) ∧ ∀ c i, (112 ≤ c ∧ c ≤ 123 ∨ c = 85 ∧ 46 ≤ i ∧ i ≤ 49) → gI n' c i = gI w c i := by
  intro j
  induction j with
  | zero =>
    intro k u w b e hB hO hA h24 h2 h9 h26 h27 hx
    have ek : k = P := by omega
    subst ek
    obtain ⟨⟨⟨n1, n2, n3⟩, -⟩, -⟩ := hB
    refine ⟨b, u, w, wh_done ?_, wh_done ?_, h9, fun _ _ => rfl, RAS.rf, fun _ _ _ => rfl, fun _ _ _ => rfl⟩
    · unfold f_X4_needed_L4
      simp only [h24, nI_le (Nat.le_refl k) (show k < 2 ^ 31 by omega), if_true, up_some]
    · unfold f_X9_meet_L146
      simp only [n2, nI_le (Nat.le_refl k) (show k < 2 ^ 31 by omega), if_true]
      rfl
  | succ j ih =>
    intro k u w b e hB hO hA h24 h2 h9 h26 h27 hx
    have hB0 := hB
    obtain ⟨⟨⟨n1, n2, n3⟩, ⟨n4, n5, n6⟩, ⟨n7, n8, n9⟩, n0⟩, -⟩ := hB
    have hk : k < P := by omega
    have hB1 : TB P T C V u (sI w 85 28 (nI k)) := TB_cong hB0 TS.rf ⟨fun c hc i => g_far _ _ (by omega), fun i hi => g_off _ _ (by omega), g_off _ _ (by decide), fun i => g_far _ _ (by decide)⟩
    have hO1 : OR 27 T o u (sI w 85 28 (nI k)) := ⟨fun i hi => by rw [g_far _ _ (by decide)]; exact hO.1 i hi, hO.2⟩
    have g26 : gI (sI w 85 28 (nI k)) 85 26 = gI u 11 0 := by rw [g_off _ _ (by decide), h26]
    have g27 : gI (sI w 85 28 (nI k)) 85 27 = gI u 11 2 := by rw [g_off _ _ (by decide), h27]
    have g28 : gI (sI w 85 28 (nI k)) 85 28 = nI k := g_hit _ _ _ _
    obtain ⟨n, n', S', c1, c2, c3, -, c5⟩ := hold_v (a := 41) (Or.inr (Or.inl rfl)) (Or.inl rfl) hB1 hO1 hx1 hx9 (g27.trans hx)
    rw [g26, g27, g28] at c1
    have FX := fr_X3_hold c1
    have FY := fr_X9_meets c2
    have rn : RAS 29 u n := RAS_h FX
    have hA1 : RA0 29 P T C V S n w0 := RA0_cong hA rn RAS'.rf
    have d41 := decided_v c3
    have d29 := decided_v hA1
    have d9 := dec_R (T := T) (C := C) c3.1.1.2.1.2.1 n6 c3.1.1.2.2.1.2.1 n9
    have f111 : ∀ i, gI n' 111 i = gI w 111 i := fun i => (fr_I FY 111 i rfl).trans (g_far _ _ (by decide))
    have fx : ∀ c i, c = 24 ∨ c = 25 ∨ c = 26 ∨ c = 28 → gI n c i = gI u c i := fun c i hc => fr_c FX c i (fun q hq => by
      simp only [List.mem_cons, List.not_mem_nil, or_false, Nat.reduceAdd] at hq
      rcases hq with rfl | rfl | rfl | rfl | rfl | rfl | rfl | rfl | rfl | rfl | rfl | rfl | rfl | rfl | rfl | rfl | rfl | rfl | rfl <;> (simp only; omega))
    have fy : ∀ c i, (112 ≤ c ∧ c ≤ 123 ∨ c = 85 ∧ 46 ≤ i ∧ i ≤ 49) → gI n' c i = gI w c i := fun c i hc => by
      have : gI n' c i = gI (sI w 85 28 (nI k)) c i := (FY.1 c i (fun q hq h1 h2 => by
        simp only [List.mem_cons, List.not_mem_nil, or_false] at hq
        rcases hq with rfl | rfl | rfl | rfl | rfl | rfl | rfl | rfl | rfl | rfl | rfl | rfl | rfl | rfl | rfl | rfl | rfl | rfl | rfl | rfl | rfl | rfl <;> simp at h1 h2 <;> omega)).1
      rw [this, g_sI, if_neg (by omega)]
    have ck0 : ∀ {T : Type} (K : Option T), ck (0 : Int32) 3 K = K := fun K => rfl
    have ck2 : ∀ {T : Type} (K : Option T), ck (2 : Int32) 3 K = K := fun K => rfl
    have c9 : ∀ {T : Type} (K : Option T), ck (9 : Int32) 10 K = K := fun K => rfl
    have c2' : ∀ {T : Type} (K : Option T), ck (2 : Int32) 10 K = K := fun K => rfl
    have j0 : ix (0 : Int32) = 0 := rfl
    have j2 : ix (2 : Int32) = 2 := rfl
    have j9 : ix (9 : Int32) = 9 := rfl
    -- the step
    let bb := b ||| (if dc n' C (Sd n') T = dc w0 C (Sd w0) T then 0 else (1 : Int32) <<< (nI k &&& 31))
    have s1 : f_X4_needed_L4 (b, nI k, u) = some (.inl (bb, nI (k + 1), n)) := by
      unfold f_X4_needed_L4
      simp only [h24, nI_ge hk (show P < 2 ^ 31 by omega), if_false, ck0, ck2, j0, j2, c1, some_bind, d41, d29, bnd, nI_1]
      by_cases c : dc n' C (Sd n') T = dc w0 C (Sd w0) T
      · rw [if_pos c]; simp only [bb, c, if_true]
      · rw [if_neg c]; simp only [bb, c, if_false]
    have s2 : f_X9_meet_L146 (nI k, w) = some (.inl (nI (k + 1), sI n' 111 9 bb)) := by
      unfold f_X9_meet_L146
      simp only [n2, nI_ge hk (show P < 2 ^ 31 by omega), if_false, bnd, c2, some_bind, c9, d9, c2', j2, j9, f111, h2, h9, nI_1]
      by_cases c : dc n' C (Sd n') T = dc w0 C (Sd w0) T
      · rw [if_pos c]; simp only [bb, c, if_true]
      · rw [if_neg c]; simp only [bb, c, if_false]
    have t1 : TS' n' (sI n' 111 9 bb) := (RAS'_sI (Or.inl (by decide))).1
    obtain ⟨v, r, r', z1, z2, z3, z4, z5, z6, z7⟩ := ih (k + 1) n (sI n' 111 9 bb) bb (by omega) (TB_cong c3.1 TS.rf t1) ⟨fun i hi => by rw [g_far _ _ (by decide)]; exact c5.1 i hi, c5.2⟩ hA1 (by rw [fx 24 8 (by decide), h24]) (by rw [g_off _ _ (by decide), f111, h2]) (g_hit _ _ _ _) (by rw [g_far _ _ (by decide), fr_I FY 85 26 rfl, g26, rn.1.1 11 (by decide) (by decide)]) (by rw [g_far _ _ (by decide), fr_I FY 85 27 rfl, g27, rn.1.1 11 (by decide) (by decide)]) (by rw [rn.1.1 11 (by decide) (by decide), hx])
    refine ⟨v, r, r', (wh_inl s1).trans z1, (wh_inl s2).trans (z2.trans ?_), z3, fun i hi => ?_, rn.tr z5, fun c i hc => (z6 c i hc).trans (fx c i hc), fun c i hc => ?_⟩
    · rw [g_off _ _ (by decide), f111]
    · rw [z4 i hi, g_off _ _ hi, f111]
    · rw [z7 c i hc, g_far _ _ (by omega), fy c i hc]
