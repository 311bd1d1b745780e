/-! meet() -/
def IMk (S P T C : Nat) (m m' : Mem) : Prop := ((gI m 24 3 = 1 ∧ gI m 29 7 = nI S ∧ gI m' 85 46 = nI S ∧ S ≤ 200) ∧ (gI m 24 8 = nI P ∧ gI m' 85 47 = nI P ∧ P ≤ 10) ∧ (gI m 24 9 = nI T ∧ gI m' 85 48 = nI T ∧ T ≤ 6) ∧ (gI m 24 10 = nI C ∧ gI m' 85 49 = nI C ∧ C ≤ 20)) ∧ ((∀ i, i < 10 → gI m 25 i = gI m' 111 i) ∧ gI m 29 8 = gI m' 111 0) ∧ (∀ t, t < T → gI m 31 t = gI m' 119 t ∧ gI m 26 t = gI m' 120 t) ∧ (∀ k, k < C → gI m 32 k = gI m' 121 k ∧ gI m 33 k = gI m' 122 k) ∧ (∀ p, p < P → gI m 28 p = gI m' 123 p) ∧ (∀ i, i < S → gI m 30 (i * 7 + 0) = gI m' 112 i ∧ gI m 30 (i * 7 + 1) = gI m' 113 i ∧ gI m 30 (i * 7 + 2) = gI m' 114 i ∧ gI m 30 (i * 7 + 3) = gI m' 115 i ∧ gI m 30 (i * 7 + 4) = gI m' 116 i ∧ gI m 30 (i * 7 + 5) = gI m' 117 i ∧ gI m 30 (i * 7 + 6) = gI m' 118 i) ∧ (∀ i, i < S → gI m' 117 i = -2 ∨ ∃ k, k < C ∧ gI m' 117 i = nI k) ∧ ∀ p, p < P → gI m 36 p = sm (fun i => if gI m' 112 i = nI p then gI m' 115 i else 0) S ∧ gI m 34 p = sm (fun i => if gI m' 118 i = nI p then 1 else 0) S ∧ gI m 35 p = sm (fun i => if gI m' 112 i = nI p ∧ 0 ≤ gI m' 117 i ∧ 0 ≤ gI m' 121 (ix (gI m' 117 i)) ∧ ¬ gI m' 121 (ix (gI m' 117 i)) = nI p then 1 else 0) S
def IM (m m' : Mem) : Prop := (gI m 24 3 = 0 ∧ gI m' 85 46 = -1) ∨ ∃ S P T C, IMk S P T C m m'
theorem IM_cong {m m' n n' : Mem} (h : IM m m') (h1 : ∀ c i, (c = 24 ∨ c = 25 ∨ c = 26 ∨ c = 28 ∨ 30 ≤ c ∧ c ≤ 36 ∨ c = 29 ∧ (i = 7 ∨ i = 8)) → gI n c i = gI m c i) (h2 : ∀ c i, (111 ≤ c ∧ c ≤ 123 ∨ c = 85 ∧ 46 ≤ i ∧ i ≤ 49) → gI n' c i = gI m' c i) : IM n n' := by
  rcases h with ⟨a, b⟩ | ⟨S, P, T, C, hk⟩
  · exact Or.inl ⟨by rw [h1 24 3 (by omega), a], by rw [h2 85 46 (by omega), b]⟩
  · refine Or.inr ⟨S, P, T, C, ?_⟩
    unfold IMk at hk ⊢
    simp only [h1 24 3 (by omega), h1 24 8 (by omega), h1 24 9 (by omega), h1 24 10 (by omega), h1 29 7 (by omega), h1 29 8 (by omega), fun i => h1 25 i (by omega), fun i => h1 26 i (by omega), fun i => h1 28 i (by omega), fun i => h1 30 i (by omega), fun i => h1 31 i (by omega), fun i => h1 32 i (by omega), fun i => h1 33 i (by omega), fun i => h1 34 i (by omega), fun i => h1 35 i (by omega), fun i => h1 36 i (by omega), h2 85 46 (by omega), h2 85 47 (by omega), h2 85 48 (by omega), h2 85 49 (by omega), fun i => h2 111 i (by omega), fun i => h2 112 i (by omega), fun i => h2 113 i (by omega), fun i => h2 114 i (by omega), fun i => h2 115 i (by omega), fun i => h2 116 i (by omega), fun i => h2 117 i (by omega), fun i => h2 118 i (by omega), fun i => h2 119 i (by omega), fun i => h2 120 i (by omega), fun i => h2 121 i (by omega), fun i => h2 122 i (by omega), fun i => h2 123 i (by omega)]
    exact hk
theorem meet_core {P T C V : Nat} {o : Nat → Nat} {u w : Mem} (hB : TB P T C V u w) (hO : OR 27 T o u w) (h26 : gI w 85 26 = gI u 11 0) (h27 : gI w 85 27 = gI u 11 2) (h28 : gI w 85 28 = -1) (hP : 0 < P) (hT : 0 < T) : ∃ v n n', f_X4_hold u = some (v, n) ∧ f_X9_meet_J18 w = some (v, n') ∧ IM n n' := by
  have hB0 := hB
  obtain ⟨⟨⟨n1, n2, n3⟩, ⟨n4, n5, n6⟩, ⟨n7, n8, n9⟩, n0⟩, -, -, -, -, ⟨-, -, sd, x, x1, x9, hx⟩, -⟩ := hB
  obtain ⟨a1, w0, S, c1, c2, c3, c4, c5⟩ := hold_v (a := 29) (Or.inl rfl) (Or.inl rfl) hB0 hO x1 x9 (h27.trans hx)
  rw [h26, h27, h28] at c1
  have FX := fr_X3_hold c1
  have FY := fr_X9_meets c2
  have TX : TS u a1 := TS_fr FX rfl
  have w28 : gI w0 85 28 = -1 := (fr_I FY 85 28 rfl).trans h28
  -- the counts kept
  have e1 : RA0 29 P T C V S (sI (sI (sI (sI a1 24 3 1) 24 8 (nI P)) 24 9 (nI T)) 24 10 (nI C)) w0 := RA0_sI (RA0_sI (RA0_sI (RA0_sI c3 (by decide)) (by decide)) (by decide)) (by decide)
  have r1 : RAS 29 a1 (sI (sI (sI (sI a1 24 3 1) 24 8 (nI P)) 24 9 (nI T)) 24 10 (nI C)) := (RAS_sI (by decide)).tr ((RAS_sI (by decide)).tr ((RAS_sI (by decide)).tr (RAS_sI (by decide))))
  have hH : f_X4_hold u = wh f_X4_hold_L70 (0, sI (sI (sI (sI a1 24 3 1) 24 8 (nI P)) 24 9 (nI T)) 24 10 (nI C)) := by
    unfold f_X4_hold
    have k0 : ∀ {T : Type} (K : Option T), ck (0 : Int32) 3 K = K := fun K => rfl
    have k2 : ∀ {T : Type} (K : Option T), ck (2 : Int32) 3 K = K := fun K => rfl
    have j0 : ix (0 : Int32) = 0 := rfl
    have j2 : ix (2 : Int32) = 2 := rfl
    have a13 : gI a1 1 13 = nI P := c3.1.1.1.1
    have a14 : gI a1 1 14 = nI T := c3.1.1.2.1.1
    have a15 : gI a1 1 15 = nI C := c3.1.1.2.2.1.1
    simp only [k0, k2, j0, j2, c1, bnd, some_bind, g_sI, gJ_sI, gI_sJ, gJ_sJ, Nat.reduceEqDiff, false_and, and_false, true_and, and_true, if_false, if_true, reduceIte, not_false_eq_true, not_true_eq_false, a13, a14, a15]
  have g24 : ∀ i, gI (sI (sI (sI (sI a1 24 3 1) 24 8 (nI P)) 24 9 (nI T)) 24 10 (nI C)) 24 i = if i = 10 then nI C else if i = 9 then nI T else if i = 8 then nI P else if i = 3 then 1 else gI a1 24 i := fun i => by
    simp only [g_sI, true_and]
  generalize hA1 : sI (sI (sI (sI a1 24 3 1) 24 8 (nI P)) 24 9 (nI T)) 24 10 (nI C) = A1 at e1 r1 hH g24
  have gA1 : ∀ c i, c ≠ 24 → gI A1 c i = gI a1 c i := fun c i hc => by rw [← hA1, g_far _ _ hc, g_far _ _ hc, g_far _ _ hc, g_far _ _ hc]
  obtain ⟨A2, d1, d2, d3, d4, d5⟩ := rows_v e1 w28 (by rw [g24]; rfl) (by rw [g24]; rfl)
  have e2 := RA0_cong e1 d2 RAS'.rf
  have h24 : gI A2 24 9 = nI T := by rw [d3 _ _ (by decide) (by decide), g24]; rfl
  obtain ⟨A3, hb, co, sh, s1, s2, s3, b1, b2, b3, t0, t1, t2, t3, t4, t5, t6, t7, t8⟩ := summ_v e2 w28 hT h24
  have e3 := RA0_cong e2 s2 RAS'.rf
  obtain ⟨W1, k1, k2, ⟨k46, k47, k48, k49⟩, k5, k6, k7, k8, q0, q1, q2, q3, q4, q5, q6, q7, q8, q9⟩ := J18_v n2 n5 hP hT c2 e2 w28 h24 b1 b2 b3
  have hOn : OR 27 T o A3 W1 := ⟨fun i hi => by
    obtain ⟨z1, z2, z3⟩ := c5.1 i hi
    exact ⟨z1, by rw [s3 _ _ (by decide), d3 _ _ (by decide) (by decide), gA1 _ _ (by decide), z2], by rw [k2.2.2 103 (by decide), z3]⟩, c5.2⟩
  have hTA : TS u A3 := TX.tr (r1.1.tr (d2.1.tr s2.1))
  have h8 : gI A3 24 8 = nI P := by rw [s3 _ _ (by decide), d3 _ _ (by decide) (by decide), g24]; rfl
  obtain ⟨v, A4, W2, z1, z2, z3, z4, z5, z6, z7⟩ := needed_v (S := S) x1 x9 P 0 A3 W1 0 (by omega) (TB_cong e3.1 TS.rf k2.1) hOn e3 h8 q2 q9 (by rw [k2.2.1 26 (by decide) (by decide), fr_I FY 85 26 rfl, h26, hTA.1 11 (by decide) (by decide)]) (by rw [k2.2.1 27 (by decide) (by decide), fr_I FY 85 27 rfl, h27, hTA.1 11 (by decide) (by decide)]) (by rw [hTA.1 11 (by decide) (by decide), hx])
  have zn : f_X4_needed A3 = some (v, A4) := z1
  have rall : RAS 29 a1 (sI A4 25 9 v) := r1.tr (d2.tr (s2.tr (z5.tr (RAS_sI (by decide)))))
  have e29 : gI (sI A4 25 9 v) 29 8 = gI w0 85 29 := by
    rw [rall.2.1 8 (by decide) (by decide)]
    obtain ⟨-, ⟨-, ⟨U, -, u1, u2⟩, -⟩, -⟩ := c3
    rw [u1, u2]
  refine ⟨gI w0 85 29, sI A4 25 9 v, W2, ?_, ?_, Or.inr ⟨S, P, T, C, ⟨⟨?_, ?_, ?_, ?_⟩, ⟨?_, ?_, n3⟩, ⟨?_, ?_, n6⟩, ?_, ?_, n9⟩, ⟨fun i hi => ?_, ?_⟩, fun t ht => ⟨?_, ?_⟩, fun k hk => ⟨?_, ?_⟩, fun p hp => ?_, fun i hi => ?_, fun i hi => ?_, fun p hp => ?_⟩⟩
  · rw [hH, d1, s1, some_bind, zn, some_bind]
    show ck (9 : Int32) 10 (bnd (sI A4 25 9 v) (fun m8 => some ((gI m8 29 8), m8))) = _
    rw [show ck (9 : Int32) 10 (bnd (sI A4 25 9 v) (fun m8 => some ((gI m8 29 8), m8))) = some (gI (sI A4 25 9 v) 29 8, sI A4 25 9 v) from rfl, e29]
  · rw [k1]
    exact z2.trans (by rw [q0])
  · rw [g_far _ _ (by decide), z6 _ _ (by omega), s3 _ _ (by decide), d3 _ _ (by decide) (by decide), g24]; rfl
  · rw [rall.2.1 7 (by decide) (by decide)]; exact c3.2.1.1.1
  · rw [z7 _ _ (by omega), k46]
  · exact c3.2.1.1.2.2
  · rw [g_far _ _ (by decide), z6 _ _ (by omega), s3 _ _ (by decide), d3 _ _ (by decide) (by decide), g24]; rfl
  · rw [z7 _ _ (by omega), k47]
  · rw [g_far _ _ (by decide), z6 _ _ (by omega), s3 _ _ (by decide), d3 _ _ (by decide) (by decide), g24]; rfl
  · rw [z7 _ _ (by omega), k48]
  · rw [g_far _ _ (by decide), z6 _ _ (by omega), s3 _ _ (by decide), d3 _ _ (by decide) (by decide), g24]; rfl
  · rw [z7 _ _ (by omega), k49]
  · by_cases hi9 : i = 9
    · subst hi9; rw [g_hit, z3]
    · rw [g_off _ _ hi9, z6 _ _ (by omega), z4 i hi9]
      have : i = 0 ∨ i = 1 ∨ i = 2 ∨ i = 3 ∨ i = 4 ∨ i = 5 ∨ i = 6 ∨ i = 7 ∨ i = 8 := by omega
      rcases this with rfl | rfl | rfl | rfl | rfl | rfl | rfl | rfl | rfl
      · rw [t0, q0]
      · rw [t1, q1]
      · rw [t2, q2]
      · rw [t3, q3]
      · rw [t4, q4]
      · rw [t5, q5]
      · rw [t6, q6]
      · rw [t7, q7]
      · rw [t8, q8]
  · rw [e29, z4 0 (by decide), q0]
  · rw [rall.2.2 2 (by decide), (c3.2.2.2.2 t ht).1, z7 _ _ (by omega), (k6 t ht).1]
  · rw [g_far _ _ (by decide), z6 _ _ (by omega), s3 _ _ (by decide), d4 t ht, z7 _ _ (by omega), (k6 t ht).2]
  · rw [rall.2.2 3 (by decide), (c3.2.2.2.1.1 k hk).1, z7 _ _ (by omega), (k7 k hk).1]
  · rw [rall.2.2 4 (by decide), (c3.2.2.2.1.1 k hk).2, z7 _ _ (by omega), (k7 k hk).2]
  · rw [g_far _ _ (by decide), z6 _ _ (by omega), s3 _ _ (by decide), d5 p hp, z7 _ _ (by omega), k8 p hp]
  · have hl : ∀ j, gI (sI A4 25 9 v) 30 j = gI a1 (29 + 1) j := fun j => rall.2.2 1 (by decide) j
    simp only [hl, z7 112 i (by omega), z7 113 i (by omega), z7 114 i (by omega), z7 115 i (by omega), z7 116 i (by omega), z7 117 i (by omega), z7 118 i (by omega), k5 112 i (by omega) (by omega) hi, k5 113 i (by omega) (by omega) hi, k5 114 i (by omega) (by omega) hi, k5 115 i (by omega) (by omega) hi, k5 116 i (by omega) (by omega) hi, k5 117 i (by omega) (by omega) hi, k5 118 i (by omega) (by omega) hi]
    exact c4.1 i hi
  · rw [z7 117 i (by omega), k5 117 i (by omega) (by omega) hi]
    rcases c4.2.1 i hi with z | ⟨k, y1, y2, -⟩
    · exact Or.inl z
    · exact Or.inr ⟨k, y1, y2⟩
  · obtain ⟨s7, s5, s6⟩ := c4.2.2 p hp
    have h36 : gI (sI A4 25 9 v) 36 p = gI a1 (29 + 7) p := rall.2.2 7 (by decide) p
    have h34 : gI (sI A4 25 9 v) 34 p = gI a1 (29 + 5) p := rall.2.2 5 (by decide) p
    have h35 : gI (sI A4 25 9 v) 35 p = gI a1 (29 + 6) p := rall.2.2 6 (by decide) p
    rw [h36, h34, h35]
    refine ⟨s7.trans (sm_cong (fun i hi => ?_)), s5.trans (sm_cong (fun i hi => ?_)), s6.trans (sm_cong (fun i hi => ?_))⟩
    · rw [z7 112 i (by omega), z7 115 i (by omega), k5 112 i (by omega) (by omega) hi, k5 115 i (by omega) (by omega) hi]
    · rw [z7 118 i (by omega), k5 118 i (by omega) (by omega) hi]
    · rw [z7 112 i (by omega), z7 117 i (by omega), k5 112 i (by omega) (by omega) hi, k5 117 i (by omega) (by omega) hi]
      rcases c4.2.1 i hi with z | ⟨k, y1, y2, -⟩
      · have zz : gI w0 (117 - 8) i = -2 := z
        rw [zz, if_neg (fun z => absurd z.2.1 (by decide)), if_neg (fun z => absurd z.2.1 (by decide))]
      · have zz : gI w0 (117 - 8) i = nI k := y2
        rw [zz, ix_n (by omega), z7 121 k (by omega), (k7 k y1).1]
theorem op_meet {P T C V : Nat} {m m' : Mem} (hB : TB P T C V m m') (hM : IM m m') (x : Int32) : ∃ v n n', f_X8_meet x m = some (v, n) ∧ f_X9_meet x m' = some (v, n') ∧ IM n n' := by
  have hB0 := hB
  obtain ⟨⟨⟨n1, n2, n3⟩, ⟨n4, n5, n6⟩, ⟨n7, n8, n9⟩, n0⟩, -, -, -, -, ⟨⟨s0, -⟩, -, s2, -⟩, -⟩ := hB
  obtain ⟨w, p1, p2, p3, p4, p5, p6, p7⟩ := plain_v n5 n6
  -- with an order, both go on alike
  have go : ∀ (o : Nat → Nat) (u v : Mem), (∀ c i, c ≠ 27 → gI u c i = gI m c i) → u.2.2 = m.2.2 → (∀ c i, c ≠ 103 → gI v c i = gI w c i) → OR 27 T o u v → ∃ r n n', (f_X6_isBare u).bind (fun q2 => if q2.1 = 0 then (f_X4_hold q2.2).bind (fun q3 => some (q3.1, q3.2)) else some ((-5 : Int32), q2.2)) = some (r, n) ∧ f_X9_meet_J18 v = some (r, n') ∧ IM n n' := fun o u v hu hu2 hv hO => by
    have tu : TS m u := ⟨fun c h1 h2 i => hu c i (by omega), fun i h1 h2 => hu 1 i (by omega), hu 14 5 (by omega), fun i => hu 17 i (by omega), fun i => hu 18 i (by omega), hu2⟩
    have tv : TS' m' v := p6.tr ⟨fun c hc i => hv c i (by omega), fun i hi => hv 85 i (by omega), hv 85 19 (by omega), fun i => hv 95 i (by omega)⟩
    have hB1 := TB_cong hB0 tu tv
    have hb := isBare_y hB1.1.1.1 n3 hB1.1.2.1.1 n6
    rw [hb, some_bind]
    by_cases c : 0 < P ∧ 0 < T
    · rw [decide_eq_true c, if_pos (show bi (!true) = 0 from rfl)]
      obtain ⟨r, n, n', z1, z2, z3⟩ := meet_core hB1 hO (by rw [hv 85 26 (by omega), p2, hu 11 0 (by omega), s0]) (by rw [hv 85 27 (by omega), p3, hu 11 2 (by omega), s2]) (by rw [hv 85 28 (by omega), p4]) c.1 c.2
      exact ⟨r, n, n', by rw [z1]; rfl, z2, z3⟩
    · rw [decide_eq_false c, if_neg (show ¬ (bi (!false) = 0) by decide)]
      refine ⟨-5, u, v, rfl, ?_, IM_cong hM (fun c i hc => hu c i (by omega)) (fun c i hc => by rw [hv c i (by omega), p7 c i (by omega) (by omega)])⟩
      unfold f_X9_meet_J18
      rw [isTable_y hB1.1.1.2.1 n3 hB1.1.2.1.2.1 n6, some_bind, decide_eq_false c, if_neg (show ¬ ¬ (bi false = 0) by decide)]
  by_cases hx : x = 0
  · subst hx
    obtain ⟨u, u1, u2⟩ := came_v 27 m
    have Fu := fr_X8_asTheyCame u1
    obtain ⟨r, n, n', z1, z2, z3⟩ := go (fun i => i) u w (fun c i hc => by rw [u2, if_neg (fun z => hc z.1)]) (Fu.2 (by decide)) (fun _ _ _ => rfl) ⟨fun i hi => ⟨hi, by rw [u2, if_pos ⟨rfl, by omega⟩], p5 i hi⟩, fun _ _ _ _ e => e⟩
    refine ⟨r, n, n', ?_, ?_, z3⟩
    · unfold f_X8_meet f_X4_takesOrder
      rw [if_neg (fun z => z rfl), u1, some_bind, bz_1, some_bind, if_pos (show ¬ ((1 : Int32), u).1 = 0 from (by decide : ¬ ((1 : Int32) = 0)))]
      exact z1
    · unfold f_X9_meet
      rw [p1, some_bind, if_pos rfl]
      exact z2
  · obtain ⟨v, u, w', o1, o2, o3, o4, o5⟩ := order_v (w := w) n4 ((p7 85 8 (by omega) (by omega)).trans n5) n6 x
    have h1 : f_X4_takesOrder x m = some (v, u) := by
      unfold f_X4_takesOrder
      rw [if_pos hx, n4]
      exact o1
    have h2 : f_X9_isOrder x w = some (v, w') := by
      unfold f_X9_isOrder
      rw [(p7 85 8 (by omega) (by omega)).trans n5]
      exact o2
    have Fu := fr_X4_takesOrder h1
    rcases o5 with rfl | ⟨rfl, o, hO⟩
    · refine ⟨-1, u, w', ?_, ?_, IM_cong hM (fun c i hc => o3 c i (by omega)) (fun c i hc => by rw [o4 c i (by omega), p7 c i (by omega) (by omega)])⟩
      · unfold f_X8_meet
        rw [h1]; rfl
      · unfold f_X9_meet
        rw [p1, some_bind, if_neg hx]
        show (f_X9_isOrder x w).bind _ = _
        rw [h2]; rfl
    · obtain ⟨r, n, n', z1, z2, z3⟩ := go o u w' o3 (Fu.2 (by decide)) o4 hO
      refine ⟨r, n, n', ?_, ?_, z3⟩
      · unfold f_X8_meet
        rw [h1, some_bind, if_pos (show ¬ ((1 : Int32), u).1 = 0 from (by decide : ¬ ((1 : Int32) = 0)))]
        exact z1
      · unfold f_X9_meet
        rw [p1, some_bind, if_neg hx]
        show (f_X9_isOrder x w).bind _ = _
        rw [h2, some_bind, if_pos (show ¬ ((1 : Int32), w').1 = 0 from (by decide : ¬ ((1 : Int32) = 0)))]
        exact z2
