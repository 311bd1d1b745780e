/-! told(), saying(), took(), did(), first() -/
/-- the kept side's questions: none kept -/
theorem kept_0 {m : Mem} (h : gI m 24 3 = 0) (x : Int32) : f_X4_hadThing x m = some (0, m) ∧ f_X4_hadCard x m = some (0, m) ∧ f_X4_hadPerson x m = some (0, m) := by
  unfold f_X4_hadThing f_X4_hadCard f_X4_hadPerson
  rw [if_pos h, if_pos h, if_pos h, bz_0]
  exact ⟨rfl, rfl, rfl⟩
theorem had_v {m : Mem} {i N : Nat} (h : gI m 24 3 = 1) (hN : gI m 24 i = nI N) (hN2 : N ≤ 100) (x : Int32) : (if (gI m 24 3) = 0 then bz (0 : Int32) (some ((0 : Int32), m)) else if x < 0 then bz (0 : Int32) (some ((0 : Int32), m)) else if (gI m 24 i) ≤ x then bz (0 : Int32) (some ((0 : Int32), m)) else bz (1 : Int32) (some ((1 : Int32), m))) = some (bi (decide (¬ (x < 0 ∨ nI N ≤ x))), m) := by
  rw [if_neg (by rw [h]; decide), hN]
  by_cases a : x < 0
  · rw [if_pos a, bz_0, decide_eq_false (fun z => z (Or.inl a))]; rfl
  · rw [if_neg a]
    by_cases b : nI N ≤ x
    · rw [if_pos b, bz_0, decide_eq_false (fun z => z (Or.inr b))]; rfl
    · rw [if_neg b, bz_1, decide_eq_true (show ¬ (x < 0 ∨ nI N ≤ x) from fun z => z.elim a b)]; rfl
theorem below_v {N : Nat} (hN : N ≤ 1000) (x : Int32) (m : Mem) : f_X9_within x.toInt64 0 (nI N - 1).toInt64 m = some (bi (decide (¬ (x < 0 ∨ nI N ≤ x))), m) := by
  by_cases h : x < 0 ∨ nI N ≤ x
  · rw [below_n hN h, decide_eq_false (fun z => z h)]; rfl
  · obtain ⟨k, hk, rfl⟩ := nn_of2 (n := N) (by omega) (Int32.not_lt.mp fun q => h (Or.inl q)) (Int32.not_le.mp fun q => h (Or.inr q))
    rw [below_y hN hk, decide_eq_true h]; rfl
theorem op_told {m m' : Mem} (hM : IM m m') (x : Int32) : ∃ v, f_X8_told x m = some (v, m) ∧ f_X9_told x m' = some (v, m') := by
  unfold f_X8_told f_X9_told
  rcases nn_cases 9 (by decide) x with ⟨k, hk, rfl⟩ | hbad
  · rw [rng_y' (n := 9) (c := 9) rfl (by decide) hk, wi_ok (n := 9) (H := 9) rfl (by decide) hk, some_bind, if_pos (show ¬ ((1 : Int32), m').1 = 0 from (by decide : ¬ ((1 : Int32) = 0)))]
    rcases hM with ⟨a, b⟩ | ⟨S, P, T, C, ⟨⟨k1, -, k2, kS⟩, -⟩, ⟨k3, -⟩, -⟩
    · rw [if_pos a]
      refine ⟨-5, rfl, ?_⟩
      show (if 0 ≤ gI m' 85 46 then ck (nI k) 10 (some ((gI m' 111 (ix (nI k))), m')) else some ((-5 : Int32), m')) = _
      rw [b]
      rfl
    · rw [if_neg (by rw [k1]; decide)]
      show ∃ v, ck (nI k) 10 (some ((gI m 25 (ix (nI k))), m)) = some (v, m) ∧ (if 0 ≤ gI m' 85 46 then ck (nI k) 10 (some ((gI m' 111 (ix (nI k))), m')) else some ((-5 : Int32), m')) = some (v, m')
      rw [k2, if_pos (nn_0le (by omega)), ck_in (by omega) (by decide), ck_in (by omega) (by decide), ix_n (by omega), k3 k (by omega)]
      exact ⟨_, rfl, rfl⟩
  · rw [rng_n' (n := 9) (c := 9) rfl hbad, wi_bad (n := 9) (H := 9) rfl hbad, some_bind]
    exact ⟨-1, rfl, rfl⟩
theorem op_took {m m' : Mem} (hM : IM m m') (x y : Int32) : ∃ v, f_X8_took x y m = some (v, m) ∧ f_X9_took x y m' = some (v, m') := by
  unfold f_X8_took f_X9_took
  rcases hM with ⟨a, b⟩ | ⟨S, P, T, C, ⟨⟨k1, -, k2, kS⟩, -, ⟨k3, k4, k5⟩, -⟩, -, k6, -⟩
  · rw [(kept_0 a x).1, some_bind, b]
    exact ⟨-2000000000, rfl, rfl⟩
  · unfold f_X4_hadThing
    rw [had_v k1 k3 (by omega), k2, if_neg (nn_lt0 (by omega)), k4, below_v (by omega)]
    simp only [some_bind]
    by_cases hx : x < 0 ∨ nI T ≤ x
    · rw [decide_eq_false (fun z => z hx)]
      exact ⟨-2000000000, rfl, rfl⟩
    · rw [decide_eq_true hx, if_neg (show ¬ bi true = 0 by decide), if_neg (show ¬ bi true = 0 by decide)]
      obtain ⟨t, ht, rfl⟩ := nn_of2 (n := T) (by omega) (Int32.not_lt.mp fun q => hx (Or.inl q)) (Int32.not_le.mp fun q => hx (Or.inr q))
      have c6 : ∀ {T : Type} (K : Option T), ck (nI t) 6 K = K := fun K => ck_in (by omega) (by decide)
      have it : ix (nI t) = t := ix_n (by omega)
      rcases nn_cases 1 (by decide) y with ⟨j, hj, rfl⟩ | hbad
      · rw [rng_y' (n := 1) (c := 1) rfl (by decide) hj, wi_ok (n := 1) (H := 1) rfl (by decide) hj]
        simp only [some_bind, show ¬ ((1 : Int32) = 0) by decide, not_false_eq_true, if_true, c6, it, Nat.reduceAdd]
        obtain ⟨q1, q2⟩ := k6 t ht
        rw [q1, q2]
        have : j = 0 ∨ j = 1 := by omega
        rcases this with rfl | rfl
        · exact ⟨_, rfl, rfl⟩
        · exact ⟨_, rfl, rfl⟩
      · rw [rng_n' (n := 1) (c := 1) rfl hbad, wi_bad (n := 1) (H := 1) rfl hbad]
        exact ⟨-2000000000, rfl, rfl⟩
theorem op_first {m m' : Mem} (hM : IM m m') (x y : Int32) : ∃ v, f_X8_first x y m = some (v, m) ∧ f_X9_first x y m' = some (v, m') := by
  unfold f_X8_first f_X9_first
  rcases hM with ⟨a, b⟩ | ⟨S, P, T, C, ⟨⟨k1, -, k2, kS⟩, -, -, ⟨k3, k4, k5⟩⟩, -, -, k6, -⟩
  · rw [(kept_0 a x).2.1, some_bind, b]
    exact ⟨-2000000000, rfl, rfl⟩
  · unfold f_X4_hadCard
    rw [had_v k1 k3 (by omega), k2, if_neg (nn_lt0 (by omega)), k4, below_v (by omega)]
    simp only [some_bind]
    by_cases hx : x < 0 ∨ nI C ≤ x
    · rw [decide_eq_false (fun z => z hx)]
      exact ⟨-2000000000, rfl, rfl⟩
    · rw [decide_eq_true hx, if_neg (show ¬ bi true = 0 by decide), if_neg (show ¬ bi true = 0 by decide)]
      obtain ⟨t, ht, rfl⟩ := nn_of2 (n := C) (by omega) (Int32.not_lt.mp fun q => hx (Or.inl q)) (Int32.not_le.mp fun q => hx (Or.inr q))
      have c6 : ∀ {T : Type} (K : Option T), ck (nI t) 20 K = K := fun K => ck_in (by omega) (by decide)
      have it : ix (nI t) = t := ix_n (by omega)
      rcases nn_cases 1 (by decide) y with ⟨j, hj, rfl⟩ | hbad
      · rw [rng_y' (n := 1) (c := 1) rfl (by decide) hj, wi_ok (n := 1) (H := 1) rfl (by decide) hj]
        simp only [some_bind, show ¬ ((1 : Int32) = 0) by decide, not_false_eq_true, if_true, c6, it, Nat.reduceAdd]
        obtain ⟨q1, q2⟩ := k6 t ht
        rw [q1, q2]
        have : j = 0 ∨ j = 1 := by omega
        rcases this with rfl | rfl
        · exact ⟨_, rfl, rfl⟩
        · exact ⟨_, rfl, rfl⟩
      · rw [rng_n' (n := 1) (c := 1) rfl hbad, wi_bad (n := 1) (H := 1) rfl hbad]
        exact ⟨-2000000000, rfl, rfl⟩
theorem op_saying {m m' : Mem} (hM : IM m m') (x y : Int32) : ∃ v, f_X8_saying x y m = some (v, m) ∧ f_X9_saying x y m' = some (v, m') := by
  unfold f_X8_saying f_X9_saying
  have n10 : ¬ ((1 : Int32) = 0) := by decide
  rcases nn_cases 6 (by decide) y with ⟨j, hj, rfl⟩ | hbad
  · rw [if_neg (nn_lt0 (by omega)), if_pos (lt_lit (n := 7) (c := 7) rfl (by decide) (by omega)), wi_ok (n := 6) (H := 6) rfl (by decide) hj]
    simp only [some_bind, n10, not_false_eq_true, if_true]
    rcases hM with ⟨a, b⟩ | ⟨S, P, T, C, ⟨⟨k1, k0, k2, kS⟩, -⟩, -, -, -, -, k6, -⟩
    · rw [if_neg (fun z => z a), b]
      exact ⟨-5, rfl, rfl⟩
    · rw [if_pos (by rw [k1]; decide), k2, if_pos (nn_0le (by omega)), below_v (by omega), k0]
      simp only [some_bind]
      by_cases hx : x < 0 ∨ nI S ≤ x
      · rw [decide_eq_false (fun z => z hx), if_neg (show ¬ ¬ bi false = 0 by decide)]
        refine ⟨-1, ?_, rfl⟩
        by_cases c : x < 0
        · rw [if_pos c]
        · rw [if_neg c, if_neg (Int32.not_lt.mpr (hx.resolve_left c))]
      · rw [decide_eq_true hx, if_pos (show ¬ bi true = 0 by decide)]
        obtain ⟨i, hi, rfl⟩ := nn_of2 (n := S) (by omega) (Int32.not_lt.mp fun q => hx (Or.inl q)) (Int32.not_le.mp fun q => hx (Or.inr q))
        have c200 : ∀ {T : Type} (K : Option T), ck (nI i) 200 K = K := fun K => ck_in (by omega) (by decide)
        have it : ix (nI i) = i := ix_n (by omega)
        have e7 : nI i * 7 + nI j = nI (i * 7 + j) := by rw [show nI i * 7 = nI (i * 7) from nI_mul i 7, nI_add]
        rw [if_neg (nn_lt0 (by omega)), if_pos (nI_lt hi (by omega)), e7, ck_in (by omega) (by decide), ix_n (by omega)]
        obtain ⟨q0, q1, q2, q3, q4, q5, q6⟩ := k6 i hi
        simp only [c200, it, Nat.reduceAdd]
        have : j = 0 ∨ j = 1 ∨ j = 2 ∨ j = 3 ∨ j = 4 ∨ j = 5 ∨ j = 6 := by omega
        rcases this with rfl | rfl | rfl | rfl | rfl | rfl | rfl
        · rw [q0]; exact ⟨_, rfl, rfl⟩
        · rw [q1]; exact ⟨_, rfl, rfl⟩
        · rw [q2]; exact ⟨_, rfl, rfl⟩
        · rw [q3]; exact ⟨_, rfl, rfl⟩
        · rw [q4]; exact ⟨_, rfl, rfl⟩
        · rw [q5]; exact ⟨_, rfl, rfl⟩
        · rw [q6]; exact ⟨_, rfl, rfl⟩
  · rw [wi_bad (n := 6) (H := 6) rfl hbad]
    refine ⟨-1, ?_, rfl⟩
    by_cases c : y < 0
    · rw [if_pos c]
    · have b : ¬ y < (7 : Int32) := far_ge (n := 6) (by decide) hbad c
      rw [if_neg c, if_neg b]
theorem did_loop {S P T C p : Nat} {w : Int32} {m' : Mem} (h46 : gI m' 85 46 = nI S) (hS : S ≤ 200) (hC : C ≤ 20) (h117 : ∀ i, i < S → gI m' 117 i = -2 ∨ ∃ k, k < C ∧ gI m' 117 i = nI k) : wh f_X9_did_L53 (nI p, w, 0, 0, 0, 0, m') = wh f_X9_did_L53 (nI p, w, sm (fun i => if gI m' 112 i = nI p then gI m' 115 i else 0) S, sm (fun i => if gI m' 118 i = nI p then 1 else 0) S, sm (fun i => if gI m' 112 i = nI p ∧ 0 ≤ gI m' 117 i ∧ 0 ≤ gI m' 121 (ix (gI m' 117 i)) ∧ ¬ gI m' 121 (ix (gI m' 117 i)) = nI p then 1 else 0) S, nI S, m') := by
  have key : ∀ j k, k + j = S → wh f_X9_did_L53 (nI p, w, sm (fun i => if gI m' 112 i = nI p then gI m' 115 i else 0) k, sm (fun i => if gI m' 118 i = nI p then 1 else 0) k, sm (fun i => if gI m' 112 i = nI p ∧ 0 ≤ gI m' 117 i ∧ 0 ≤ gI m' 121 (ix (gI m' 117 i)) ∧ ¬ gI m' 121 (ix (gI m' 117 i)) = nI p then 1 else 0) k, nI k, m') = wh f_X9_did_L53 (nI p, w, sm (fun i => if gI m' 112 i = nI p then gI m' 115 i else 0) S, sm (fun i => if gI m' 118 i = nI p then 1 else 0) S, sm (fun i => if gI m' 112 i = nI p ∧ 0 ≤ gI m' 117 i ∧ 0 ≤ gI m' 121 (ix (gI m' 117 i)) ∧ ¬ gI m' 121 (ix (gI m' 117 i)) = nI p then 1 else 0) S, nI S, m') := by
    intro j
    induction j with
    | zero => intro k e; have ek : k = S := by omega
              subst ek; rfl
    | succ j ih =>
      intro k e
      have hk : k < S := by omega
      refine (wh_inl ?_).trans (ih (k + 1) (by omega))
      have ck2 : ∀ {T : Type} (K : Option T), ck (nI k) 200 K = K := fun K => ck_in (by omega) (by decide)
      have ik : ix (nI k) = k := ix_n (by omega)
      have nk : ¬ nI S ≤ nI k := nI_ge hk (by omega)
      unfold f_X9_did_L53 f_X9_did_J85 f_X9_did_J105 f_X9_did_J133 f_X9_did_J134
      simp only [h46, nk, if_false, ck2, ik, bnd, nI_1, if_true, show ¬ ((1 : Int32) = 0) by decide, Int32.add_zero]
      have e1 : ∀ f : Nat → Int32, sm f (k + 1) = sm f k + f k := fun f => rfl
      rw [e1, e1, e1]
      by_cases c1 : gI m' 112 k = nI p
      · by_cases c2 : gI m' 118 k = nI p
        · rcases h117 k hk with d | ⟨q, q1, q2⟩
          · simp only [c1, c2, d, not_true_eq_false, if_false, if_true, show (-2 : Int32) < 0 by decide, show ¬ (0 : Int32) ≤ -2 by decide, false_and, and_false, Int32.add_zero]
          · have nq : ¬ nI q < 0 := nn_lt0 (by omega)
            have pq : (0 : Int32) ≤ nI q := nn_0le (by omega)
            have cq : ∀ {T : Type} (K : Option T), ck (nI q) 20 K = K := fun K => ck_in (by omega) (by decide)
            have iq : ix (nI q) = q := ix_n (by omega)
            simp only [c1, c2, q2, not_true_eq_false, if_false, if_true, nq, pq, cq, iq, true_and]
            by_cases d1 : gI m' 121 q < 0
            · simp only [d1, if_true, Int32.not_le.mpr d1, false_and, if_false, Int32.add_zero]
            · by_cases d2 : gI m' 121 q = nI p
              · rw [if_neg d1, if_pos d2, if_neg (fun z => z.2 d2), Int32.add_zero]
              · rw [if_neg d1, if_neg d2, if_pos ⟨Int32.not_lt.mp d1, d2⟩]
        · rcases h117 k hk with d | ⟨q, q1, q2⟩
          · simp only [c1, c2, d, not_true_eq_false, not_false_eq_true, if_false, if_true, show (-2 : Int32) < 0 by decide, show ¬ (0 : Int32) ≤ -2 by decide, false_and, and_false, Int32.add_zero]
          · have nq : ¬ nI q < 0 := nn_lt0 (by omega)
            have pq : (0 : Int32) ≤ nI q := nn_0le (by omega)
            have cq : ∀ {T : Type} (K : Option T), ck (nI q) 20 K = K := fun K => ck_in (by omega) (by decide)
            have iq : ix (nI q) = q := ix_n (by omega)
            simp only [c1, c2, q2, not_true_eq_false, not_false_eq_true, if_false, if_true, nq, pq, cq, iq, true_and, Int32.add_zero]
            by_cases d1 : gI m' 121 q < 0
            · simp only [d1, if_true, Int32.not_le.mpr d1, false_and, if_false, Int32.add_zero]
            · by_cases d2 : gI m' 121 q = nI p
              · rw [if_neg d1, if_pos d2, if_neg (fun z => z.2 d2), Int32.add_zero]
              · rw [if_neg d1, if_neg d2, if_pos ⟨Int32.not_lt.mp d1, d2⟩]
      · by_cases c2 : gI m' 118 k = nI p
        · simp only [c1, c2, not_true_eq_false, not_false_eq_true, if_false, if_true, false_and, Int32.add_zero]
        · simp only [c1, c2, not_true_eq_false, not_false_eq_true, if_false, if_true, false_and, Int32.add_zero]
  exact key S 0 (by omega)
theorem op_did {m m' : Mem} (hM : IM m m') (x y : Int32) : ∃ v, f_X8_did x y m = some (v, m) ∧ f_X9_did x y m' = some (v, m') := by
  have n10 : ¬ ((1 : Int32) = 0) := by decide
  unfold f_X8_did f_X9_did
  rcases nn_cases 3 (by decide) y with ⟨j, hj, rfl⟩ | hbad
  · rw [rng_y' (n := 3) (c := 3) rfl (by decide) hj, wi_ok (n := 3) (H := 3) rfl (by decide) hj]
    simp only [some_bind, n10, not_false_eq_true, if_true]
    rcases hM with ⟨a, b⟩ | ⟨S, P, T, C, ⟨⟨k1, k0, k2, kS⟩, ⟨k3, k4, k5⟩, -, ⟨-, -, kC⟩⟩, ⟨t1, t2⟩, -, -, k6, -, k7, k8⟩
    · rw [if_neg (fun z => z a), b]
      exact ⟨-5, rfl, rfl⟩
    · rw [if_pos (by rw [k1]; decide), k2, if_pos (nn_0le (by omega)), k4, below_v (by omega)]
      unfold f_X4_hadPerson
      rw [had_v k1 k3 (by omega)]
      simp only [some_bind]
      by_cases hx : x < 0 ∨ nI P ≤ x
      · rw [decide_eq_false (fun z => z hx)]
        exact ⟨-1, rfl, rfl⟩
      · rw [decide_eq_true hx, if_neg (show ¬ bi true = 0 by decide), if_pos (show ¬ bi true = 0 by decide)]
        obtain ⟨p, hp, rfl⟩ := nn_of2 (n := P) (by omega) (Int32.not_lt.mp fun q => hx (Or.inl q)) (Int32.not_le.mp fun q => hx (Or.inr q))
        have c10 : ∀ {T : Type} (K : Option T), ck (nI p) 10 K = K := fun K => ck_in (by omega) (by decide)
        have ip : ix (nI p) = p := ix_n (by omega)
        have c0 : ∀ {T : Type} (K : Option T), ck (0 : Int32) 10 K = K := fun K => rfl
        have i0 : ix (0 : Int32) = 0 := rfl
        obtain ⟨s7, s5, s6⟩ := k8 p hp
        have hd := did_loop (P := P) (T := T) (p := p) (w := nI j) k2 kS kC k7
        rw [hd, ← s7, ← s5, ← s6]
        have hend : ∀ r : Option (Int32 × Mem), (if ¬ nI j = 0 then if ¬ nI j = (1 : Int32) then if ¬ nI j = (2 : Int32) then ck (nI p) 10 (some ((gI m' 123 (ix (nI p))), m')) else some (gI m 35 p, m') else some (gI m 34 p, m') else ck (0 : Int32) 10 (if ¬ (gI m' 111 (ix (0 : Int32))) = 0 then ck (0 : Int32) 10 (dv (gI m' 111 (ix (0 : Int32))) (some ((((1000 : Int32) * gI m 36 p) / (gI m' 111 (ix (0 : Int32)))), m'))) else some ((0 : Int32), m'))) = r → wh f_X9_did_L53 (nI p, nI j, gI m 36 p, gI m 34 p, gI m 35 p, nI S, m') = r := fun r hr => by
          refine wh_up ?_
          unfold f_X9_did_L53
          simp only [k2, nI_le (Nat.le_refl S) (show S < 2 ^ 31 by omega), if_true]
          rw [← hr]
        unfold f_X4_ofPerson
        have : j = 0 ∨ j = 1 ∨ j = 2 ∨ j = 3 := by omega
        rcases this with rfl | rfl | rfl | rfl
        · have e : (if ¬ (gI m 29 8) = 0 then ck (nI p) 10 (dv (gI m 29 8) (some ((((1000 : Int32) * (gI m (29 + 7) (ix (nI p)))) / (gI m 29 8)), m))) else some ((0 : Int32), m)) = some (if gI m 29 8 = 0 then 0 else (1000 * gI m 36 p) / gI m 29 8, m) := by
            rw [c10, ip]
            by_cases c : gI m 29 8 = 0
            · rw [if_neg (fun z => z c), if_pos c]
            · rw [if_pos c, if_neg c]
              unfold dv
              rw [if_neg c]
          refine ⟨if gI m 29 8 = 0 then 0 else (1000 * gI m 36 p) / gI m 29 8, ?_, hend _ ?_⟩
          · show (if ¬ (gI m 29 8) = 0 then ck (nI p) 10 (dv (gI m 29 8) (some ((((1000 : Int32) * (gI m (29 + 7) (ix (nI p)))) / (gI m 29 8)), m))) else some ((0 : Int32), m)).bind (fun q2 => some (q2.1, q2.2)) = _
            rw [e]; rfl
          · rw [if_neg (show ¬ ¬ nI 0 = 0 from fun z => z rfl), c0, c0, i0, ← t2]
            by_cases c : gI m 29 8 = 0
            · rw [if_neg (fun z => z c), if_pos c]
            · rw [if_pos c, if_neg c]
              unfold dv
              rw [if_neg c]
        · refine ⟨gI m 34 p, ?_, hend _ ?_⟩
          · show (ck (nI p) 10 (some ((gI m (29 + 5) (ix (nI p))), m))).bind (fun q2 => some (q2.1, q2.2)) = _
            rw [c10, ip]; rfl
          · rfl
        · refine ⟨gI m 35 p, ?_, hend _ ?_⟩
          · show (ck (nI p) 10 (some ((gI m (29 + 6) (ix (nI p))), m))).bind (fun q2 => some (q2.1, q2.2)) = _
            rw [c10, ip]; rfl
          · rfl
        · refine ⟨gI m 28 p, ?_, hend _ ?_⟩
          · show (ck (nI p) 10 (some ((gI m 28 (ix (nI p))), m))).bind (fun q2 => some (q2.1, q2.2)) = _
            rw [c10, ip]; rfl
          · rw [k6 p hp]
            show ck (nI p) 10 (some ((gI m' 123 (ix (nI p))), m')) = _
            rw [c10, ip]
  · rw [rng_n' (n := 3) (c := 3) rfl hbad, wi_bad (n := 3) (H := 3) rfl hbad]
    exact ⟨-1, rfl, rfl⟩
