theorem act_bad {B : Nat} {m : Mem} (hA : IA B m) {p : Int32} (hp : p < 0 ∨ nI B ≤ p) (w x : Int32) : ∃ m1 m2, f_X8_act p w x m = some (0, m1) ∧ f_X9_act p w x m1 = some (0, m2) ∧ IA B m2 := by
  obtain ⟨⟨h1, h2, h3⟩, h4, ⟨R, hR, h5, h6⟩, h7⟩ := hA
  refine ⟨sI m 69 2 0, sI (sI m 69 2 0) 85 69 0, ?_, ?_, ⟨by simp only [g_sI, gJ_sI, gI_sJ, gJ_sJ, Nat.reduceEqDiff, false_and, and_false, true_and, and_true, if_false, if_true, reduceIte, not_false_eq_true, not_true_eq_false, h1], by simp only [g_sI, gJ_sI, gI_sJ, gJ_sJ, Nat.reduceEqDiff, false_and, and_false, true_and, and_true, if_false, if_true, reduceIte, not_false_eq_true, not_true_eq_false, h2], h3⟩, ?_, ⟨0, by decide, by simp only [g_sI, gJ_sI, gI_sJ, gJ_sJ, Nat.reduceEqDiff, false_and, and_false, true_and, and_true, if_false, if_true, reduceIte, not_false_eq_true, not_true_eq_false]; rfl, by simp only [g_sI, gJ_sI, gI_sJ, gJ_sJ, Nat.reduceEqDiff, false_and, and_false, true_and, and_true, if_false, if_true, reduceIte, not_false_eq_true, not_true_eq_false]; rfl⟩, ?_⟩
  · unfold f_X8_act
    simp only [bnd, some_bind, g_sI, gJ_sI, gI_sJ, gJ_sJ, Nat.reduceEqDiff, false_and, and_false, true_and, and_true, if_false, if_true, reduceIte, not_false_eq_true, not_true_eq_false, h1]
    by_cases a : p < 0
    · rw [if_pos a]
    · rw [if_neg a, if_pos (hp.resolve_left a)]
  · unfold f_X9_act
    simp only [bnd]
    rw [isBody_bad (B := B) (by simp only [g_sI, gJ_sI, gI_sJ, gJ_sJ, Nat.reduceEqDiff, false_and, and_false, true_and, and_true, if_false, if_true, reduceIte, not_false_eq_true, not_true_eq_false, h2]) h3 hp, some_bind, if_neg (show ¬ ¬ ((0 : Int32) = 0) by decide)]
  · intro i hi
    simp only [g_sI, gJ_sI, gI_sJ, gJ_sJ, Nat.reduceEqDiff, false_and, and_false, true_and, and_true, if_false, if_true, reduceIte, not_false_eq_true, not_true_eq_false]
    exact h4 i hi
  · intro i hi
    simp only [g_sI, gJ_sI, gI_sJ, gJ_sJ, Nat.reduceEqDiff, false_and, and_false, true_and, and_true, if_false, if_true, reduceIte, not_false_eq_true, not_true_eq_false]
    exact h7 i hi
theorem act_begin {B b c w K : Nat} {m : Mem} {x : Int32} (hA : IA B m) (hb : b < B) (hc : c < 8) (hw : w < 4) (e1 : ∀ m', gI m' 69 1 = gI m 69 1 → gI m' 71 b = gI m 71 b → f_X0_kindOf (nI b) m' = some (nI c, m')) (e2 : gI m 124 b = nI c) (G : Mem → Option (Int32 × Mem)) (hS : ∀ m1 m2, RT b c 0 m1 m2 → SimR b c 0 K (f_X0_run 10 (nI c) (nI w) x (nI 0) m1) (G m2)) (hK : K < 900) (hG : ∀ m1, gI m1 85 66 = nI B → gI m1 124 b = nI c → f_X9_act (nI b) (nI w) x m1 = (G (sI (sI (sI m1 85 69 0) 85 70 (nI c)) 85 71 (nI b))).bind (fun q => some (q.1, q.2))) : ∃ v m1 m2, f_X8_act (nI b) (nI w) x m = some (v, m1) ∧ f_X9_act (nI b) (nI w) x m1 = some (v, m2) ∧ IA B m2 := by
  obtain ⟨⟨h1, h2, h3⟩, h4, ⟨R, hR, h5, h6⟩, h7⟩ := hA
  -- the class
  have q1 : ¬ nI b < 0 := nn_lt0 (by omega)
  have q2 : ¬ nI B ≤ nI b := nI_ge hb (by omega)
  have q3 : ¬ nI w < 0 := nn_lt0 (by omega)
  have q4 : nI w < 4 := lt_lit (n := 4) rfl (by decide) hw
  have k1 := e1 (sI (sI m 69 2 0) 69 4 (nI b)) (by simp only [g_sI, gJ_sI, gI_sJ, gJ_sJ, Nat.reduceEqDiff, false_and, and_false, true_and, and_true, if_false, if_true, reduceIte, not_false_eq_true, not_true_eq_false, show ¬ (1 = 4) by decide, show ¬ (1 = 2) by decide]) (by simp only [g_sI, gJ_sI, gI_sJ, gJ_sJ, Nat.reduceEqDiff, false_and, and_false, true_and, and_true, if_false, if_true, reduceIte, not_false_eq_true, not_true_eq_false])
  let ms := sI (sI (sI m 69 2 0) 69 4 (nI b)) 69 5 (nI c)
  have hX : ∀ r, f_X0_run 10 (nI c) (nI w) x (nI 0) ms = some r → f_X8_act (nI b) (nI w) x m = some r := fun r hr => by
    unfold f_X8_act f_X0_begin
    simp only [bnd, some_bind, g_sI, gJ_sI, gI_sJ, gJ_sJ, Nat.reduceEqDiff, false_and, and_false, true_and, and_true, if_false, if_true, reduceIte, not_false_eq_true, not_true_eq_false, h1, q1, q2, q3, q4, k1]
    rw [show (sI (sI (sI m 69 2 0) 69 4 (nI b)) 69 5 (nI c)) = ms from rfl, show (0 : Int32) = nI 0 from rfl, hr]
    rfl
  -- the machine with both marks, for the relation only
  have hB0 : b < 24 ∨ True := Or.inr trivial
  have hfr : ∀ r, f_X8_act (nI b) (nI w) x m = some r → Fr l_X8_act m r.2 := fun r hr => fr_X8_act hr
  -- run the class against a reference that stands where the class began
  let m0r := sI (sI (sI m 85 69 0) 85 70 (nI c)) 85 71 (nI b)
  obtain ⟨v0, n1, n2, R0, f1, f2, f3, f4⟩ := hS ms (sI (sI (sI m 85 69 0) 85 70 (nI c)) 85 71 (nI b)) ⟨⟨by simp only [ms, g_sI, gJ_sI, gI_sJ, gJ_sJ, Nat.reduceEqDiff, false_and, and_false, true_and, and_true, if_false, if_true, reduceIte, not_false_eq_true, not_true_eq_false]; rfl, by simp only [g_sI, gJ_sI, gI_sJ, gJ_sJ, Nat.reduceEqDiff, false_and, and_false, true_and, and_true, if_false, if_true, reduceIte, not_false_eq_true, not_true_eq_false]; rfl⟩, fun i hi => by simp only [ms, g_sI, gJ_sI, gI_sJ, gJ_sJ, Nat.reduceEqDiff, false_and, and_false, true_and, and_true, if_false, if_true, reduceIte, not_false_eq_true, not_true_eq_false]; exact h7 i hi, ⟨by simp only [ms, g_sI, gJ_sI, gI_sJ, gJ_sJ, Nat.reduceEqDiff, false_and, and_false, true_and, and_true, if_false, if_true, reduceIte, not_false_eq_true, not_true_eq_false], by simp only [g_sI, gJ_sI, gI_sJ, gJ_sJ, Nat.reduceEqDiff, false_and, and_false, true_and, and_true, if_false, if_true, reduceIte, not_false_eq_true, not_true_eq_false]⟩, by simp only [ms, g_sI, gJ_sI, gI_sJ, gJ_sJ, Nat.reduceEqDiff, false_and, and_false, true_and, and_true, if_false, if_true, reduceIte, not_false_eq_true, not_true_eq_false], by simp only [g_sI, gJ_sI, gI_sJ, gJ_sJ, Nat.reduceEqDiff, false_and, and_false, true_and, and_true, if_false, if_true, reduceIte, not_false_eq_true, not_true_eq_false]⟩
  have hc8 := hX _ f1
  have F := hfr _ hc8
  have g1 : ∀ i, gI n1 125 i = gI m 125 i := fun i => fr_I F 125 i rfl
  obtain ⟨v, n3, n4, R1, g2, g3, g4, g5⟩ := hS ms (sI (sI (sI n1 85 69 0) 85 70 (nI c)) 85 71 (nI b)) ⟨⟨by simp only [ms, g_sI, gJ_sI, gI_sJ, gJ_sJ, Nat.reduceEqDiff, false_and, and_false, true_and, and_true, if_false, if_true, reduceIte, not_false_eq_true, not_true_eq_false]; rfl, by simp only [g_sI, gJ_sI, gI_sJ, gJ_sJ, Nat.reduceEqDiff, false_and, and_false, true_and, and_true, if_false, if_true, reduceIte, not_false_eq_true, not_true_eq_false]; rfl⟩, fun i hi => by simp only [ms, g_sI, gJ_sI, gI_sJ, gJ_sJ, Nat.reduceEqDiff, false_and, and_false, true_and, and_true, if_false, if_true, reduceIte, not_false_eq_true, not_true_eq_false]; rw [g1]; exact h7 i hi, ⟨by simp only [ms, g_sI, gJ_sI, gI_sJ, gJ_sJ, Nat.reduceEqDiff, false_and, and_false, true_and, and_true, if_false, if_true, reduceIte, not_false_eq_true, not_true_eq_false], by simp only [g_sI, gJ_sI, gI_sJ, gJ_sJ, Nat.reduceEqDiff, false_and, and_false, true_and, and_true, if_false, if_true, reduceIte, not_false_eq_true, not_true_eq_false]⟩, by simp only [ms, g_sI, gJ_sI, gI_sJ, gJ_sJ, Nat.reduceEqDiff, false_and, and_false, true_and, and_true, if_false, if_true, reduceIte, not_false_eq_true, not_true_eq_false], by simp only [g_sI, gJ_sI, gI_sJ, gJ_sJ, Nat.reduceEqDiff, false_and, and_false, true_and, and_true, if_false, if_true, reduceIte, not_false_eq_true, not_true_eq_false]⟩
  rw [f1] at g2
  cases g2
  have hr9 : f_X9_act (nI b) (nI w) x n1 = some (v0, n4) := by
    rw [hG n1 ((fr_I F 85 66 (by decide)).trans h2) ((fr_I F 124 b (by rfl)).trans e2), g3]
    rfl
  have F9 : Fr l_X9_act n1 n4 := fr_X9_act hr9
  obtain ⟨⟨r1, r2⟩, r3, -, -, -⟩ := g5
  refine ⟨v0, n1, n4, hc8, hr9, ⟨?_, ?_, h3⟩, fun i hi => ?_, ⟨R1, by omega, ?_, r2⟩, fun i hi => ?_⟩
  · exact (fr_I F9 69 1 (by decide)).trans ((fr_I F 69 1 (by decide)).trans h1)
  · exact (fr_I F9 85 66 (by decide)).trans ((fr_I F 85 66 (by decide)).trans h2)
  · rw [fr_I F9 71 i rfl, fr_I F 71 i rfl, fr_I F9 124 i rfl, fr_I F 124 i rfl]
    exact h4 i hi
  · exact (fr_I F9 69 2 (by decide)).trans r1
  · exact (fr_I F9 70 i rfl).trans (r3 i hi)
theorem op_act {B : Nat} {m : Mem} (hA : IA B m) (p w x : Int32) : ∃ v m1 m2, f_X8_act p w x m = some (v, m1) ∧ f_X9_act p w x m1 = some (v, m2) ∧ IA B m2 := by
  have hA0 := hA
  obtain ⟨⟨h1, h2, h3⟩, h4, ⟨R, hR, h5, h6⟩, h7⟩ := hA
  by_cases hp : p < 0 ∨ nI B ≤ p
  · obtain ⟨m1, m2, a, b, c⟩ := act_bad hA0 hp w x
    exact ⟨0, m1, m2, a, b, c⟩
  · obtain ⟨b, hb, rfl⟩ := nn_of2 (n := B) (by omega) (Int32.not_lt.mp fun q => hp (Or.inl q)) (Int32.not_le.mp fun q => hp (Or.inr q))
    obtain ⟨e0, c, hc, ec⟩ := h4 b (by omega)
    have e1 : ∀ m', gI m' 69 1 = gI m 69 1 → gI m' 71 b = gI m 71 b → f_X0_kindOf (nI b) m' = some (nI c, m') := fun m' a1 a2 => by
      unfold f_X0_kindOf
      rw [if_neg (nn_lt0 (by omega)), a1, h1, if_neg (nI_ge hb (by omega)), ck_in (by omega) (by decide), ix_n (by omega), a2, ec]
    have e2 : gI m 124 b = nI c := e0.symm.trans ec
    have q1 : ¬ nI b < 0 := nn_lt0 (by omega)
    have hG : ∀ (w : Int32) (m1 : Mem), gI m1 85 66 = nI B → gI m1 124 b = nI c → f_X9_act (nI b) w x m1 = sw w [((0 : Int32), (f_X9_knowsAs 4 (nI c) x (sI (sI (sI m1 85 69 0) 85 70 (nI c)) 85 71 (nI b))).bind (fun q5 => some (q5.1, q5.2))), ((1 : Int32), (f_X9_speaksAs 6 (nI c) x (sI (sI (sI m1 85 69 0) 85 70 (nI c)) 85 71 (nI b))).bind (fun q6 => some (q6.1, q6.2))), ((2 : Int32), (f_X9_stopsAs 4 (nI c) x (sI (sI (sI m1 85 69 0) 85 70 (nI c)) 85 71 (nI b))).bind (fun q7 => some (q7.1, q7.2))), ((3 : Int32), (f_X9_decidesAs 4 (nI c) x (sI (sI (sI m1 85 69 0) 85 70 (nI c)) 85 71 (nI b))).bind (fun q8 => some (q8.1, q8.2)))] (some ((0 : Int32), (sI (sI (sI m1 85 69 0) 85 70 (nI c)) 85 71 (nI b)))) := fun w m1 a1 a2 => by
      unfold f_X9_act
      simp only [bnd]
      rw [isBody_ok (B := B) (by simp only [g_sI, gJ_sI, gI_sJ, gJ_sJ, Nat.reduceEqDiff, false_and, and_false, true_and, and_true, if_false, if_true, reduceIte, not_false_eq_true, not_true_eq_false, a1]) h3 hb, some_bind, if_pos (show ¬ ((1 : Int32) = 0) by decide), ck_in (by omega) (by decide), ix_n (by omega)]
      simp only [g_sI, gJ_sI, gI_sJ, gJ_sJ, Nat.reduceEqDiff, false_and, and_false, true_and, and_true, if_false, if_true, reduceIte, not_false_eq_true, not_true_eq_false, a2]
    rcases nn_cases 3 (by decide) w with ⟨k, hk, rfl⟩ | hbad
    · have hk4 : k = 0 ∨ k = 1 ∨ k = 2 ∨ k = 3 := by omega
      rcases hk4 with rfl | rfl | rfl | rfl
      · exact act_begin hA0 hb (by omega) (by decide) e1 e2 (f_X9_knowsAs 4 (nI c) x) (fun m1 m2 h => sim_knows (by omega) h (by omega) (by omega) 8 2 x) (by decide) (fun m1 a1 a2 => by rw [hG _ m1 a1 a2]; rfl)
      · exact act_begin hA0 hb (by omega) (by decide) e1 e2 (f_X9_speaksAs 6 (nI c) x) (fun m1 m2 h => sim_speaks (by omega) h (by omega) (by omega) (by omega) 5 3 x) (by decide) (fun m1 a1 a2 => by rw [hG _ m1 a1 a2]; rfl)
      · exact act_begin hA0 hb (by omega) (by decide) e1 e2 (f_X9_stopsAs 4 (nI c) x) (fun m1 m2 h => sim_stops (by omega) h (by omega) (by omega) (by omega) 7 2 x) (by decide) (fun m1 a1 a2 => by rw [hG _ m1 a1 a2]; rfl)
      · exact act_begin hA0 hb (by omega) (by decide) e1 e2 (f_X9_decidesAs 4 (nI c) x) (fun m1 m2 h => sim_decides (by omega) h (by omega) (by omega) (by omega) 3 2 x) (by decide) (fun m1 a1 a2 => by rw [hG _ m1 a1 a2]; rfl)
    · have hn : ¬ w = 0 ∧ ¬ w = 1 ∧ ¬ w = 2 ∧ ¬ w = 3 := by
        refine ⟨?_, ?_, ?_, ?_⟩ <;> (rintro rfl; rcases hbad with q | q <;> exact absurd q (by decide))
      refine ⟨0, sI m 69 2 0, sI (sI (sI (sI m 69 2 0) 85 69 0) 85 70 (nI c)) 85 71 (nI b), ?_, ?_, ⟨by simp only [g_sI, gJ_sI, gI_sJ, gJ_sJ, Nat.reduceEqDiff, false_and, and_false, true_and, and_true, if_false, if_true, reduceIte, not_false_eq_true, not_true_eq_false, h1], by simp only [g_sI, gJ_sI, gI_sJ, gJ_sJ, Nat.reduceEqDiff, false_and, and_false, true_and, and_true, if_false, if_true, reduceIte, not_false_eq_true, not_true_eq_false, h2], h3⟩, ?_, ⟨0, by decide, by simp only [g_sI, gJ_sI, gI_sJ, gJ_sJ, Nat.reduceEqDiff, false_and, and_false, true_and, and_true, if_false, if_true, reduceIte, not_false_eq_true, not_true_eq_false]; rfl, by simp only [g_sI, gJ_sI, gI_sJ, gJ_sJ, Nat.reduceEqDiff, false_and, and_false, true_and, and_true, if_false, if_true, reduceIte, not_false_eq_true, not_true_eq_false]; rfl⟩, ?_⟩
      · unfold f_X8_act
        have q2 : ¬ nI B ≤ nI b := nI_ge hb (by omega)
        simp only [bnd, some_bind, g_sI, gJ_sI, gI_sJ, gJ_sJ, Nat.reduceEqDiff, false_and, and_false, true_and, and_true, if_false, if_true, reduceIte, not_false_eq_true, not_true_eq_false, h1, q1, q2]
        by_cases w0 : w < 0
        · rw [if_pos w0]
        · rw [if_neg w0, if_neg (show ¬ w < (4 : Int32) from far_ge (n := 3) (by decide) hbad w0)]
      · rw [hG w _ (by simp only [g_sI, gJ_sI, gI_sJ, gJ_sJ, Nat.reduceEqDiff, false_and, and_false, true_and, and_true, if_false, if_true, reduceIte, not_false_eq_true, not_true_eq_false, h2]) (by simp only [g_sI, gJ_sI, gI_sJ, gJ_sJ, Nat.reduceEqDiff, false_and, and_false, true_and, and_true, if_false, if_true, reduceIte, not_false_eq_true, not_true_eq_false, e2])]
        simp only [sw, hn, Nat.reduceEqDiff, false_and, and_false, true_and, and_true, if_false, if_true, reduceIte, not_false_eq_true, not_true_eq_false]
      · intro i hi
        simp only [g_sI, gJ_sI, gI_sJ, gJ_sJ, Nat.reduceEqDiff, false_and, and_false, true_and, and_true, if_false, if_true, reduceIte, not_false_eq_true, not_true_eq_false]
        exact h4 i hi
      · intro i hi
        simp only [g_sI, gJ_sI, gI_sJ, gJ_sJ, Nat.reduceEqDiff, false_and, and_false, true_and, and_true, if_false, if_true, reduceIte, not_false_eq_true, not_true_eq_false]
        exact h7 i hi
