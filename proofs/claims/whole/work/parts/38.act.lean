/-! ACTS -/
/-- both machines at one point of a saying's act: the saying b of kind c, R marks so far -/
def RT (b c R : Nat) (m m' : Mem) : Prop := (gI m 69 2 = nI R ∧ gI m' 85 69 = nI R) ∧ (∀ i, i < 24 → gI m 70 i = gI m' 125 i) ∧ (gI m 69 4 = nI b ∧ gI m' 85 71 = nI b) ∧ gI m 69 5 = nI c ∧ gI m' 85 70 = nI c
def SimR (b c R K : Nat) (X Y : Option (Int32 × Mem)) : Prop := ∃ v m1 m2 R', X = some (v, m1) ∧ Y = some (v, m2) ∧ R' ≤ R + K ∧ RT b c R' m1 m2
theorem sim_val {b c R : Nat} {m m' : Mem} (h : RT b c R m m') (v : Int32) : SimR b c R 0 (some (v, m)) (some (v, m')) := ⟨v, m, m', R, rfl, rfl, by omega, h⟩
theorem sim_seq {b c R K1 K2 K : Nat} {X Y : Option (Int32 × Mem)} {F G : Int32 × Mem → Option (Int32 × Mem)} (h : SimR b c R K1 X Y) (hK : K1 + K2 ≤ K) (k : ∀ v m1 m2 R', R' ≤ R + K1 → RT b c R' m1 m2 → SimR b c R' K2 (F (v, m1)) (G (v, m2))) : SimR b c R K (X.bind F) (Y.bind G) := by
  obtain ⟨v, m1, m2, R', rfl, rfl, h1, h2⟩ := h
  obtain ⟨w, n1, n2, R'', e1, e2, h3, h4⟩ := k v m1 m2 R' h1 h2
  exact ⟨w, n1, n2, R'', e1, e2, by omega, h4⟩
theorem sim_mark {b c R K : Nat} {m m' : Mem} (hR : R < 500) (h : RT b c R m m') (y : Int32) {F G : Mem → Option (Int32 × Mem)} (k : ∀ m1 m2, RT b c (R + 1) m1 m2 → SimR b c (R + 1) K (F m1) (G m2)) : SimR b c R (K + 1) ((f_X0_mark y m).bind F) ((f_X9_begins y m').bind G) := by
  obtain ⟨⟨h1, h2⟩, h3, ⟨h4, h5⟩, h6, h7⟩ := h
  have key : ∃ m1 m2, f_X0_mark y m = some m1 ∧ f_X9_begins y m' = some m2 ∧ RT b c (R + 1) m1 m2 := by
    unfold f_X0_mark f_X9_begins
    rw [h1, h2]
    by_cases hr : R < 24
    · have q : ¬ (24 : Int32) ≤ nI R := Int32.not_le.mpr (lt_lit (n := 24) rfl (by decide) hr)
      refine ⟨sI (sI m 70 R y) 69 2 (nI (R + 1)), sI (sI m' 125 R y) 85 69 (nI (R + 1)), ?_, ?_, ⟨by simp only [g_sI, gJ_sI, gI_sJ, gJ_sJ, Nat.reduceEqDiff, false_and, and_false, true_and, and_true, if_false, if_true, reduceIte, not_false_eq_true, not_true_eq_false], by simp only [g_sI, gJ_sI, gI_sJ, gJ_sJ, Nat.reduceEqDiff, false_and, and_false, true_and, and_true, if_false, if_true, reduceIte, not_false_eq_true, not_true_eq_false]⟩, fun i hi => ?_, ⟨?_, ?_⟩, ?_, ?_⟩
      · rw [if_neg q, ck_in hr (by decide)]
        simp only [bnd, some_bind, g_sI, gJ_sI, gI_sJ, gJ_sJ, Nat.reduceEqDiff, false_and, and_false, true_and, and_true, if_false, if_true, reduceIte, not_false_eq_true, not_true_eq_false, ix_n (show R < 2 ^ 31 by omega), h1, nI_1]
      · rw [if_neg q, ck_in hr (by decide)]
        simp only [bnd, some_bind, g_sI, gJ_sI, gI_sJ, gJ_sJ, Nat.reduceEqDiff, false_and, and_false, true_and, and_true, if_false, if_true, reduceIte, not_false_eq_true, not_true_eq_false, ix_n (show R < 2 ^ 31 by omega), h2, nI_1]
      · simp only [g_sI, gJ_sI, gI_sJ, gJ_sJ, Nat.reduceEqDiff, false_and, and_false, true_and, and_true, if_false, if_true, reduceIte, not_false_eq_true, not_true_eq_false, h3 i hi]
      · simp only [g_sI, gJ_sI, gI_sJ, gJ_sJ, Nat.reduceEqDiff, false_and, and_false, true_and, and_true, if_false, if_true, reduceIte, not_false_eq_true, not_true_eq_false, h4]
      · simp only [g_sI, gJ_sI, gI_sJ, gJ_sJ, Nat.reduceEqDiff, false_and, and_false, true_and, and_true, if_false, if_true, reduceIte, not_false_eq_true, not_true_eq_false, h5]
      · simp only [g_sI, gJ_sI, gI_sJ, gJ_sJ, Nat.reduceEqDiff, false_and, and_false, true_and, and_true, if_false, if_true, reduceIte, not_false_eq_true, not_true_eq_false, h6]
      · simp only [g_sI, gJ_sI, gI_sJ, gJ_sJ, Nat.reduceEqDiff, false_and, and_false, true_and, and_true, if_false, if_true, reduceIte, not_false_eq_true, not_true_eq_false, h7]
    · have q : (24 : Int32) ≤ nI R := ge_lit (n := 24) rfl (by omega) (by omega)
      refine ⟨sI m 69 2 (nI (R + 1)), sI m' 85 69 (nI (R + 1)), ?_, ?_, ⟨by simp only [g_sI, gJ_sI, gI_sJ, gJ_sJ, Nat.reduceEqDiff, false_and, and_false, true_and, and_true, if_false, if_true, reduceIte, not_false_eq_true, not_true_eq_false], by simp only [g_sI, gJ_sI, gI_sJ, gJ_sJ, Nat.reduceEqDiff, false_and, and_false, true_and, and_true, if_false, if_true, reduceIte, not_false_eq_true, not_true_eq_false]⟩, fun i hi => ?_, ⟨?_, ?_⟩, ?_, ?_⟩
      · rw [if_pos q]
        simp only [bnd, some_bind, g_sI, gJ_sI, gI_sJ, gJ_sJ, Nat.reduceEqDiff, false_and, and_false, true_and, and_true, if_false, if_true, reduceIte, not_false_eq_true, not_true_eq_false, nI_1]
      · rw [if_pos q]
        simp only [bnd, some_bind, g_sI, gJ_sI, gI_sJ, gJ_sJ, Nat.reduceEqDiff, false_and, and_false, true_and, and_true, if_false, if_true, reduceIte, not_false_eq_true, not_true_eq_false, nI_1]
      · simp only [g_sI, gJ_sI, gI_sJ, gJ_sJ, Nat.reduceEqDiff, false_and, and_false, true_and, and_true, if_false, if_true, reduceIte, not_false_eq_true, not_true_eq_false, h3 i hi]
      · simp only [g_sI, gJ_sI, gI_sJ, gJ_sJ, Nat.reduceEqDiff, false_and, and_false, true_and, and_true, if_false, if_true, reduceIte, not_false_eq_true, not_true_eq_false, h4]
      · simp only [g_sI, gJ_sI, gI_sJ, gJ_sJ, Nat.reduceEqDiff, false_and, and_false, true_and, and_true, if_false, if_true, reduceIte, not_false_eq_true, not_true_eq_false, h5]
      · simp only [g_sI, gJ_sI, gI_sJ, gJ_sJ, Nat.reduceEqDiff, false_and, and_false, true_and, and_true, if_false, if_true, reduceIte, not_false_eq_true, not_true_eq_false, h6]
      · simp only [g_sI, gJ_sI, gI_sJ, gJ_sJ, Nat.reduceEqDiff, false_and, and_false, true_and, and_true, if_false, if_true, reduceIte, not_false_eq_true, not_true_eq_false, h7]
  obtain ⟨m1, m2, e1, e2, h8⟩ := key
  rw [e1, e2]
  obtain ⟨w, n1, n2, R'', f1, f2, h9, h10⟩ := k m1 m2 h8
  exact ⟨w, n1, n2, R'', f1, f2, by omega, h10⟩
/-- the kind that has the act's body -/
def atT : List Nat := [0, 0, 0, 0, 1, 0, 0, 0, 0, 2, 0, 0, 0, 3, 3, 0, 0, 0, 4, 0, 0, 3, 3, 5, 6, 0, 0, 0, 0, 7, 4, 7]
def atK (k w : Nat) : Nat := atT.getD (4 * k + w) 0
theorem at_tab : ∀ k, k < 8 → ∀ w, w < 4 → (k = 0 → atK k w = 0) ∧ (k ≠ 0 → (st_5.getD (4 * k + w) 0 = 0 → atK k w = atK (par k) w) ∧ (st_5.getD (4 * k + w) 0 ≠ 0 → atK k w = k)) := by decide
theorem run_at {n w d : Nat} {x : Int32} {m : Mem} {r : Int32 × Mem} (hw : w < 4) : ∀ k g, k < 8 → g + k < 8 → f_X0_run_J45 (f_X0_run n) (nI w) x (nI d) (nI (atK k w)) m = some r → wh (f_X0_run_L6 (f_X0_run n)) (nI w, x, nI d, nI k, nI g, m) = some r := by
  intro k
  induction k using Nat.strongRecOn with
  | _ k ih =>
    intro g hk hg hJ
    have b1 : ¬ (8 : Int32) ≤ nI g := Int32.not_le.mpr (lt_lit (n := 8) rfl (by decide) (by omega))
    obtain ⟨t1, t2⟩ := at_tab k hk w hw
    by_cases h0 : k = 0
    · rw [t1 h0] at hJ
      refine wh_done ?_
      unfold f_X0_run_L6
      subst h0
      simp only [b1, Nat.reduceEqDiff, false_and, and_false, true_and, and_true, if_false, if_true, reduceIte, not_false_eq_true, not_true_eq_false, show nI 0 ≤ 0 by decide, hJ]
      rfl
    · obtain ⟨t3, t4⟩ := t2 h0
      have b2 : ¬ nI k ≤ 0 := nI_nle (by omega) (by omega)
      have e1 : nI k * 4 + nI w = nI (4 * k + w) := by
        rw [← nI_add]; congr 1
        rw [Nat.mul_comm]
        exact (Int32.ofNat_mul k 4).symm
      have e2 : ∀ {T : Type} (K : Option T), ck (nI (4 * k + w)) 32 K = K := fun K => ck_in (by omega) (by decide)
      have e3 : ∀ {T : Type} (K : Option T), ck (nI k) 8 K = K := fun K => ck_in hk (by decide)
      have l5 : st_5.length = 32 := rfl
      have l4 : st_4.length = 8 := rfl
      by_cases hz : st_5.getD (4 * k + w) 0 = 0
      · refine wh_next (s' := (nI w, x, nI d, nI (par k), nI (g + 1), m)) ?_ ?_
        · unfold f_X0_run_L6
          simp only [b1, b2, e1, e2, e3, l5, l4, ix_n (show 4 * k + w < 2 ^ 31 by omega), ix_n (show k < 2 ^ 31 by omega), hz, bnd, some_bind, g_sI, gJ_sI, gI_sJ, gJ_sJ, Nat.reduceEqDiff, false_and, and_false, true_and, and_true, if_false, if_true, reduceIte, not_false_eq_true, not_true_eq_false, nI_1, (par_4 k hk).1, h0]
        · have := (par_4 k hk).2.resolve_left h0
          rw [t3 hz] at hJ
          exact ih (par k) this (g + 1) (by omega) (by omega) hJ
      · rw [t4 hz] at hJ
        refine wh_done ?_
        unfold f_X0_run_L6
        simp only [b1, b2, e1, e2, l5, ix_n (show 4 * k + w < 2 ^ 31 by omega), hz, Nat.reduceEqDiff, false_and, and_false, true_and, and_true, if_false, if_true, reduceIte, not_false_eq_true, not_true_eq_false, hJ]
        rfl
theorem sim_run {b c R K n k w d : Nat} {x : Int32} {m : Mem} {Y : Option (Int32 × Mem)} (hk : k < 8) (hw : w < 4) (h : SimR b c R K (f_X0_run_J45 (f_X0_run n) (nI w) x (nI d) (nI (atK k w)) m) Y) : SimR b c R K (f_X0_run (n + 1) (nI k) (nI w) x (nI d) m) Y := by
  obtain ⟨v, m1, m2, R', e1, e2, h1, h2⟩ := h
  exact ⟨v, m1, m2, R', run_at hw k 0 hk (by omega) e1, e2, h1, h2⟩
theorem d_le {d : Nat} (h : d ≤ 40) : nI d ≤ 40 := nI_le h (by decide)
theorem j_0_0 {rc : Int32 → Int32 → Int32 → Int32 → Mem → Option (Int32 × Mem)} {d : Nat} (h : d ≤ 40) (x : Int32) (m : Mem) : f_X0_run_J45 rc (nI 0) x (nI d) (nI 0) m = (f_X0_mark 1 m).bind (fun q => some (x + gI q 69 4, q)) := by
  unfold f_X0_run_J45; rw [if_neg (by decide), if_pos (d_le h)]; rfl
theorem j_1_0 {rc : Int32 → Int32 → Int32 → Int32 → Mem → Option (Int32 × Mem)} {d : Nat} (h : d ≤ 40) (x : Int32) (m : Mem) : f_X0_run_J45 rc (nI 0) x (nI d) (nI 1) m = (f_X0_mark 20 m).bind (fun q => (rc (nI 0) (nI 0) x (nI (d + 1)) q).bind (fun q => some (q.1 + 3, q.2))) := by
  unfold f_X0_run_J45; rw [if_neg (by decide), if_pos (d_le h), ← nI_1 d]; rfl
theorem j_6_0 {rc : Int32 → Int32 → Int32 → Int32 → Mem → Option (Int32 × Mem)} {d : Nat} (h : d ≤ 40) (x : Int32) (m : Mem) : f_X0_run_J45 rc (nI 0) x (nI d) (nI 6) m = (f_X0_mark 70 m).bind (fun q => (rc (nI 0) (nI 0) x (nI (d + 1)) q).bind (fun q => some (q.1 * 2, q.2))) := by
  unfold f_X0_run_J45; rw [if_neg (by decide), if_pos (d_le h), ← nI_1 d]; rfl
theorem j_0_2 {rc : Int32 → Int32 → Int32 → Int32 → Mem → Option (Int32 × Mem)} {d : Nat} (h : d ≤ 40) (x : Int32) (m : Mem) : f_X0_run_J45 rc (nI 2) x (nI d) (nI 0) m = (f_X0_mark 11 m).bind (fun q => some (x ^^^ gI q 69 4, q)) := by
  unfold f_X0_run_J45; rw [if_neg (by decide), if_pos (d_le h)]; rfl
theorem j_3_2 {rc : Int32 → Int32 → Int32 → Int32 → Mem → Option (Int32 × Mem)} {d : Nat} (h : d ≤ 40) (x : Int32) (m : Mem) : f_X0_run_J45 rc (nI 2) x (nI d) (nI 3) m = (f_X0_mark 40 m).bind (fun q => (rc (nI 2) (nI 2) x (nI (d + 1)) q).bind (fun q => some (q.1 * 3, q.2))) := by
  unfold f_X0_run_J45; rw [if_neg (by decide), if_pos (d_le h), ← nI_1 d]; rfl
theorem j_4_2 {rc : Int32 → Int32 → Int32 → Int32 → Mem → Option (Int32 × Mem)} {d : Nat} (h : d ≤ 40) (x : Int32) (m : Mem) : f_X0_run_J45 rc (nI 2) x (nI d) (nI 4) m = (f_X0_mark 50 m).bind (fun q => (rc (nI 0) (nI 2) x (nI (d + 1)) q).bind (fun q => (rc (gI q.2 69 5) (nI 0) 2 (nI (d + 1)) q.2).bind (fun r => some (q.1 - r.1, r.2)))) := by
  unfold f_X0_run_J45; rw [if_neg (by decide), if_pos (d_le h), ← nI_1 d]; rfl
theorem j_0_1 {rc : Int32 → Int32 → Int32 → Int32 → Mem → Option (Int32 × Mem)} {d : Nat} (h : d ≤ 40) (x : Int32) (m : Mem) : f_X0_run_J45 rc (nI 1) x (nI d) (nI 0) m = (f_X0_mark 10 m).bind (fun q => (rc (gI q 69 5) (nI 0) x (nI (d + 1)) q).bind (fun q => some (q.1 * 2, q.2))) := by
  unfold f_X0_run_J45; rw [if_neg (by decide), if_pos (d_le h), ← nI_1 d]; rfl
theorem j_2_1 {rc : Int32 → Int32 → Int32 → Int32 → Mem → Option (Int32 × Mem)} {d : Nat} (h : d ≤ 40) (x : Int32) (m : Mem) : f_X0_run_J45 rc (nI 1) x (nI d) (nI 2) m = (f_X0_mark 30 m).bind (fun q => (rc (nI 0) (nI 1) x (nI (d + 1)) q).bind (fun q => some (-q.1, q.2))) := by
  unfold f_X0_run_J45; rw [if_neg (by decide), if_pos (d_le h), ← nI_1 d]; rfl
theorem j_3_1 {rc : Int32 → Int32 → Int32 → Int32 → Mem → Option (Int32 × Mem)} {d : Nat} (h : d ≤ 40) (x : Int32) (m : Mem) : f_X0_run_J45 rc (nI 1) x (nI d) (nI 3) m = (f_X0_mark 41 m).bind (fun q => (rc (nI 2) (nI 1) (x + 1) (nI (d + 1)) q).bind (fun q => some (q.1, q.2))) := by
  unfold f_X0_run_J45; rw [if_neg (by decide), if_pos (d_le h), ← nI_1 d]; rfl
theorem j_7_1 {rc : Int32 → Int32 → Int32 → Int32 → Mem → Option (Int32 × Mem)} {d : Nat} (h : d ≤ 40) (x : Int32) (m : Mem) : f_X0_run_J45 rc (nI 1) x (nI d) (nI 7) m = (f_X0_mark 80 m).bind (fun q => (rc (nI 4) (nI 1) x (nI (d + 1)) q).bind (fun q => (rc (gI q.2 69 5) (nI 2) 2 (nI (d + 1)) q.2).bind (fun r => some (q.1 + r.1, r.2)))) := by
  unfold f_X0_run_J45; rw [if_neg (by decide), if_pos (d_le h), ← nI_1 d]; rfl
theorem j_0_3 {rc : Int32 → Int32 → Int32 → Int32 → Mem → Option (Int32 × Mem)} {d : Nat} (h : d ≤ 40) (x : Int32) (m : Mem) : f_X0_run_J45 rc (nI 3) x (nI d) (nI 0) m = (f_X0_mark 2 m).bind (fun q => (rc (gI q 69 5) (nI 1) x (nI (d + 1)) q).bind (fun q => (rc (gI q.2 69 5) (nI 2) 1 (nI (d + 1)) q.2).bind (fun r => some (q.1 - r.1, r.2)))) := by
  unfold f_X0_run_J45; rw [if_neg (by decide), if_pos (d_le h), ← nI_1 d]; rfl
theorem j_5_3 {rc : Int32 → Int32 → Int32 → Int32 → Mem → Option (Int32 × Mem)} {d : Nat} (h : d ≤ 40) (x : Int32) (m : Mem) : f_X0_run_J45 rc (nI 3) x (nI d) (nI 5) m = (f_X0_mark 60 m).bind (fun q => (rc (nI 3) (nI 3) x (nI (d + 1)) q).bind (fun q => some (q.1 ^^^ 5, q.2))) := by
  unfold f_X0_run_J45; rw [if_neg (by decide), if_pos (d_le h), ← nI_1 d]; rfl
theorem j_7_3 {rc : Int32 → Int32 → Int32 → Int32 → Mem → Option (Int32 × Mem)} {d : Nat} (h : d ≤ 40) (x : Int32) (m : Mem) : f_X0_run_J45 rc (nI 3) x (nI d) (nI 7) m = (f_X0_mark 81 m).bind (fun q => (rc (nI 4) (nI 3) x (nI (d + 1)) q).bind (fun q => some (q.1 - 1, q.2))) := by
  unfold f_X0_run_J45; rw [if_neg (by decide), if_pos (d_le h), ← nI_1 d]; rfl
