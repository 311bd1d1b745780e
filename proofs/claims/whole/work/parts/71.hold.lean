/-! A MEETING: from its first minute to its last -/
theorem wh_up {S T : Type} {body : S → Option (S ⊕ T)} {s : S} {x : Option T} (h : body s = up x) : wh body s = x := by
  cases x with
  | some z => exact wh_done h
  | none =>
    cases hy : wh body s with
    | none => rfl
    | some z =>
      obtain ⟨n, hn⟩ := wh_to hy
      cases n with
      | zero => cases hn
      | succ n => unfold itr at hn; rw [h] at hn; cases hn
theorem wh_itu {S T : Type} {body : S → Option (S ⊕ T)} (st : Mem → Nat → Mem) (mk : Mem → Nat → S) (n : Nat) (x : Option T) (m : Mem) (h1 : ∀ k, k < n → body (mk (itM st m k) k) = some (.inl (mk (st (itM st m k) k) (k + 1)))) (h2 : body (mk (itM st m n) n) = up x) : wh body (mk m 0) = x := by
  have key : ∀ j k, k + j = n → wh body (mk (itM st m k) k) = x := by
    intro j
    induction j with
    | zero => intro k e; have e2 : k = n := by omega
              subst e2; exact wh_up h2
    | succ j ih => intro k e; rw [wh_inl (h1 k (by omega))]; exact ih (k + 1) (by omega)
  exact key n 0 (by omega)
theorem g_it2 {c d : Nat} (hcd : c ≠ d) (v w : Int32) (m : Mem) : ∀ n c' i, gI (itM (fun a k => sI (sI a c k v) d k w) m n) c' i = if c' = d ∧ i < n then w else if c' = c ∧ i < n then v else gI m c' i := by
  intro n
  induction n with
  | zero => intro c' i; rw [if_neg (by omega), if_neg (by omega)]; rfl
  | succ n ih =>
    intro c' i
    show gI (sI (sI (itM _ m n) c n v) d n w) c' i = _
    rw [g_sI, g_sI, ih]
    by_cases h1 : c' = d
    · subst h1
      have h2 : ¬ c' = c := fun e => hcd e.symm
      by_cases h3 : i = n
      · subst h3; simp
      · by_cases h4 : i < n
        · have : i < n + 1 := by omega
          simp [h3, h4, this]
        · have : ¬ i < n + 1 := by omega
          simp [h2, h3, h4, this]
    · by_cases h2 : c' = c
      · subst h2
        by_cases h3 : i = n
        · subst h3; simp [h1]
        · by_cases h4 : i < n
          · have : i < n + 1 := by omega
            simp [h1, h3, h4, this]
          · have : ¬ i < n + 1 := by omega
            simp [h1, h3, h4, this]
      · simp [h1, h2]
theorem clear_v {a : Nat} (m : Mem) : ∃ n, f_X3_clear a m = some n ∧ (gI n a 7 = 0 ∧ gI n a 8 = 0 ∧ gI n a 9 = 0 ∧ gI n a 18 = -1) ∧ (∀ i, i < 6 → gI n (a + 2) i = 0) ∧ (∀ i, i < 20 → gI n (a + 3) i = -2 ∧ gI n (a + 4) i = -2) ∧ ∀ i, i < 10 → gI n (a + 5) i = 0 ∧ gI n (a + 6) i = 0 ∧ gI n (a + 7) i = 0 ∧ gI n (a + 10) i = 0 ∧ gI n (a + 11) i = -2 := by
  obtain ⟨q1, x1, y1⟩ := fillI_v (a + 2) 6 (by decide) 0 m
  obtain ⟨q2, x2, y2⟩ := fillI_v (a + 3) 20 (by decide) (-2) q1
  obtain ⟨q3, x3, y3⟩ := fillI_v (a + 4) 20 (by decide) (-2) q2
  obtain ⟨q4, x4, y4⟩ := fillI_v (a + 5) 10 (by decide) 0 q3
  obtain ⟨q5, x5, y5⟩ := fillI_v (a + 6) 10 (by decide) 0 q4
  obtain ⟨q6, x6, y6⟩ := fillI_v (a + 7) 10 (by decide) 0 q5
  obtain ⟨q7, x7, y7⟩ := fillI_v (a + 10) 10 (by decide) 0 q6
  obtain ⟨q8, x8, y8⟩ := fillI_v (a + 11) 10 (by decide) (-2) q7
  unfold f_X3_clear
  simp only [x1, x2, x3, x4, x5, x6, x7, x8, some_bind, bnd]
  refine ⟨_, rfl, ⟨?_, ?_, ?_, ?_⟩, fun i hi => ?_, fun i hi => ⟨?_, ?_⟩, fun i hi => ⟨?_, ?_, ?_, ?_, ?_⟩⟩
  · simp only [g_sI, aa_1, aa_2, aa_3, Nat.reduceEqDiff, false_and, and_false, true_and, and_true, if_false, if_true, reduceIte, not_false_eq_true, not_true_eq_false]
  · simp only [g_sI, aa_1, aa_2, aa_3, Nat.reduceEqDiff, false_and, and_false, true_and, and_true, if_false, if_true, reduceIte, not_false_eq_true, not_true_eq_false]
  · simp only [g_sI, aa_1, aa_2, aa_3, Nat.reduceEqDiff, false_and, and_false, true_and, and_true, if_false, if_true, reduceIte, not_false_eq_true, not_true_eq_false]
  · simp only [g_sI, aa_1, aa_2, aa_3, Nat.reduceEqDiff, false_and, and_false, true_and, and_true, if_false, if_true, reduceIte, not_false_eq_true, not_true_eq_false]
  · simp only [g_sI, y8, y7, y6, y5, y4, y3, y2, y1, aa_1, aa_2, aa_3, hi, Nat.reduceEqDiff, false_and, and_false, true_and, and_true, if_false, if_true, reduceIte, not_false_eq_true, not_true_eq_false]
  · simp only [g_sI, y8, y7, y6, y5, y4, y3, y2, y1, aa_1, aa_2, aa_3, hi, Nat.reduceEqDiff, false_and, and_false, true_and, and_true, if_false, if_true, reduceIte, not_false_eq_true, not_true_eq_false]
  · simp only [g_sI, y8, y7, y6, y5, y4, y3, y2, y1, aa_1, aa_2, aa_3, hi, Nat.reduceEqDiff, false_and, and_false, true_and, and_true, if_false, if_true, reduceIte, not_false_eq_true, not_true_eq_false]
  · simp only [g_sI, y8, y7, y6, y5, y4, y3, y2, y1, aa_1, aa_2, aa_3, hi, Nat.reduceEqDiff, false_and, and_false, true_and, and_true, if_false, if_true, reduceIte, not_false_eq_true, not_true_eq_false]
  · simp only [g_sI, y8, y7, y6, y5, y4, y3, y2, y1, aa_1, aa_2, aa_3, hi, Nat.reduceEqDiff, false_and, and_false, true_and, and_true, if_false, if_true, reduceIte, not_false_eq_true, not_true_eq_false]
  · simp only [g_sI, y8, y7, y6, y5, y4, y3, y2, y1, aa_1, aa_2, aa_3, hi, Nat.reduceEqDiff, false_and, and_false, true_and, and_true, if_false, if_true, reduceIte, not_false_eq_true, not_true_eq_false]
  · simp only [g_sI, y8, y7, y6, y5, y4, y3, y2, y1, aa_1, aa_2, aa_3, hi, Nat.reduceEqDiff, false_and, and_false, true_and, and_true, if_false, if_true, reduceIte, not_false_eq_true, not_true_eq_false]
  · simp only [g_sI, y8, y7, y6, y5, y4, y3, y2, y1, aa_1, aa_2, aa_3, hi, Nat.reduceEqDiff, false_and, and_false, true_and, and_true, if_false, if_true, reduceIte, not_false_eq_true, not_true_eq_false]
/-- the reference's fields before its first thing -/
theorem meets0_v {P T C : Nat} {m' : Mem} (h6 : gI m' 85 6 = nI P) (hP : P ≤ 10) (h8 : gI m' 85 8 = nI T) (hT : T ≤ 6) (h9 : gI m' 85 9 = nI C) (hC : C ≤ 20) : ∃ r, f_X9_meets m' = wh f_X9_meets_L96 (0, r) ∧ (gI r 85 29 = 0 ∧ gI r 85 30 = 0 ∧ gI r 85 31 = -1) ∧ (∀ i, i < P → gI r 99 i = -2) ∧ (∀ i, i < C → gI r 100 i = -2 ∧ gI r 101 i = -2) ∧ (∀ i, i < T → gI r 102 i = 0) ∧ ∀ c i, ¬ (c = 85 ∧ 29 ≤ i ∧ i ≤ 31) → ¬ (99 ≤ c ∧ c ≤ 102) → gI r c i = gI m' c i := by
  let m3 := sI (sI (sI m' 85 29 0) 85 30 0) 85 31 (-1)
  have g3 : ∀ c i, ¬ (c = 85 ∧ 29 ≤ i ∧ i ≤ 31) → gI m3 c i = gI m' c i := fun c i h => by
    show gI (sI (sI (sI m' 85 29 0) 85 30 0) 85 31 (-1)) c i = _
    rw [g_sI, if_neg (fun z => h ⟨z.1, by omega, by omega⟩), g_sI, if_neg (fun z => h ⟨z.1, by omega, by omega⟩), g_sI, if_neg (fun z => h ⟨z.1, by omega, by omega⟩)]
  let m4 := itM (fun a k => sI a 99 k (-2 : Int32)) m3 P
  have i4 : ∀ n c' i, gI (itM (fun a k => sI a 99 k (-2 : Int32)) m3 n) c' i = if c' = 99 ∧ i < n then -2 else gI m3 c' i := fun n c' i => it_I 99 (fun _ _ => (-2 : Int32)) m3 n c' i
  let m5 := itM (fun a k => sI (sI a 100 k (-2 : Int32)) 101 k (-2 : Int32)) m4 C
  have i5 : ∀ n c' i, gI (itM (fun a k => sI (sI a 100 k (-2 : Int32)) 101 k (-2 : Int32)) m4 n) c' i = if c' = 101 ∧ i < n then -2 else if c' = 100 ∧ i < n then -2 else gI m4 c' i := fun n c' i => g_it2 (by decide) _ _ m4 n c' i
  let m6 := itM (fun a k => sI a 102 k (0 : Int32)) m5 T
  have i6 : ∀ n c' i, gI (itM (fun a k => sI a 102 k (0 : Int32)) m5 n) c' i = if c' = 102 ∧ i < n then 0 else gI m5 c' i := fun n c' i => it_I 102 (fun _ _ => (0 : Int32)) m5 n c' i
  have e4 : ∀ n c i, c ≠ 99 → gI (itM (fun a k => sI a 99 k (-2 : Int32)) m3 n) c i = gI m3 c i := fun n c i h => by rw [i4, if_neg (fun z => h z.1)]
  have e5 : ∀ n c i, c ≠ 100 → c ≠ 101 → gI (itM (fun a k => sI (sI a 100 k (-2 : Int32)) 101 k (-2 : Int32)) m4 n) c i = gI m4 c i := fun n c i h1 h2 => by rw [i5, if_neg (fun z => h2 z.1), if_neg (fun z => h1 z.1)]
  have e6 : ∀ n c i, c ≠ 102 → gI (itM (fun a k => sI a 102 k (0 : Int32)) m5 n) c i = gI m5 c i := fun n c i h => by rw [i6, if_neg (fun z => h z.1)]
  have c99 : ∀ c i, ¬ (c = 85 ∧ 29 ≤ i ∧ i ≤ 31) → ¬ (99 ≤ c ∧ c ≤ 102) → gI m6 c i = gI m' c i := fun c i h1 h2 => by
    rw [show gI m6 c i = gI m5 c i from e6 T c i (by omega), show gI m5 c i = gI m4 c i from e5 C c i (by omega) (by omega), show gI m4 c i = gI m3 c i from e4 P c i (by omega)]
    exact g3 c i h1
  have w17 : wh f_X9_meets_L17 (0, m3) = wh f_X9_meets_L41 (0, m4) := by
    refine wh_itu (fun a k => sI a 99 k (-2 : Int32)) (fun a k => (nI k, a)) P _ m3 (fun k hk => ?_) ?_
    · unfold f_X9_meets_L17
      have : gI (itM (fun a k => sI a 99 k (-2 : Int32)) m3 k) 85 6 = nI P := by rw [e4 _ _ _ (by decide), g3 85 6 (by omega), h6]
      simp only [this, nI_ge (show k < P by omega) (show P < 2 ^ 31 by omega), if_false, ck_in (show k < 10 by omega) (show 10 < 2 ^ 31 by decide), ix_n (show k < 2 ^ 31 by omega), bnd, nI_1]
    · unfold f_X9_meets_L17
      have : gI (itM (fun a k => sI a 99 k (-2 : Int32)) m3 P) 85 6 = nI P := by rw [e4 _ _ _ (by decide), g3 85 6 (by omega), h6]
      simp only [this, nI_le (Nat.le_refl P) (show P < 2 ^ 31 by omega), if_true]
      rfl
  have w41 : wh f_X9_meets_L41 (0, m4) = wh f_X9_meets_L73 (0, m5) := by
    refine wh_itu (fun a k => sI (sI a 100 k (-2 : Int32)) 101 k (-2 : Int32)) (fun a k => (nI k, a)) C _ m4 (fun k hk => ?_) ?_
    · unfold f_X9_meets_L41
      have : gI (itM (fun a k => sI (sI a 100 k (-2 : Int32)) 101 k (-2 : Int32)) m4 k) 85 9 = nI C := by rw [e5 _ _ _ (by decide) (by decide), show gI m4 85 9 = gI m3 85 9 from e4 P 85 9 (by decide), g3 85 9 (by omega), h9]
      simp only [this, nI_ge (show k < C by omega) (show C < 2 ^ 31 by omega), if_false, ck_in (show k < 20 by omega) (show 20 < 2 ^ 31 by decide), ix_n (show k < 2 ^ 31 by omega), bnd, nI_1]
    · unfold f_X9_meets_L41
      have : gI (itM (fun a k => sI (sI a 100 k (-2 : Int32)) 101 k (-2 : Int32)) m4 C) 85 9 = nI C := by rw [e5 _ _ _ (by decide) (by decide), show gI m4 85 9 = gI m3 85 9 from e4 P 85 9 (by decide), g3 85 9 (by omega), h9]
      simp only [this, nI_le (Nat.le_refl C) (show C < 2 ^ 31 by omega), if_true]
      rfl
  have w73 : wh f_X9_meets_L73 (0, m5) = wh f_X9_meets_L96 (0, m6) := by
    refine wh_itu (fun a k => sI a 102 k (0 : Int32)) (fun a k => (nI k, a)) T _ m5 (fun k hk => ?_) ?_
    · unfold f_X9_meets_L73
      have : gI (itM (fun a k => sI a 102 k (0 : Int32)) m5 k) 85 8 = nI T := by rw [e6 _ _ _ (by decide), show gI m5 85 8 = gI m4 85 8 from e5 C 85 8 (by decide) (by decide), show gI m4 85 8 = gI m3 85 8 from e4 P 85 8 (by decide), g3 85 8 (by omega), h8]
      simp only [this, nI_ge (show k < T by omega) (show T < 2 ^ 31 by omega), if_false, ck_in (show k < 6 by omega) (show 6 < 2 ^ 31 by decide), ix_n (show k < 2 ^ 31 by omega), bnd, nI_1]
    · unfold f_X9_meets_L73
      have : gI (itM (fun a k => sI a 102 k (0 : Int32)) m5 T) 85 8 = nI T := by rw [e6 _ _ _ (by decide), show gI m5 85 8 = gI m4 85 8 from e5 C 85 8 (by decide) (by decide), show gI m4 85 8 = gI m3 85 8 from e4 P 85 8 (by decide), g3 85 8 (by omega), h8]
      simp only [this, nI_le (Nat.le_refl T) (show T < 2 ^ 31 by omega), if_true]
      rfl
  have e85 : ∀ i, gI m6 85 i = gI m3 85 i := fun i => by
    rw [show gI m6 85 i = gI m5 85 i from e6 T 85 i (by decide), show gI m5 85 i = gI m4 85 i from e5 C 85 i (by decide) (by decide)]
    exact e4 P 85 i (by decide)
  refine ⟨m6, ?_, ⟨?_, ?_, ?_⟩, fun i hi => ?_, fun i hi => ⟨?_, ?_⟩, fun i hi => ?_, c99⟩
  · unfold f_X9_meets
    simp only [bnd]
    exact w17.trans (w41.trans w73)
  · rw [e85]; simp only [m3, g_sI, gJ_sI, gI_sJ, gJ_sJ, Nat.reduceEqDiff, false_and, and_false, true_and, and_true, if_false, if_true, reduceIte, not_false_eq_true, not_true_eq_false]
  · rw [e85]; simp only [m3, g_sI, gJ_sI, gI_sJ, gJ_sJ, Nat.reduceEqDiff, false_and, and_false, true_and, and_true, if_false, if_true, reduceIte, not_false_eq_true, not_true_eq_false]
  · rw [e85]; simp only [m3, g_sI, gJ_sI, gI_sJ, gJ_sJ, Nat.reduceEqDiff, false_and, and_false, true_and, and_true, if_false, if_true, reduceIte, not_false_eq_true, not_true_eq_false]
  · rw [show gI m6 99 i = gI m5 99 i from e6 T 99 i (by decide), show gI m5 99 i = gI m4 99 i from e5 C 99 i (by decide) (by decide), show gI m4 99 i = _ from i4 P 99 i, if_pos ⟨rfl, hi⟩]
  · rw [show gI m6 100 i = gI m5 100 i from e6 T 100 i (by decide), show gI m5 100 i = _ from i5 C 100 i, if_neg (fun z => absurd z.1 (by decide)), if_pos ⟨rfl, hi⟩]
  · rw [show gI m6 101 i = gI m5 101 i from e6 T 101 i (by decide), show gI m5 101 i = _ from i5 C 101 i, if_pos ⟨rfl, hi⟩]
  · rw [show gI m6 102 i = _ from i6 T 102 i, if_pos ⟨rfl, hi⟩]
/-- an order of the things, at both -/
def OR (ag T : Nat) (o : Nat → Nat) (m m' : Mem) : Prop := (∀ i, i < T → o i < T ∧ gI m ag i = nI (o i) ∧ gI m' 103 i = nI (o i)) ∧ ∀ i j, i < T → j < T → o i = o j → i = j
theorem hold_v {a ag P T C V : Nat} {o : Nat → Nat} {m m' : Mem} (ha : MA a) (hag : ag = 27 ∨ ag = 54) (hB : TB P T C V m m') (hO : OR ag T o m m') {x : Nat} (hx1 : 1 ≤ x) (hx9 : x ≤ 9) (hx : gI m' 85 27 = nI x) : ∃ n n' S, f_X3_hold a ag (gI m' 85 26) (gI m' 85 27) (gI m' 85 28) m = some n ∧ f_X9_meets m' = some n' ∧ RA0 a P T C V S n n' ∧ RL a C P S n n' ∧ OR ag T o n n' := by
  have hB0 := hB
  obtain ⟨⟨⟨n1, n2, n3⟩, ⟨n4, n5, n6⟩, ⟨n7, n8, n9⟩, n0⟩, -⟩ := hB
  have hma := ha
  unfold MA at hma
  obtain ⟨q0, c1, ⟨c7, c8, c9, c18⟩, cT, cK, cP⟩ := clear_v (a := a) m
  have F0 := fr_X3_clear c1
  obtain ⟨r, r1, ⟨r29, r30, r31⟩, rP, rK, rT, rc⟩ := meets0_v n2 n3 n5 n6 n8 n9
  have hH : f_X3_hold a ag (gI m' 85 26) (gI m' 85 27) (gI m' 85 28) m = wh (f_X3_hold_L23 a ag) (0, sI (sI (sI q0 a 15 (gI m' 85 26)) a 16 (gI m' 85 27)) a 17 (gI m' 85 28)) := by
    unfold f_X3_hold
    simp only [c1, some_bind, bnd]
  have T0 : TS m q0 := TS_fr F0 (by rcases ha with rfl | rfl | rfl <;> rfl)
  have T1 : TS q0 (sI (sI (sI q0 a 15 (gI m' 85 26)) a 16 (gI m' 85 27)) a 17 (gI m' 85 28)) := by
    have e : ∀ c i, c ≠ a → gI (sI (sI (sI q0 a 15 (gI m' 85 26)) a 16 (gI m' 85 27)) a 17 (gI m' 85 28)) c i = gI q0 c i := fun c i h => by rw [g_far _ _ h, g_far _ _ h, g_far _ _ h]
    exact ⟨fun c h1 h2 i => e c i (by omega), fun i h1 h2 => e 1 i (by omega), e 14 5 (by omega), fun i => e 17 i (by omega), fun i => e 18 i (by omega), rfl⟩
  have T2 : TS' m' r := ⟨fun c hc i => rc c i (by omega) (by omega), fun i hi => rc 85 i (by omega) (by omega), rc 85 19 (by omega) (by omega), fun i => rc 95 i (by omega) (by omega)⟩
  let q := sI (sI (sI q0 a 15 (gI m' 85 26)) a 16 (gI m' 85 27)) a 17 (gI m' 85 28)
  have qa : ∀ i, i ≠ 15 → i ≠ 16 → i ≠ 17 → gI q a i = gI q0 a i := fun i h1 h2 h3 => by
    show gI (sI (sI (sI q0 a 15 (gI m' 85 26)) a 16 (gI m' 85 27)) a 17 (gI m' 85 28)) a i = _
    rw [g_off _ _ h3, g_off _ _ h2, g_off _ _ h1]
  have qc : ∀ c i, c ≠ a → gI q c i = gI q0 c i := fun c i h => by
    show gI (sI (sI (sI q0 a 15 (gI m' 85 26)) a 16 (gI m' 85 27)) a 17 (gI m' 85 28)) c i = _
    rw [g_far _ _ h, g_far _ _ h, g_far _ _ h]
  have hSr : ∀ k, k < C → Sd r k = false := fun k hk => by
    unfold Sd
    rw [(rK k hk).1]; rfl
  have A0 : RA0 a P T C V 0 q r := by
    refine ⟨TB_cong hB0 (T0.tr T1) T2, ⟨⟨by rw [qa 7 (by decide) (by decide) (by decide), c7]; rfl, r30, by omega⟩, ⟨0, Nat.le_refl _, by rw [qa 8 (by decide) (by decide) (by decide), c8]; rfl, r29⟩, ⟨by rw [qa 18 (by decide) (by decide) (by decide), c18, r31], Or.inl (by rw [qa 18 (by decide) (by decide) (by decide), c18])⟩, ?_, ⟨?_, x, hx1, hx9, ?_⟩, ?_⟩, fun p hp => ?_, ⟨fun k hk => ⟨?_, ?_⟩, fun i hi => ?_⟩, fun t ht => ⟨?_, 0, Nat.zero_le _, ?_⟩⟩
    · rw [rc 85 26 (by omega) (by omega)]
      show gI (sI (sI (sI q0 a 15 (gI m' 85 26)) a 16 (gI m' 85 27)) a 17 (gI m' 85 28)) a 15 = _
      rw [g_off _ _ (by decide), g_off _ _ (by decide), g_hit]
    · rw [rc 85 27 (by omega) (by omega)]
      show gI (sI (sI (sI q0 a 15 (gI m' 85 26)) a 16 (gI m' 85 27)) a 17 (gI m' 85 28)) a 16 = _
      rw [g_off _ _ (by decide), g_hit]
    · show gI (sI (sI (sI q0 a 15 (gI m' 85 26)) a 16 (gI m' 85 27)) a 17 (gI m' 85 28)) a 16 = _
      rw [g_off _ _ (by decide), g_hit, hx]
    · rw [rc 85 28 (by omega) (by omega)]
      show gI (sI (sI (sI q0 a 15 (gI m' 85 26)) a 16 (gI m' 85 27)) a 17 (gI m' 85 28)) a 17 = _
      rw [g_hit]
    · rw [qc _ _ (by omega), (cP p (by omega)).2.2.2.2, rP p hp]
    · rw [qc _ _ (by omega), (cK k (by omega)).1, (rK k hk).1]
    · rw [qc _ _ (by omega), (cK k (by omega)).2, (rK k hk).2]
    · rw [qa 9 (by decide) (by decide) (by decide), c9, b_0]
      by_cases c : i < C
      · rw [hSr i c, Bool.and_false]
      · rw [decide_eq_false c]; rfl
    · rw [qc _ _ (by omega), cT t (by omega), rT t ht]
    · rw [qc _ _ (by omega), cT t (by omega)]; rfl
  have L0 : RL a C P 0 q r := by
    refine ⟨fun i hi => absurd hi (Nat.not_lt_zero i), fun i hi => absurd hi (Nat.not_lt_zero i), fun p hp => ?_⟩
    rw [qc _ _ (show a + 7 ≠ a by omega), qc _ _ (show a + 5 ≠ a by omega), qc _ _ (show a + 6 ≠ a by omega), (cP p (by omega)).1, (cP p (by omega)).2.1, (cP p (by omega)).2.2.1]
    exact ⟨rfl, rfl, rfl⟩
  have O0 : OR ag T o q r := by
    refine ⟨fun i hi => ?_, hO.2⟩
    obtain ⟨z1, z2, z3⟩ := hO.1 i hi
    refine ⟨z1, ?_, by rw [rc 103 i (by omega) (by omega), z3]⟩
    have e1 : gI q ag i = gI q0 ag i := by
      refine qc ag i ?_
      omega
    have e2 : gI q0 ag i = gI m ag i := fr_c F0 ag i (fun z hz => by
      simp only [List.mem_cons, List.not_mem_nil, or_false] at hz
      rcases hz with rfl | rfl | rfl | rfl | rfl | rfl | rfl | rfl | rfl | rfl | rfl | rfl <;> (simp only; omega))
    rw [e1, e2, z2]
  -- thing by thing
  have key : ∀ j i S u w, i + j = T → RA0 a P T C V S u w → RL a C P S u w → OR ag T o u w → (∀ k, k < C → Sd w k = true → ∃ z, z < i ∧ gI w 91 k = nI (o z)) → ∃ n n' S', wh (f_X3_hold_L23 a ag) (nI i, u) = some n ∧ wh f_X9_meets_L96 (nI i, w) = some n' ∧ RA0 a P T C V S' n n' ∧ RL a C P S' n n' ∧ OR ag T o n n' := by
    intro j
    induction j with
    | zero =>
      intro i S u w e hA hL hO' hs
      have ei : i = T := by omega
      subst ei
      obtain ⟨⟨-, ⟨z4, z5, z6⟩, -⟩, -⟩ := hA.1
      refine ⟨u, w, S, wh_done ?_, wh_done ?_, hA, hL, hO'⟩
      · unfold f_X3_hold_L23
        simp only [z4, nI_le (Nat.le_refl i) (show i < 2 ^ 31 by omega), if_true, up_some]
      · unfold f_X9_meets_L96
        simp only [z5, nI_le (Nat.le_refl i) (show i < 2 ^ 31 by omega), if_true, up_some]
    | succ j ih =>
      intro i S u w e hA hL hO' hs
      obtain ⟨⟨-, ⟨z4, z5, z6⟩, -⟩, -⟩ := hA.1
      have hi : i < T := by omega
      have c6 : ∀ {T : Type} (K : Option T), ck (nI i) 6 K = K := fun K => ck_in (by omega) (by decide)
      have i6 : ix (nI i) = i := ix_n (by omega)
      obtain ⟨o1, o2, o3⟩ := hO'.1 i hi
      obtain ⟨n, n', S', d1, d2, d3, d4, d5, d6⟩ := discuss_v ha hA hL o1 (fun k hk h91 => by
        cases c : Sd w k
        · rfl
        · obtain ⟨z, z1, z2⟩ := hs k hk c
          have hz := (hO'.1 z (by omega)).1
          have : o i = o z := (eq_nn (by omega) (by omega)).mp (h91.symm.trans z2)
          have := hO'.2 i z hi (by omega) this
          omega)
      have FX := fr_X3_discuss d1
      have FY := fr_X9_oneThing d2
      have hO2 : OR ag T o n n' := by
        refine ⟨fun i hi => ?_, hO'.2⟩
        obtain ⟨y1, y2, y3⟩ := hO'.1 i hi
        refine ⟨y1, ?_, by rw [fr_I FY 103 i rfl, y3]⟩
        rw [fr_c FX ag i (fun z hz => by
          simp only [List.mem_cons, List.not_mem_nil, or_false] at hz
          rcases hz with rfl | rfl | rfl | rfl | rfl | rfl | rfl | rfl | rfl | rfl | rfl | rfl | rfl | rfl | rfl | rfl <;> (simp only; omega)), y2]
      obtain ⟨v, v', S'', w1, w2, w3, w4, w5⟩ := ih (i + 1) S' n n' (by omega) d3.to0 d4 hO2 (fun k hk hk2 => by
        rw [d6.1 91 (by decide) k]
        rcases d5 k hk hk2 with y | y
        · obtain ⟨z, z1, z2⟩ := hs k hk y
          exact ⟨z, by omega, z2⟩
        · exact ⟨i, by omega, y⟩)
      refine ⟨v, v', S'', (wh_inl (s' := (nI (i + 1), n)) ?_).trans w1, (wh_inl (s' := (nI (i + 1), n')) ?_).trans w2, w3, w4, w5⟩
      · unfold f_X3_hold_L23
        simp only [z4, nI_ge hi (show T < 2 ^ 31 by omega), nI_ge (show i < 6 by omega) (show 6 < 2 ^ 31 by decide), if_false, c6, i6, o2, d1, some_bind, bnd, nI_1]
      · unfold f_X9_meets_L96
        simp only [z5, nI_ge hi (show T < 2 ^ 31 by omega), if_false, c6, i6, o3, d2, some_bind, bnd, nI_1]
  obtain ⟨n, n', S, k1, k2, k3, k4, k5⟩ := key T 0 0 q r (by omega) A0 L0 O0 (fun k hk hs => by rw [hSr k hk] at hs; cases hs)
  exact ⟨n, n', S, hH.trans k1, r1.trans k2, k3, k4, k5⟩
