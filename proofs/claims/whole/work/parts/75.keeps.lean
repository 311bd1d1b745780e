/-! THE MEETING KEPT: at the reference -/
theorem RAS'_sI {m : Mem} {c i : Nat} {x : Int32} (hc : (111 ≤ c ∧ c ≤ 123) ∨ (c = 85 ∧ 46 ≤ i ∧ i ≤ 49) ∨ (c = 85 ∧ 63 ≤ i ∧ i ≤ 65)) : RAS' m (sI m c i x) := by
  have e : ∀ c' j, ¬ (c' = c ∧ j = i) → gI (sI m c i x) c' j = gI m c' j := fun c' j h => by rw [g_sI, if_neg h]
  exact ⟨⟨fun c' h1 j => e c' j (by omega), fun j h1 => e 85 j (by omega), e 85 19 (by omega), fun j => e 95 j (by omega)⟩, fun j h1 h2 => e 85 j (by omega), fun c' h1 j => e c' j (by omega)⟩
theorem thereR_v {p : Nat} (hp : p < 10) (m' : Mem) : f_X9_thereFor (nI p) m' = some (tf m' p, m') := by
  have e20 : (20 : Int32) + nI p = nI (20 + p) := nI_add 20 p
  have c42 : ∀ {T : Type} (K : Option T), ck (nI (20 + p)) 42 K = K := fun K => ck_in (by omega) (by decide)
  have i42 : ix (nI (20 + p)) = 20 + p := ix_n (by omega)
  unfold f_X9_thereFor tf
  rw [e20, c42, c42, i42]
  split <;> rfl
theorem Th_R {w n : Mem} (h : RAS' w n) (p : Nat) : Th n p = Th w p := Th_cong h p
theorem tf_R {w n : Mem} (h : RAS' w n) (p : Nat) : tf n p = tf w p := by
  unfold tf
  rw [h.2.1 29 (by decide) (by decide), h.1.1 86 (by decide)]
theorem Sd_R {w n : Mem} (h : RAS' w n) (k : Nat) : Sd n k = Sd w k := Sd_cong (h.2.2 100 (by decide) k)
theorem ts_R {w n : Mem} (h : RAS' w n) (t C : Nat) : ts n (Sd n) t C = ts w (Sd w) t C := ts_cong (h.1.1 86 (by decide) _) (fun i => h.1.1 91 (by decide) i) (fun i => h.1.1 92 (by decide) i) C (fun k _ => Sd_R h k)
theorem dc_R {w n : Mem} (h : RAS' w n) (C T : Nat) : dc n C (Sd n) T = dc w C (Sd w) T := dc_cong (fun i => h.1.1 86 (by decide) i) (fun i => h.1.1 91 (by decide) i) (fun i => h.1.1 92 (by decide) i) (fun k _ => Sd_R h k) T
theorem PK_R {w n : Mem} (h : RAS' w n) (P k : Nat) : PK n P k = PK w P k := by
  unfold PK
  rw [h.1.1 93 (by decide)]
theorem dcK_R {w n : Mem} (h : RAS' w n) (P C T : Nat) : dc n C (Kw n P) T = dc w C (Kw w P) T := dc_cong (fun i => h.1.1 86 (by decide) i) (fun i => h.1.1 91 (by decide) i) (fun i => h.1.1 92 (by decide) i) (fun k _ => by unfold Kw; rw [PK_R h]) T
def c7 (u : Mem) (k : Nat) : Mem := sI (sI (sI (sI (sI (sI (sI u 112 k (gI u 104 k)) 113 k (gI u 105 k)) 114 k (gI u 106 k)) 115 k (gI u 107 k)) 116 k (gI u 108 k)) 117 k (gI u 109 k)) 118 k (gI u 110 k)
theorem c7_R (u : Mem) (k : Nat) : RAS' u (c7 u k) := (RAS'_sI (Or.inl (by decide))).tr ((RAS'_sI (Or.inl (by decide))).tr ((RAS'_sI (Or.inl (by decide))).tr ((RAS'_sI (Or.inl (by decide))).tr ((RAS'_sI (Or.inl (by decide))).tr ((RAS'_sI (Or.inl (by decide))).tr (RAS'_sI (Or.inl (by decide))))))))
theorem g_c7 (u : Mem) (k c i : Nat) : gI (c7 u k) c i = if 112 ≤ c ∧ c ≤ 118 ∧ i = k then gI u (c - 8) k else gI u c i := by
  unfold c7
  by_cases hi : i = k
  · subst hi
    by_cases h : 112 ≤ c ∧ c ≤ 118
    · have : c = 112 ∨ c = 113 ∨ c = 114 ∨ c = 115 ∨ c = 116 ∨ c = 117 ∨ c = 118 := by omega
      rcases this with rfl | rfl | rfl | rfl | rfl | rfl | rfl <;> simp only [g_sI, gJ_sI, gI_sJ, gJ_sJ, Nat.reduceEqDiff, false_and, and_false, true_and, and_true, if_false, if_true, reduceIte, not_false_eq_true, not_true_eq_false, Nat.reduceLeDiff, Nat.reduceSub]
    · rw [if_neg (fun z => h ⟨z.1, z.2.1⟩)]
      rw [g_far _ _ (by omega), g_far _ _ (by omega), g_far _ _ (by omega), g_far _ _ (by omega), g_far _ _ (by omega), g_far _ _ (by omega), g_far _ _ (by omega)]
  · rw [if_neg (fun z => hi z.2.2), g_off _ _ hi, g_off _ _ hi, g_off _ _ hi, g_off _ _ hi, g_off _ _ hi, g_off _ _ hi, g_off _ _ hi]
theorem keeps_v {P T C S : Nat} {w : Mem} (h6 : gI w 85 6 = nI P) (hP : P ≤ 10) (h8 : gI w 85 8 = nI T) (hT : T ≤ 6) (h9 : gI w 85 9 = nI C) (hC : C ≤ 20) (h30 : gI w 85 30 = nI S) (hS : S ≤ 200) : ∃ n, f_X9_keepsRows w = some n ∧ RAS' w n ∧ (∀ i, gI n 111 i = gI w 111 i) ∧ (gI n 85 46 = nI S ∧ gI n 85 47 = nI P ∧ gI n 85 48 = nI T ∧ gI n 85 49 = nI C) ∧ (∀ c i, 112 ≤ c → c ≤ 118 → i < S → gI n c i = gI w (c - 8) i) ∧ (∀ t, t < T → gI n 119 t = gI w 102 t ∧ gI n 120 t = ts w (Sd w) t C) ∧ (∀ k, k < C → gI n 121 k = gI w 100 k ∧ gI n 122 k = gI w 101 k) ∧ ∀ p, p < P → gI n 123 p = tf w p := by
  let w4 := sI (sI (sI (sI w 85 46 (gI w 85 30)) 85 47 (gI w 85 6)) 85 48 (gI w 85 8)) 85 49 (gI w 85 9)
  have r4 : RAS' w w4 := (RAS'_sI (Or.inr (Or.inl (by decide)))).tr ((RAS'_sI (Or.inr (Or.inl (by decide)))).tr ((RAS'_sI (Or.inr (Or.inl (by decide)))).tr (RAS'_sI (Or.inr (Or.inl (by decide))))))
  have g4 : ∀ c i, c ≠ 85 → gI w4 c i = gI w c i := fun c i hc => by
    show gI (sI (sI (sI (sI w 85 46 (gI w 85 30)) 85 47 (gI w 85 6)) 85 48 (gI w 85 8)) 85 49 (gI w 85 9)) c i = _
    rw [g_far _ _ hc, g_far _ _ hc, g_far _ _ hc, g_far _ _ hc]
  -- sayings
  have k34 : ∀ j k u, k + j = S → RAS' w u → ∃ n, wh f_X9_keepsRows_L34 (nI k, u) = wh f_X9_keepsRows_L134 (0, n) ∧ RAS' u n ∧ (∀ c i, ¬ (112 ≤ c ∧ c ≤ 118) → gI n c i = gI u c i) ∧ ∀ c i, 112 ≤ c → c ≤ 118 → i < S → gI n c i = if k ≤ i then gI u (c - 8) i else gI u c i := by
    intro j
    induction j with
    | zero =>
      intro k u e hu
      have ek : k = S := by omega
      subst ek
      refine ⟨u, wh_up ?_, RAS'.rf, fun _ _ _ => rfl, fun c i _ _ hi => by rw [if_neg (by omega)]⟩
      unfold f_X9_keepsRows_L34
      simp only [show gI u 85 30 = nI k from (hu.2.1 30 (by decide) (by decide)).trans h30, nI_le (Nat.le_refl k) (show k < 2 ^ 31 by omega), if_true]
    | succ j ih =>
      intro k u e hu
      have hk : k < S := by omega
      obtain ⟨n, o1, o2, o3, o4⟩ := ih (k + 1) (c7 u k) (by omega) (hu.tr (c7_R u k))
      refine ⟨n, (wh_inl ?_).trans o1, (c7_R u k).tr o2, fun c i hc => by rw [o3 c i hc, g_c7, if_neg (fun z => hc ⟨z.1, z.2.1⟩)], fun c i h1 h2 hi => ?_⟩
      · unfold f_X9_keepsRows_L34
        have ck2 : ∀ {T : Type} (K : Option T), ck (nI k) 200 K = K := fun K => ck_in (by omega) (by decide)
        simp only [show gI u 85 30 = nI S from (hu.2.1 30 (by decide) (by decide)).trans h30, nI_ge hk (show S < 2 ^ 31 by omega), ck2, ix_n (show k < 2 ^ 31 by omega), bnd, some_bind, g_sI, gJ_sI, gI_sJ, gJ_sJ, Nat.reduceEqDiff, false_and, and_false, true_and, and_true, if_false, if_true, reduceIte, not_false_eq_true, not_true_eq_false, nI_1, c7]
      · rw [o4 c i h1 h2 hi, g_c7, g_c7, if_neg (show ¬ (112 ≤ c - 8 ∧ c - 8 ≤ 118 ∧ i = k) by omega)]
        by_cases c' : i = k
        · subst c'
          rw [if_neg (by omega), if_pos ⟨h1, h2, rfl⟩, if_pos (Nat.le_refl i)]
        · rw [if_neg (show ¬ (112 ≤ c ∧ c ≤ 118 ∧ i = k) from fun z => c' z.2.2)]
          by_cases d : k ≤ i
          · rw [if_pos d, if_pos (by omega)]
          · rw [if_neg d, if_neg (by omega)]
  -- things
  have k134 : ∀ j k u, k + j = T → RAS' w u → ∃ n, wh f_X9_keepsRows_L134 (nI k, u) = wh f_X9_keepsRows_L173 (0, n) ∧ RAS' u n ∧ (∀ c i, c ≠ 119 → c ≠ 120 → gI n c i = gI u c i) ∧ ∀ t, t < T → gI n 119 t = (if k ≤ t then gI w 102 t else gI u 119 t) ∧ gI n 120 t = if k ≤ t then ts w (Sd w) t C else gI u 120 t := by
    intro j
    induction j with
    | zero =>
      intro k u e hu
      have ek : k = T := by omega
      subst ek
      refine ⟨u, wh_up ?_, RAS'.rf, fun _ _ _ _ => rfl, fun t ht => ⟨by rw [if_neg (by omega)], by rw [if_neg (by omega)]⟩⟩
      unfold f_X9_keepsRows_L134
      simp only [show gI u 85 8 = nI k from (hu.1.2.1 8 (by decide)).trans h8, nI_le (Nat.le_refl k) (show k < 2 ^ 31 by omega), if_true]
    | succ j ih =>
      intro k u e hu
      have hk : k < T := by omega
      have r1 : RAS' u (sI u 119 k (gI u 102 k)) := RAS'_sI (Or.inl (by decide))
      have r2 : RAS' u (sI (sI u 119 k (gI u 102 k)) 120 k (ts w (Sd w) k C)) := r1.tr (RAS'_sI (Or.inl (by decide)))
      have hc := comes_R (T := T) (t := k) (m' := sI u 119 k (gI u 102 k)) (((hu.tr r1).1.2.1 9 (by decide)).trans h9) hC (by omega)
      rw [ts_R (hu.tr r1)] at hc
      obtain ⟨n, o1, o2, o3, o4⟩ := ih (k + 1) (sI (sI u 119 k (gI u 102 k)) 120 k (ts w (Sd w) k C)) (by omega) (hu.tr r2)
      refine ⟨n, (wh_inl ?_).trans o1, r2.tr o2, fun c i h1 h2 => by rw [o3 c i h1 h2, g_far _ _ h2, g_far _ _ h1], fun t ht => ?_⟩
      · unfold f_X9_keepsRows_L134
        have ck6 : ∀ {T : Type} (K : Option T), ck (nI k) 6 K = K := fun K => ck_in (by omega) (by decide)
        simp only [show gI u 85 8 = nI T from (hu.1.2.1 8 (by decide)).trans h8, nI_ge hk (show T < 2 ^ 31 by omega), if_false, ck6, ix_n (show k < 2 ^ 31 by omega), bnd, hc, some_bind, nI_1]
      · rw [(o4 t ht).1, (o4 t ht).2, g_far (b := 119) _ _ (by decide), g_sI, g_sI, g_far (b := 120) _ _ (by decide)]
        by_cases c' : t = k
        · subst c'
          rw [if_neg (show ¬ t + 1 ≤ t by omega), if_neg (show ¬ t + 1 ≤ t by omega), if_pos (show (119 : Nat) = 119 ∧ t = t from ⟨rfl, rfl⟩), if_pos (show (120 : Nat) = 120 ∧ t = t from ⟨rfl, rfl⟩), if_pos (Nat.le_refl t), if_pos (Nat.le_refl t), hu.2.2 102 (by decide)]
          exact ⟨rfl, rfl⟩
        · rw [if_neg (show ¬ ((119 : Nat) = 119 ∧ t = k) from fun z => c' z.2), if_neg (show ¬ ((120 : Nat) = 120 ∧ t = k) from fun z => c' z.2)]
          by_cases d : k ≤ t
          · rw [if_pos (show k + 1 ≤ t by omega), if_pos (show k + 1 ≤ t by omega), if_pos d, if_pos d]
            exact ⟨rfl, rfl⟩
          · rw [if_neg (show ¬ k + 1 ≤ t by omega), if_neg (show ¬ k + 1 ≤ t by omega), if_neg d, if_neg d]
            exact ⟨rfl, rfl⟩
  have k173 : ∀ j k u, k + j = C → RAS' w u → ∃ n, wh f_X9_keepsRows_L173 (nI k, u) = wh f_X9_keepsRows_L213 (0, n) ∧ RAS' u n ∧ (∀ c i, c ≠ 121 → c ≠ 122 → gI n c i = gI u c i) ∧ ∀ t, t < C → gI n 121 t = (if k ≤ t then gI w 100 t else gI u 121 t) ∧ gI n 122 t = if k ≤ t then gI w 101 t else gI u 122 t := by
    intro j
    induction j with
    | zero =>
      intro k u e hu
      have ek : k = C := by omega
      subst ek
      refine ⟨u, wh_up ?_, RAS'.rf, fun _ _ _ _ => rfl, fun t ht => ⟨by rw [if_neg (by omega)], by rw [if_neg (by omega)]⟩⟩
      unfold f_X9_keepsRows_L173
      simp only [show gI u 85 9 = nI k from (hu.1.2.1 9 (by decide)).trans h9, nI_le (Nat.le_refl k) (show k < 2 ^ 31 by omega), if_true]
    | succ j ih =>
      intro k u e hu
      have hk : k < C := by omega
      have r2 : RAS' u (sI (sI u 121 k (gI u 100 k)) 122 k (gI u 101 k)) := (RAS'_sI (Or.inl (by decide))).tr (RAS'_sI (Or.inl (by decide)))
      obtain ⟨n, o1, o2, o3, o4⟩ := ih (k + 1) (sI (sI u 121 k (gI u 100 k)) 122 k (gI u 101 k)) (by omega) (hu.tr r2)
      refine ⟨n, (wh_inl ?_).trans o1, r2.tr o2, fun c i h1 h2 => by rw [o3 c i h1 h2, g_far _ _ h2, g_far _ _ h1], fun t ht => ?_⟩
      · unfold f_X9_keepsRows_L173
        have ck6 : ∀ {T : Type} (K : Option T), ck (nI k) 20 K = K := fun K => ck_in (by omega) (by decide)
        simp only [show gI u 85 9 = nI C from (hu.1.2.1 9 (by decide)).trans h9, nI_ge hk (show C < 2 ^ 31 by omega), ck6, ix_n (show k < 2 ^ 31 by omega), bnd, some_bind, g_sI, gJ_sI, gI_sJ, gJ_sJ, Nat.reduceEqDiff, false_and, and_false, true_and, and_true, if_false, if_true, reduceIte, not_false_eq_true, not_true_eq_false, nI_1]
      · rw [(o4 t ht).1, (o4 t ht).2, g_far (b := 121) _ _ (by decide), g_sI, g_sI, g_far (b := 122) _ _ (by decide)]
        by_cases c' : t = k
        · subst c'
          rw [if_neg (show ¬ t + 1 ≤ t by omega), if_neg (show ¬ t + 1 ≤ t by omega), if_pos (show (121 : Nat) = 121 ∧ t = t from ⟨rfl, rfl⟩), if_pos (show (122 : Nat) = 122 ∧ t = t from ⟨rfl, rfl⟩), if_pos (Nat.le_refl t), if_pos (Nat.le_refl t), hu.2.2 100 (by decide), hu.2.2 101 (by decide)]
          exact ⟨rfl, rfl⟩
        · rw [if_neg (show ¬ ((121 : Nat) = 121 ∧ t = k) from fun z => c' z.2), if_neg (show ¬ ((122 : Nat) = 122 ∧ t = k) from fun z => c' z.2)]
          by_cases d : k ≤ t
          · rw [if_pos (show k + 1 ≤ t by omega), if_pos (show k + 1 ≤ t by omega), if_pos d, if_pos d]
            exact ⟨rfl, rfl⟩
          · rw [if_neg (show ¬ k + 1 ≤ t by omega), if_neg (show ¬ k + 1 ≤ t by omega), if_neg d, if_neg d]
            exact ⟨rfl, rfl⟩
  have k213 : ∀ j k u, k + j = P → RAS' w u → ∃ n, wh f_X9_keepsRows_L213 (nI k, u) = some n ∧ RAS' u n ∧ (∀ c i, c ≠ 123 → gI n c i = gI u c i) ∧ ∀ t, t < P → gI n 123 t = if k ≤ t then tf w t else gI u 123 t := by
    intro j
    induction j with
    | zero =>
      intro k u e hu
      have ek : k = P := by omega
      subst ek
      refine ⟨u, wh_done ?_, RAS'.rf, fun _ _ _ => rfl, fun t ht => by rw [if_neg (by omega)]⟩
      unfold f_X9_keepsRows_L213
      simp only [show gI u 85 6 = nI k from (hu.1.2.1 6 (by decide)).trans h6, nI_le (Nat.le_refl k) (show k < 2 ^ 31 by omega), if_true, up_some]
    | succ j ih =>
      intro k u e hu
      have hk : k < P := by omega
      have r2 : RAS' u (sI u 123 k (tf w k)) := RAS'_sI (Or.inl (by decide))
      obtain ⟨n, o1, o2, o3, o4⟩ := ih (k + 1) (sI u 123 k (tf w k)) (by omega) (hu.tr r2)
      refine ⟨n, (wh_inl ?_).trans o1, r2.tr o2, fun c i h1 => by rw [o3 c i h1, g_far _ _ h1], fun t ht => ?_⟩
      · unfold f_X9_keepsRows_L213
        have ck6 : ∀ {T : Type} (K : Option T), ck (nI k) 10 K = K := fun K => ck_in (by omega) (by decide)
        simp only [show gI u 85 6 = nI P from (hu.1.2.1 6 (by decide)).trans h6, nI_ge hk (show P < 2 ^ 31 by omega), if_false, ck6, ix_n (show k < 2 ^ 31 by omega), bnd, thereR_v (show k < 10 by omega), tf_R hu, some_bind, nI_1]
      · rw [o4 t ht, g_sI]
        by_cases c' : t = k
        · subst c'
          rw [if_neg (by omega), if_pos ⟨rfl, rfl⟩, if_pos (Nat.le_refl t)]
        · rw [if_neg (show ¬ ((123 : Nat) = 123 ∧ t = k) from fun z => c' z.2)]
          by_cases d : k ≤ t
          · rw [if_pos d, if_pos (by omega)]
          · rw [if_neg d, if_neg (by omega)]
  obtain ⟨n1, a1, a2, a3, a4⟩ := k34 S 0 w4 (by omega) r4
  obtain ⟨n2, b1, b2, b3, b4⟩ := k134 T 0 n1 (by omega) (r4.tr a2)
  obtain ⟨n3, d1, d2, d3, d4⟩ := k173 C 0 n2 (by omega) (r4.tr (a2.tr b2))
  obtain ⟨n4, e1, e2, e3, e4⟩ := k213 P 0 n3 (by omega) (r4.tr (a2.tr (b2.tr d2)))
  have all : ∀ c i, ¬ (112 ≤ c ∧ c ≤ 123) → gI n4 c i = gI w4 c i := fun c i hc => by
    rw [e3 c i (by omega), d3 c i (by omega) (by omega), b3 c i (by omega) (by omega), a3 c i (by omega)]
  refine ⟨n4, ?_, r4.tr (a2.tr (b2.tr (d2.tr e2))), fun i => by rw [all 111 i (by omega), g4 111 i (by decide)], ⟨?_, ?_, ?_, ?_⟩, fun c i h1 h2 hi => ?_, fun t ht => ⟨?_, ?_⟩, fun k hk => ⟨?_, ?_⟩, fun p hp => ?_⟩
  · unfold f_X9_keepsRows
    simp only [bnd, some_bind, g_sI, gJ_sI, gI_sJ, gJ_sJ, Nat.reduceEqDiff, false_and, and_false, true_and, and_true, if_false, if_true, reduceIte, not_false_eq_true, not_true_eq_false]
    exact (a1.trans (b1.trans (d1.trans e1)))
  · rw [all 85 46 (by omega)]
    show gI (sI (sI (sI (sI w 85 46 (gI w 85 30)) 85 47 (gI w 85 6)) 85 48 (gI w 85 8)) 85 49 (gI w 85 9)) 85 46 = _
    simp only [g_sI, gJ_sI, gI_sJ, gJ_sJ, Nat.reduceEqDiff, false_and, and_false, true_and, and_true, if_false, if_true, reduceIte, not_false_eq_true, not_true_eq_false, h30]
  · rw [all 85 47 (by omega)]
    show gI (sI (sI (sI (sI w 85 46 (gI w 85 30)) 85 47 (gI w 85 6)) 85 48 (gI w 85 8)) 85 49 (gI w 85 9)) 85 47 = _
    simp only [g_sI, gJ_sI, gI_sJ, gJ_sJ, Nat.reduceEqDiff, false_and, and_false, true_and, and_true, if_false, if_true, reduceIte, not_false_eq_true, not_true_eq_false, h6]
  · rw [all 85 48 (by omega)]
    show gI (sI (sI (sI (sI w 85 46 (gI w 85 30)) 85 47 (gI w 85 6)) 85 48 (gI w 85 8)) 85 49 (gI w 85 9)) 85 48 = _
    simp only [g_sI, gJ_sI, gI_sJ, gJ_sJ, Nat.reduceEqDiff, false_and, and_false, true_and, and_true, if_false, if_true, reduceIte, not_false_eq_true, not_true_eq_false, h8]
  · rw [all 85 49 (by omega)]
    show gI (sI (sI (sI (sI w 85 46 (gI w 85 30)) 85 47 (gI w 85 6)) 85 48 (gI w 85 8)) 85 49 (gI w 85 9)) 85 49 = _
    simp only [g_sI, gJ_sI, gI_sJ, gJ_sJ, Nat.reduceEqDiff, false_and, and_false, true_and, and_true, if_false, if_true, reduceIte, not_false_eq_true, not_true_eq_false, h9]
  · rw [e3 c i (by omega), d3 c i (by omega) (by omega), b3 c i (by omega) (by omega), a4 c i h1 h2 hi, if_pos (Nat.zero_le i), g4 _ _ (by omega)]
  · rw [e3 _ _ (by decide), d3 _ _ (by decide) (by decide), (b4 t ht).1, if_pos (Nat.zero_le t)]
  · rw [e3 _ _ (by decide), d3 _ _ (by decide) (by decide), (b4 t ht).2, if_pos (Nat.zero_le t)]
  · rw [e3 _ _ (by decide), (d4 k hk).1, if_pos (Nat.zero_le k)]
  · rw [e3 _ _ (by decide), (d4 k hk).2, if_pos (Nat.zero_le k)]
  · rw [e4 p hp, if_pos (Nat.zero_le p)]
