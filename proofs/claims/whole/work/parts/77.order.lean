/-! ORDERS of things -/
theorem neg_mod {x : Int32} (h : x ≤ 0) : (x - x / 10 * 10) - 1 < 0 := by
  have hx := Int32.le_iff_toInt_le.mp h
  change x.toInt ≤ (0 : Int) at hx
  have hlo := Int32.le_toInt x
  obtain ⟨N, hN⟩ : ∃ N : Nat, x.toInt = -(N : Int) := ⟨(-x.toInt).toNat, by omega⟩
  have hN2 : N ≤ 2 ^ 31 := by omega
  have q1 : (x / 10).toInt = -((N / 10 : Nat) : Int) := by
    rw [Int32.toInt_div, hN, show (10 : Int32).toInt = ((10 : Nat) : Int) from rfl, Int.neg_tdiv, ← Int.ofNat_tdiv]
    exact Int.bmod_eq_of_le (by omega) (by omega)
  have q2 : (x / 10 * 10).toInt = -((N / 10 * 10 : Nat) : Int) := by
    rw [Int32.toInt_mul, q1, show (10 : Int32).toInt = ((10 : Nat) : Int) from rfl, Int.neg_mul, ← Int.natCast_mul]
    exact Int.bmod_eq_of_le (by omega) (by omega)
  have q3 : (x - x / 10 * 10).toInt = -((N % 10 : Nat) : Int) := by
    rw [Int32.toInt_sub, q2, hN]
    have := Int.bmod_eq_of_le (n := -(N : Int) - -((N / 10 * 10 : Nat) : Int)) (m := 2 ^ 32) (by omega) (by omega)
    rw [this]
    omega
  rw [Int32.lt_iff_toInt_lt, Int32.toInt_sub, q3]
  have := Int.bmod_eq_of_le (n := -((N % 10 : Nat) : Int) - (1 : Int32).toInt) (m := 2 ^ 32) (by change _ ≤ _ - (1 : Int); omega) (by change _ - (1 : Int) < _; omega)
  rw [this]
  change _ - (1 : Int) < (0 : Int)
  omega
theorem came_v (ag : Nat) (m : Mem) : ∃ n, f_X8_asTheyCame ag m = some n ∧ ∀ c i, gI n c i = if c = ag ∧ i < 6 then nI i else gI m c i := by
  refine ⟨itM (fun a k => sI a ag k (nI k)) m 6, ?_, fun c i => it_I ag (fun _ k => nI k) m 6 c i⟩
  unfold f_X8_asTheyCame
  refine wh_it (fun a k => sI a ag k (nI k)) (fun a k => (nI k, a)) 6 _ m (fun k hk => ?_) ?_
  · unfold f_X8_asTheyCame_L2
    simp only [nI_ge hk (show 6 < 2 ^ 31 by decide), if_false, ck_in hk (show 6 < 2 ^ 31 by decide), ix_n (show k < 2 ^ 31 by omega), bnd, nI_1]
  · unfold f_X8_asTheyCame_L2
    simp only [nI_le (Nat.le_refl 6) (show 6 < 2 ^ 31 by decide), if_true]
    rfl
theorem plain_v {T : Nat} {w : Mem} (h8 : gI w 85 8 = nI T) (hT : T ≤ 6) : ∃ n, f_X9_plain w = some n ∧ gI n 85 26 = gI w 85 13 ∧ gI n 85 27 = gI w 85 15 ∧ gI n 85 28 = -1 ∧ (∀ t, t < T → gI n 103 t = nI t) ∧ TS' w n ∧ ∀ c i, ¬ (c = 85 ∧ 26 ≤ i ∧ i ≤ 28) → c ≠ 103 → gI n c i = gI w c i := by
  let w3 := sI (sI (sI w 85 26 (gI w 85 13)) 85 27 (gI w 85 15)) 85 28 (-1)
  have g3 : ∀ c i, ¬ (c = 85 ∧ 26 ≤ i ∧ i ≤ 28) → gI w3 c i = gI w c i := fun c i h => by
    show gI (sI (sI (sI w 85 26 (gI w 85 13)) 85 27 (gI w 85 15)) 85 28 (-1)) c i = _
    rw [g_sI, if_neg (fun z => h ⟨z.1, by omega, by omega⟩), g_sI, if_neg (fun z => h ⟨z.1, by omega, by omega⟩), g_sI, if_neg (fun z => h ⟨z.1, by omega, by omega⟩)]
  have hit : ∀ n c i, gI (itM (fun a k => sI a 103 k (nI k)) w3 n) c i = if c = 103 ∧ i < n then nI i else gI w3 c i := fun n c i => it_I 103 (fun _ k => nI k) w3 n c i
  have h8' : ∀ n, gI (itM (fun a k => sI a 103 k (nI k)) w3 n) 85 8 = nI T := fun n => by rw [hit, if_neg (by omega), g3 85 8 (by omega), h8]
  have hloop : wh f_X9_plain_L23 (0, w3) = some (itM (fun a k => sI a 103 k (nI k)) w3 T) := by
    refine wh_it (fun a k => sI a 103 k (nI k)) (fun a k => (nI k, a)) T _ w3 (fun k hk => ?_) ?_
    · unfold f_X9_plain_L23
      simp only [h8', nI_ge hk (show T < 2 ^ 31 by omega), if_false, ck_in (show k < 6 by omega) (show 6 < 2 ^ 31 by decide), ix_n (show k < 2 ^ 31 by omega), bnd, nI_1]
    · unfold f_X9_plain_L23
      simp only [h8', nI_le (Nat.le_refl T) (show T < 2 ^ 31 by omega), if_true]
      rfl
  have hall : ∀ c i, ¬ (c = 85 ∧ 26 ≤ i ∧ i ≤ 28) → c ≠ 103 → gI (itM (fun a k => sI a 103 k (nI k)) w3 T) c i = gI w c i := fun c i h1 h2 => by rw [hit, if_neg (fun z => h2 z.1), g3 c i h1]
  refine ⟨itM (fun a k => sI a 103 k (nI k)) w3 T, ?_, ?_, ?_, ?_, fun t ht => ?_, ⟨fun c hc i => hall c i (by omega) (by omega), fun i hi => hall 85 i (by omega) (by omega), hall 85 19 (by omega) (by omega), fun i => hall 95 i (by omega) (by omega)⟩, hall⟩
  · unfold f_X9_plain
    simp only [bnd, some_bind, g_sI, gJ_sI, gI_sJ, gJ_sJ, Nat.reduceEqDiff, false_and, and_false, true_and, and_true, if_false, if_true, reduceIte, not_false_eq_true, not_true_eq_false]
    exact hloop
  · rw [hit, if_neg (by omega)]
    show gI (sI (sI (sI w 85 26 (gI w 85 13)) 85 27 (gI w 85 15)) 85 28 (-1)) 85 26 = _
    simp only [g_sI, gJ_sI, gI_sJ, gJ_sJ, Nat.reduceEqDiff, false_and, and_false, true_and, and_true, if_false, if_true, reduceIte, not_false_eq_true, not_true_eq_false]
  · rw [hit, if_neg (by omega)]
    show gI (sI (sI (sI w 85 26 (gI w 85 13)) 85 27 (gI w 85 15)) 85 28 (-1)) 85 27 = _
    simp only [g_sI, gJ_sI, gI_sJ, gJ_sJ, Nat.reduceEqDiff, false_and, and_false, true_and, and_true, if_false, if_true, reduceIte, not_false_eq_true, not_true_eq_false]
  · rw [hit, if_neg (by omega)]
    show gI (sI (sI (sI w 85 26 (gI w 85 13)) 85 27 (gI w 85 15)) 85 28 (-1)) 85 28 = _
    simp only [g_sI, gJ_sI, gI_sJ, gJ_sJ, Nat.reduceEqDiff, false_and, and_false, true_and, and_true, if_false, if_true, reduceIte, not_false_eq_true, not_true_eq_false]
  · rw [hit, if_pos ⟨rfl, ht⟩]
def OK27 (T z : Nat) (seen : Int32) (u w : Mem) : Prop := (∀ y, z ≤ y → y < T → ∃ t, t < T ∧ gI u 27 y = nI t ∧ gI w 103 y = nI t ∧ bt seen t = true) ∧ ∀ y y', z ≤ y → y < T → z ≤ y' → y' < T → gI u 27 y = gI u 27 y' → y = y'
theorem order_v {T : Nat} {m w : Mem} (h14 : gI m 1 14 = nI T) (h8 : gI w 85 8 = nI T) (hT : T ≤ 6) (x : Int32) : ∃ v n n', wh f_X4_takesOrder_L28 (x, 0, nI T - 1, m) = some (v, n) ∧ wh f_X9_isOrder_L12 (0, x, nI T - 1, w) = some (v, n') ∧ (∀ c i, c ≠ 27 → gI n c i = gI m c i) ∧ (∀ c i, c ≠ 103 → gI n' c i = gI w c i) ∧ (v = 0 ∨ (v = 1 ∧ ∃ o, OR 27 T o n n')) := by
  have key : ∀ z x seen u v, z ≤ T → OK27 T z seen u v → (∀ c i, c ≠ 27 → gI u c i = gI m c i) → (∀ c i, c ≠ 103 → gI v c i = gI w c i) → ∃ r n n', wh f_X4_takesOrder_L28 (x, seen, nI z - 1, u) = some (r, n) ∧ wh f_X9_isOrder_L12 (seen, x, nI z - 1, v) = some (r, n') ∧ (∀ c i, c ≠ 27 → gI n c i = gI m c i) ∧ (∀ c i, c ≠ 103 → gI n' c i = gI w c i) ∧ (r = 0 ∨ (r = 1 ∧ ∃ o, OR 27 T o n n')) := by
    intro z
    induction z with
    | zero =>
      intro x seen u v hz hO hu hv
      by_cases hx : x = 0
      · refine ⟨1, u, v, wh_done ?_, wh_done ?_, hu, hv, Or.inr ⟨rfl, fun y => ix (gI u 27 y), fun y hy => ?_, fun y y' hy hy' e => ?_⟩⟩
        · unfold f_X4_takesOrder_L28
          simp only [show nI 0 - 1 < 0 by decide, if_true, hx, not_true_eq_false, if_false]
          rfl
        · unfold f_X9_isOrder_L12
          simp only [show nI 0 - 1 < 0 by decide, if_true, hx, not_true_eq_false, if_false]
          rfl
        · obtain ⟨t, t1, t2, t3, -⟩ := hO.1 y (Nat.zero_le y) hy
          show ix (gI u 27 y) < T ∧ gI u 27 y = nI (ix (gI u 27 y)) ∧ gI v 103 y = nI (ix (gI u 27 y))
          rw [t2, t3, ix_n (show t < 2 ^ 31 by omega)]
          exact ⟨t1, rfl, rfl⟩
        · obtain ⟨t, t1, t2, -⟩ := hO.1 y (Nat.zero_le y) hy
          obtain ⟨t', s1, s2, -⟩ := hO.1 y' (Nat.zero_le y') hy'
          have e' : ix (gI u 27 y) = ix (gI u 27 y') := e
          rw [t2, s2, ix_n (show t < 2 ^ 31 by omega), ix_n (show t' < 2 ^ 31 by omega)] at e'
          exact hO.2 y y' (Nat.zero_le y) hy (Nat.zero_le y') hy' (by rw [t2, s2, e'])
      · refine ⟨0, u, v, wh_done ?_, wh_done ?_, hu, hv, Or.inl rfl⟩
        · unfold f_X4_takesOrder_L28
          simp only [show nI 0 - 1 < 0 by decide, if_true, hx, not_false_eq_true]
          rfl
        · unfold f_X9_isOrder_L12
          simp only [show nI 0 - 1 < 0 by decide, if_true, hx, not_false_eq_true]
          rfl
    | succ z ih =>
      intro x seen u v hz hO hu hv
      have ez : nI (z + 1) - 1 = nI z := nI_pred z
      have nz : ¬ nI z < 0 := nn_lt0 (by omega)
      have u14 : gI u 1 14 = nI T := (hu 1 14 (by decide)).trans h14
      have v8 : gI v 85 8 = nI T := (hv 85 8 (by decide)).trans h8
      have n10 : ¬ ((1 : Int32) = 0) := by decide
      have ck6 : ∀ {T : Type} (K : Option T), ck (nI z) 6 K = K := fun K => ck_in (by omega) (by decide)
      have iz : ix (nI z) = z := ix_n (by omega)
      rw [ez]
      -- no order
      have no : f_X4_takesOrder_L28 (x, seen, nI z, u) = some (.inr (0, u)) → f_X9_isOrder_L12 (seen, x, nI z, v) = some (.inr (0, v)) → ∃ r n n', wh f_X4_takesOrder_L28 (x, seen, nI z, u) = some (r, n) ∧ wh f_X9_isOrder_L12 (seen, x, nI z, v) = some (r, n') ∧ (∀ c i, c ≠ 27 → gI n c i = gI m c i) ∧ (∀ c i, c ≠ 103 → gI n' c i = gI w c i) ∧ (r = 0 ∨ (r = 1 ∧ ∃ o, OR 27 T o n n')) := fun q1 q2 => ⟨0, u, v, wh_done q1, wh_done q2, hu, hv, Or.inl rfl⟩
      by_cases hx : x ≤ 0
      · refine no ?_ ?_
        · unfold f_X4_takesOrder_L28
          simp only [nz, if_false, bnd, neg_mod hx, if_true]
          rfl
        · unfold f_X9_isOrder_L12
          simp only [nz, if_false, bnd, hx, if_true]
          rfl
      · obtain ⟨L, hL, rfl⟩ : ∃ L, L < 2 ^ 31 ∧ x = nI L := by
          obtain ⟨q1, q2⟩ := nI_up (Int32.le_of_lt (Int32.not_le.mp hx))
          exact ⟨_, q2, q1.symm⟩
        have em : nI L - nI L / 10 * 10 = nI (L % 10) := nI_mod (b := 10) hL (by decide) (by decide)
        have ed : nI L / 10 = nI (L / 10) := nI_div (b := 10) hL (by decide) (by decide)
        have em2 : nI L - nI (L / 10) * 10 = nI (L % 10) := by rw [← ed]; exact em
        by_cases h0 : L % 10 = 0
        · have e1 : nI (L % 10) - 1 = -1 := by rw [h0]; rfl
          refine no ?_ ?_
          · unfold f_X4_takesOrder_L28
            simp only [nz, if_false, bnd, em, e1, show (-1 : Int32) < 0 by decide, if_true]
            rfl
          · unfold f_X9_isOrder_L12
            simp only [nz, if_false, bnd, em, e1, hx, isThing_n v8 hT (p := -1) (Or.inl (by decide)), some_bind, if_true]
            rfl
        · obtain ⟨d, hd⟩ : ∃ d, L % 10 = d + 1 := ⟨L % 10 - 1, by omega⟩
          have e1 : nI (L % 10) - 1 = nI d := by rw [hd]; exact nI_pred d
          have hd9 : d < 9 := by omega
          have nd : ¬ nI d < 0 := nn_lt0 (by omega)
          by_cases hdT : T ≤ d
          · refine no ?_ ?_
            · unfold f_X4_takesOrder_L28
              simp only [nz, if_false, bnd, em, e1, nd, u14, nI_le hdT (show d < 2 ^ 31 by omega), if_true]
              rfl
            · unfold f_X9_isOrder_L12
              simp only [nz, if_false, bnd, em, e1, hx, isThing_n v8 hT (p := nI d) (Or.inr (nI_le hdT (by omega))), some_bind, if_true]
              rfl
          · have hd2 : d < T := by omega
            have hbz := bit_z (show d < 32 by omega) seen
            have hba := and1_bit (show d < 31 by omega) seen
            cases hb : bt seen d
            · -- a new thing
              have hnew : ∀ y, z + 1 ≤ y → y < T → ¬ gI u 27 y = nI d := fun y h1 h2 e => by
                obtain ⟨t, t1, t2, -, t4⟩ := hO.1 y h1 h2
                have : t = d := (eq_nn (by omega) (by omega)).mp (t2.symm.trans e)
                rw [this, hb] at t4
                cases t4
              have hO2 : OK27 T z (seen ||| ((1 : Int32) <<< (nI d &&& 31))) (sI u 27 z (nI d)) (sI v 103 z (nI d)) := by
                refine ⟨fun y h1 h2 => ?_, fun y y' h1 h2 h3 h4 e => ?_⟩
                · by_cases c : y = z
                  · subst c
                    exact ⟨d, hd2, g_hit _ _ _ _, g_hit _ _ _ _, by rw [b_or, b_one (by omega) (by omega), decide_eq_true rfl, Bool.or_true]⟩
                  · obtain ⟨t, t1, t2, t3, t4⟩ := hO.1 y (by omega) h2
                    exact ⟨t, t1, by rw [g_off _ _ c, t2], by rw [g_off _ _ c, t3], by rw [b_or, t4, Bool.true_or]⟩
                · by_cases c : y = z
                  · by_cases c' : y' = z
                    · omega
                    · subst c
                      rw [g_hit, g_off _ _ c'] at e
                      exact absurd e.symm (hnew y' (by omega) h4)
                  · by_cases c' : y' = z
                    · subst c'
                      rw [g_hit, g_off _ _ c] at e
                      exact absurd e (hnew y (by omega) h2)
                    · rw [g_off _ _ c, g_off _ _ c'] at e
                      exact hO.2 y y' (by omega) h2 (by omega) h4 e
              have em1 : nI z + -1 = nI z - 1 := by rw [Int32.sub_eq_add_neg]
              obtain ⟨r, n, n', o1, o2, o3, o4, o5⟩ := ih (nI (L / 10)) (seen ||| ((1 : Int32) <<< (nI d &&& 31))) (sI u 27 z (nI d)) (sI v 103 z (nI d)) (by omega) hO2 (fun c i hc => by rw [g_far _ _ hc]; exact hu c i hc) (fun c i hc => by rw [g_far _ _ hc]; exact hv c i hc)
              refine ⟨r, n, n', (wh_inl ?_).trans o1, (wh_inl ?_).trans o2, o3, o4, o5⟩
              · unfold f_X4_takesOrder_L28
                simp only [nz, if_false, bnd, em, em2, e1, nd, u14, nI_ge hd2 (show T < 2 ^ 31 by omega), hbz.mpr hb, if_true, ck6, iz, ed, em1]
              · unfold f_X9_isOrder_L12
                simp only [nz, if_false, bnd, em, em2, e1, hx, isThing_y v8 hT hd2, some_bind, n10, hba, hb, show ¬ (bi false = 1) by decide, not_false_eq_true, if_true, ck6, iz, ed, em1]
            · refine no ?_ ?_
              · unfold f_X4_takesOrder_L28
                simp only [nz, if_false, bnd, em, e1, nd, u14, nI_ge hd2 (show T < 2 ^ 31 by omega)]
                rw [if_neg (fun q => by have := hbz.mp q; rw [hb] at this; cases this)]
                rfl
              · unfold f_X9_isOrder_L12
                simp only [nz, if_false, bnd, em, e1, hx, isThing_y v8 hT hd2, some_bind, n10, hba, hb, show bi true = 1 from rfl, not_true_eq_false]
                rfl
  exact key T x 0 m w (Nat.le_refl _) ⟨fun y h1 h2 => by omega, fun y y' h1 h2 => by omega⟩ (fun _ _ _ => rfl) (fun _ _ _ => rfl)
