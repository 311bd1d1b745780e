/-! BODIES TAKEN -/
def par (c : Nat) : Nat := [0, 0, 0, 2, 0, 3, 0, 4].getD c 0
def climb (c w : Nat) : Bool := c == w || par c == w || par (par c) == w || par (par (par c)) == w
theorem par_4 : ∀ c, c < 8 → st_4.getD c 0 = (if c = 0 then -1 else nI (par c)) ∧ (c = 0 ∨ par c < c) := by decide
theorem par_above : ∀ c, c < 8 → ∀ m, f_X9_above (nI c) m = some (nI (par c), m) := by
  intro c hc m
  unfold f_X9_above
  have : c = 0 ∨ c = 1 ∨ c = 2 ∨ c = 3 ∨ c = 4 ∨ c = 5 ∨ c = 6 ∨ c = 7 := by omega
  rcases this with rfl | rfl | rfl | rfl | rfl | rfl | rfl | rfl <;> rfl
theorem climb_s : ∀ c, c < 8 → ∀ w, w < 8 → ¬ c = w → (c = 0 → climb c w = false) ∧ climb c w = climb (par c) w := by decide
theorem climb_r (c : Nat) : climb c c = true := by unfold climb; simp
theorem under_eq {w : Nat} (hw : w < 8) (m : Mem) : ∀ c g, c < 8 → g + c < 8 → wh f_X0_isUnder_L4 (nI w, nI c, nI g, m) = some (bi (climb c w), m) := by
  intro c
  induction c using Nat.strongRecOn with
  | _ c ih =>
    intro g hc hg
    have b1 : ¬ (8 : Int32) ≤ nI g := Int32.not_le.mpr (lt_lit (n := 8) rfl (by decide) (by omega))
    have b2 : ¬ nI c < 0 := nn_lt0 (by omega)
    by_cases hcw : c = w
    · subst hcw
      refine wh_done ?_
      unfold f_X0_isUnder_L4
      simp only [b1, b2, Nat.reduceEqDiff, false_and, and_false, true_and, and_true, if_false, if_true, reduceIte, not_false_eq_true, not_true_eq_false, climb_r]
      rfl
    · have b3 : ¬ nI c = nI w := fun q => hcw ((eq_nn (by omega) (by omega)).mp q)
      have hs := climb_s c hc w hw hcw
      obtain ⟨p1, p2⟩ := par_4 c hc
      have hl : st_4.length = 8 := rfl
      have step : f_X0_isUnder_L4 (nI w, nI c, nI g, m) = some (.inl (nI w, st_4.getD c 0, nI (g + 1), m)) := by
        unfold f_X0_isUnder_L4
        simp only [b1, b2, b3, bnd, some_bind, g_sI, gJ_sI, gI_sJ, gJ_sJ, Nat.reduceEqDiff, false_and, and_false, true_and, and_true, if_false, if_true, reduceIte, not_false_eq_true, not_true_eq_false, hl, ck_in hc (show 8 < 2 ^ 31 by decide), ix_n (show c < 2 ^ 31 by omega), nI_1]
      by_cases h0 : c = 0
      · refine wh_next step ?_
        rw [p1, if_pos h0, hs.1 h0]
        refine wh_done ?_
        unfold f_X0_isUnder_L4
        simp only [show ((-1 : Int32) < 0) by decide, Nat.reduceEqDiff, false_and, and_false, true_and, and_true, if_false, if_true, reduceIte, not_false_eq_true, not_true_eq_false]
        split <;> rfl
      · refine wh_next step ?_
        rw [p1, if_neg h0, hs.2]
        have := p2.resolve_left h0
        exact ih (par c) this (g + 1) (by omega) (by omega)
theorem isUnder_v {c w : Nat} (hc : c < 8) (hw : w < 8) (m : Mem) : f_X0_isUnder (nI c) (nI w) m = some (bi (climb c w), m) := under_eq hw m c 0 hc (by omega)
theorem taken_L {w : Nat} (hw : w < 8) {m : Mem} {x y : Int32} (hJ : ∀ v, f_X9_taken_J75 x (nI w) v m = if ¬ v = nI w then some (-12, m) else some (y, m)) : ∀ c, c < 8 → wh f_X9_taken_L58 (x, nI w, nI c, m) = some (if climb c w then y else -12, m) := by
  intro c
  induction c using Nat.strongRecOn with
  | _ c ih =>
    intro hc
    by_cases hcw : c = w
    · subst hcw
      refine wh_done ?_
      unfold f_X9_taken_L58
      simp only [Nat.reduceEqDiff, false_and, and_false, true_and, and_true, if_false, if_true, reduceIte, not_false_eq_true, not_true_eq_false, climb_r, hJ]
      rfl
    · have b3 : ¬ nI c = nI w := fun q => hcw ((eq_nn (by omega) (by omega)).mp q)
      have hs := climb_s c hc w hw hcw
      by_cases h0 : c = 0
      · refine wh_done ?_
        rw [hs.1 h0]
        subst h0
        unfold f_X9_taken_L58
        simp only [b3, Nat.reduceEqDiff, false_and, and_false, true_and, and_true, if_false, if_true, reduceIte, not_false_eq_true, not_true_eq_false, hJ, show nI 0 ≤ 0 by decide]
        rfl
      · refine wh_next (s' := (x, nI w, nI (par c), m)) ?_ ?_
        · unfold f_X9_taken_L58
          have b4 : ¬ nI c ≤ 0 := nI_nle (by omega) (by omega)
          simp only [b3, b4, bnd, some_bind, g_sI, gJ_sI, gI_sJ, gJ_sJ, Nat.reduceEqDiff, false_and, and_false, true_and, and_true, if_false, if_true, reduceIte, not_false_eq_true, not_true_eq_false, par_above c hc]
        · rw [hs.2]
          exact ih (par c) ((par_4 c hc).2.resolve_left h0) (by have := (par_4 c hc).2.resolve_left h0; omega)
theorem kind_X0 {B b : Nat} {m : Mem} (hA : IA B m) (hb : b < B) : ∃ k, k < 8 ∧ f_X0_kindOf (nI b) m = some (nI k, m) ∧ f_X9_kindOf (nI b) m = some (nI k, m) := by
  obtain ⟨⟨h1, h2, h3⟩, h4, -⟩ := hA
  obtain ⟨e1, k, hk, e2⟩ := h4 b (by omega)
  refine ⟨k, by omega, ?_, ?_⟩
  · unfold f_X0_kindOf
    rw [if_neg (nn_lt0 (by omega)), h1, if_neg (nI_ge hb (by omega)), ck_in (by omega) (by decide), ix_n (by omega), e2]
  · unfold f_X9_kindOf
    rw [ck_in (by omega) (by decide), ix_n (by omega), ← e1, e2]
theorem op_taken {B : Nat} {m : Mem} (hA : IA B m) (h : IS B m) (d w : Int32) : ∃ v, f_X8_taken d w m = some (v, m) ∧ f_X9_taken d w m = some (v, m) := by
  unfold f_X8_taken f_X9_taken
  have n10 : ¬ ((1 : Int32) = 0) := by decide
  rcases nn_cases 5 (by decide) d with ⟨k, hk, rfl⟩ | hbad
  · have hk6 : k < 6 := by omega
    have ek : ∀ {T : Type} (K : Option T), ck (nI k) 6 K = K := fun K => ck_in hk6 (by decide)
    have ei : ix (nI k) = k := ix_n (by omega)
    have s1 := noShelf_ok hk6
    have s2 := isShelf_ok hk6
    rcases nn_cases 7 (by decide) w with ⟨w, hw, rfl⟩ | hb2
    · have w1 : ¬ nI w < 0 := nn_lt0 (by omega)
      have w2 : nI w < 8 := lt_lit (n := 8) rfl (by decide) (by omega)
      have w3 : ∀ m, f_X9_within (nI w).toInt64 0 7 m = some (1, m) := fun m => wi_ok (n := 7) rfl (by decide) hw m
      obtain ⟨-, h3, -⟩ := h k hk6
      rcases h3 with ⟨h5, h6⟩ | ⟨b, hb, hb5, h5, h6, h7⟩ | ⟨t, ht, h5, h6, -⟩
      · refine ⟨-11, ?_, ?_⟩
        · simp only [bnd, some_bind, g_sI, gJ_sI, gI_sJ, gJ_sJ, Nat.reduceEqDiff, false_and, and_false, true_and, and_true, if_false, if_true, reduceIte, not_false_eq_true, not_true_eq_false, s1, ek, ei, w1, w2, h6]
        · simp only [bnd, some_bind, g_sI, gJ_sI, gI_sJ, gJ_sJ, Nat.reduceEqDiff, false_and, and_false, true_and, and_true, if_false, if_true, reduceIte, not_false_eq_true, not_true_eq_false, s2, ek, ei, w3, n10, h5, show ¬ (0 ≤ (-1 : Int32)) by decide]
      · obtain ⟨c, hc, e1, e2⟩ := kind_X0 hA hb
        have q1 : 0 ≤ nI b := nn_0le (by omega)
        have q2 : nI b < 50 := lt_lit (n := 50) rfl (by decide) hb5
        have hJ : ∀ v, f_X9_taken_J75 (nI k) (nI w) v m = if ¬ v = nI w then some (-12, m) else some (nI c, m) := fun v => by
          unfold f_X9_taken_J75
          simp only [bnd, some_bind, g_sI, gJ_sI, gI_sJ, gJ_sJ, Nat.reduceEqDiff, false_and, and_false, true_and, and_true, if_false, if_true, reduceIte, not_false_eq_true, not_true_eq_false, ek, ei, h5, e2]
        refine ⟨if climb c w then nI c else -12, ?_, ?_⟩
        · simp only [bnd, some_bind, g_sI, gJ_sI, gI_sJ, gJ_sJ, Nat.reduceEqDiff, false_and, and_false, true_and, and_true, if_false, if_true, reduceIte, not_false_eq_true, not_true_eq_false, s1, ek, ei, w1, w2, h6, h7, e1, isUnder_v hc (show w < 8 by omega), show ¬ ((-1 : Int32) = -2) by decide]
          cases climb c w <;> rfl
        · simp only [bnd, some_bind, g_sI, gJ_sI, gI_sJ, gJ_sJ, Nat.reduceEqDiff, false_and, and_false, true_and, and_true, if_false, if_true, reduceIte, not_false_eq_true, not_true_eq_false, s2, ek, ei, w3, n10, h5, q1, q2, e2]
          exact taken_L (by omega) hJ c hc
      · refine ⟨-12, ?_, ?_⟩
        · simp only [bnd, some_bind, g_sI, gJ_sI, gI_sJ, gJ_sJ, Nat.reduceEqDiff, false_and, and_false, true_and, and_true, if_false, if_true, reduceIte, not_false_eq_true, not_true_eq_false, s1, ek, ei, w1, w2, h6, sh_t ht]
        · have q1 : 0 ≤ nI (50 + t) := nn_0le (by omega)
          have q2 : ¬ nI (50 + t) < 50 := Int32.not_lt.mpr (ge_lit (n := 50) rfl (by omega) (by omega))
          simp only [bnd, some_bind, g_sI, gJ_sI, gI_sJ, gJ_sJ, Nat.reduceEqDiff, false_and, and_false, true_and, and_true, if_false, if_true, reduceIte, not_false_eq_true, not_true_eq_false, s2, ek, ei, w3, n10, h5, q1, q2]
    · refine ⟨-1, ?_, ?_⟩
      · rw [s1, some_bind]
        by_cases w0 : w < 0
        · simp only [bnd, some_bind, g_sI, gJ_sI, gI_sJ, gJ_sJ, Nat.reduceEqDiff, false_and, and_false, true_and, and_true, if_false, if_true, reduceIte, not_false_eq_true, not_true_eq_false, w0]
        · simp only [bnd, some_bind, g_sI, gJ_sI, gI_sJ, gJ_sJ, Nat.reduceEqDiff, false_and, and_false, true_and, and_true, if_false, if_true, reduceIte, not_false_eq_true, not_true_eq_false, w0, show ¬ w < (8 : Int32) from far_ge (n := 7) (by decide) hb2 w0]
      · rw [s2, some_bind, if_neg (show ¬ ((1 : Int32) = 0) by decide), wi_bad (n := 7) (H := 7) rfl hb2]
        simp only [bnd, some_bind, g_sI, gJ_sI, gI_sJ, gJ_sJ, Nat.reduceEqDiff, false_and, and_false, true_and, and_true, if_false, if_true, reduceIte, not_false_eq_true, not_true_eq_false]
  · refine ⟨-1, ?_, ?_⟩
    · rw [noShelf_bad hbad]
      simp only [bnd, some_bind, g_sI, gJ_sI, gI_sJ, gJ_sJ, Nat.reduceEqDiff, false_and, and_false, true_and, and_true, if_false, if_true, reduceIte, not_false_eq_true, not_true_eq_false, n10]
    · rw [isShelf_bad hbad]
      simp only [bnd, some_bind, g_sI, gJ_sI, gI_sJ, gJ_sJ, Nat.reduceEqDiff, false_and, and_false, true_and, and_true, if_false, if_true, reduceIte, not_false_eq_true, not_true_eq_false]
