/-! RUNS SHIFTED, BODIES TAKEN -/
theorem cJ_v (m : Mem) (a : Nat) (sp : Int32) (b : Nat) (dp n : Int32) (c i : Nat) : gJ (cJ m a sp b dp n) c i = if c = b ∧ dp.toNatClampNeg ≤ i ∧ i < dp.toNatClampNeg + n.toNatClampNeg then gJ m a (sp.toNatClampNeg + (i - dp.toNatClampNeg)) else gJ m c i := by
  show (if c = b then va_cpy (m.2.1 a) (m.2.1 b) _ _ _ else m.2.1 c) i = _
  by_cases h : c = b
  · subst h
    rw [if_pos rfl]
    unfold va_cpy
    by_cases h2 : dp.toNatClampNeg ≤ i ∧ i < dp.toNatClampNeg + n.toNatClampNeg
    · rw [if_pos h2, if_pos ⟨rfl, h2⟩]; rfl
    · rw [if_neg h2, if_neg (fun q => h2 q.2)]; rfl
  · rw [if_neg h, if_neg (fun q => h q.1)]; rfl
theorem sub_i {a b : Int32} (h1 : -2147483648 ≤ a.toInt - b.toInt) (h2 : a.toInt - b.toInt ≤ 2147483647) : (a - b).toInt = a.toInt - b.toInt := by
  rw [Int32.toInt_sub]
  exact Int.bmod_eq_of_le (by omega) (by omega)
/-- the run lies in a row of this length -/
def inRun (ln : Nat) (f n : Int32) : Prop := 0 ≤ n.toInt ∧ 0 ≤ f.toInt ∧ f.toInt + n.toInt ≤ ln
theorem sub_len {ln : Nat} (hl : ln ≤ 60) {n : Int32} (hn : 0 ≤ n.toInt) : (nI ln - n).toInt = ln - n.toInt := by
  have h1 := nI_toInt (n := ln) (by omega)
  have h2 := n.toInt_lt
  have := sub_i (a := nI ln) (b := n) (by omega) (by omega)
  rw [this, h1]
theorem run_y {sf ln : Nat} {m : Mem} (hL : gI m sf 2 = nI ln) (hl : ln ≤ 60) {f n : Int32} (h : inRun ln f n) : f_X5_hasRun sf f n m = some (1, m) := by
  obtain ⟨h1, h2, h3⟩ := h
  have e := sub_len hl h1
  have e0 := nI_toInt (n := ln) (by omega)
  unfold f_X5_hasRun
  rw [hL, if_neg (by rw [Int32.lt_iff_toInt_lt]; change ¬ n.toInt < 0; omega), if_neg (by rw [Int32.lt_iff_toInt_lt, e0]; omega), if_neg (by rw [Int32.lt_iff_toInt_lt]; change ¬ f.toInt < 0; omega), if_neg (by rw [Int32.lt_iff_toInt_lt, e]; omega)]
  exact bz_1
theorem run_n {sf ln : Nat} {m : Mem} (hL : gI m sf 2 = nI ln) (hl : ln ≤ 60) {f n : Int32} (h : ¬ inRun ln f n) : f_X5_hasRun sf f n m = some (0, m) := by
  have e0 := nI_toInt (n := ln) (by omega)
  unfold f_X5_hasRun
  rw [hL]
  by_cases q1 : n < 0
  · rw [if_pos q1]; exact bz_0
  · rw [if_neg q1]
    rw [Int32.lt_iff_toInt_lt] at q1
    change ¬ n.toInt < 0 at q1
    have e := sub_len hl (n := n) (by omega)
    by_cases q2 : nI ln < n
    · rw [if_pos q2]; exact bz_0
    · rw [if_neg q2]
      by_cases q3 : f < 0
      · rw [if_pos q3]; exact bz_0
      · rw [if_neg q3]
        rw [Int32.lt_iff_toInt_lt] at q3
        change ¬ f.toInt < 0 at q3
        rw [if_pos ?_]
        · exact bz_0
        · rw [Int32.lt_iff_toInt_lt, e]
          unfold inRun at h
          omega
theorem n_of_i {x : Int32} (h : 0 ≤ x.toInt) : ∃ k, x = nI k ∧ (k : Int) = x.toInt := by
  have h2 := x.toInt_lt
  refine ⟨x.toInt.toNat, ?_, by omega⟩
  apply Int32.toInt_inj.mp
  rw [nI_toInt (by omega)]
  omega
theorem shift_L1 (k1 f1 n : Nat) (h1 : k1 < 6) (hn : f1 + n ≤ 60) (x y : Int32) (m : Mem) (K : Mem → Option (Int32 × Mem)) (hK : ∀ a, wh f_X9_shift_L150 (x, y, nI n, 0, a) = K a) (r : Int32 × Mem) (hr0 : K (fo (fun a i => sJ a 129 (0 + i) (gJ a 128 (60 * k1 + f1 + i))) n 0 m) = some r) : wh f_X9_shift_L113 (nI k1, nI f1, x, y, nI n, 0, m) = some r := by
  have key : ∀ j i a, i + j = n → K (fo (fun a i => sJ a 129 (0 + i) (gJ a 128 (60 * k1 + f1 + i))) j i a) = some r → wh f_X9_shift_L113 (nI k1, nI f1, x, y, nI n, nI i, a) = some r := by
    intro j
    induction j with
    | zero =>
      intro i a e hr
      have e2 : i = n := by omega
      subst e2
      refine wh_done ?_
      unfold f_X9_shift_L113
      simp only []
      rw [if_pos (nI_le (Nat.le_refl i) (by omega)), hK, show K a = some r from hr]
      rfl
    | succ j ih =>
      intro i a e hr
      refine wh_next ?_ (ih (i + 1) _ (by omega) hr)
      unfold f_X9_shift_L113
      simp only [nI_60, nI_add]
      rw [if_neg (nI_ge (by omega) (by omega)), ck_in (by omega) (by decide), ck_in (by omega) (by decide)]
      simp only [bnd, ix_n (show i < 2 ^ 31 by omega), ix_n (show 60 * k1 + f1 + i < 2 ^ 31 by omega), nI_1, Nat.zero_add]
  exact key n 0 m (by omega) hr0
theorem shift_L2 (k2 f2 n : Nat) (h2 : k2 < 6) (hn : f2 + n ≤ 60) (m : Mem) : wh f_X9_shift_L150 (nI k2, nI f2, nI n, 0, m) = some (nI n, fo (fun a i => sJ a 128 (60 * k2 + f2 + i) (gJ a 129 i)) n 0 m) := by
  refine wh_for (A := Mem) (fun a i => (nI k2, nI f2, nI n, nI i, a)) n (fun a i => sJ a 128 (60 * k2 + f2 + i) (gJ a 129 i)) (fun a => (nI n, a)) (fun a i hi => ?_) (fun a => ?_) m
  · unfold f_X9_shift_L150
    simp only [nI_60, nI_add]
    rw [if_neg (nI_ge hi (by omega)), ck_in (by omega) (by decide), ck_in (by omega) (by decide)]
    simp only [bnd, ix_n (show i < 2 ^ 31 by omega), ix_n (show 60 * k2 + f2 + i < 2 ^ 31 by omega), nI_1]
  · unfold f_X9_shift_L150
    simp only []
    rw [if_pos (nI_le (Nat.le_refl _) (by omega))]
    rfl
/-- what both copies leave -/
theorem IS_copy {B k1 k2 f1 f2 n : Nat} {m m1 : Mem} (h1 : k1 < 6) (h2 : k2 < 6) (hn1 : f1 + n ≤ 60) (hn2 : f2 + n ≤ 60) (h : IS B m) (hs : gI m (73 + 2 * k1) 0 = gI m (73 + 2 * k2) 0) (hm1 : m1 = cJ m (73 + 2 * k1 + 1) (nI f1) (73 + 2 * k2 + 1) (nI f2) (nI n)) : IS B (fo (fun a i => sJ a 128 (60 * k2 + f2 + i) (gJ a 129 i)) n 0 (fo (fun a i => sJ a 129 (0 + i) (gJ a 128 (60 * k1 + f1 + i))) n 0 m1)) := by
  obtain ⟨a1, a2, a3⟩ := fo_J 129 0 (fun a i => gJ a 128 (60 * k1 + f1 + i)) (fun a k i x => by simp only [g_sI, gJ_sI, gI_sJ, gJ_sJ, Nat.reduceEqDiff, false_and, and_false, true_and, and_true, if_false, if_true, reduceIte, not_false_eq_true, not_true_eq_false]) n 0 m1
  obtain ⟨b1, b2, b3⟩ := fo_J 128 (60 * k2 + f2) (fun a i => gJ a 129 i) (fun a k i x => by simp only [g_sI, gJ_sI, gI_sJ, gJ_sJ, Nat.reduceEqDiff, false_and, and_false, true_and, and_true, if_false, if_true, reduceIte, not_false_eq_true, not_true_eq_false]) n 0 (fo (fun a i => sJ a 129 (0 + i) (gJ a 128 (60 * k1 + f1 + i))) n 0 m1)
  have gi : ∀ c i, gI m1 c i = gI m c i := fun c i => by rw [hm1]; rfl
  have gj : ∀ c i, gJ m1 c i = if c = 73 + 2 * k2 + 1 ∧ f2 ≤ i ∧ i < f2 + n then gJ m (73 + 2 * k1 + 1) (f1 + (i - f2)) else gJ m c i := fun c i => by
    rw [hm1, cJ_v]
    simp only [nI_clamp (show f1 < 2 ^ 31 by omega), nI_clamp (show f2 < 2 ^ 31 by omega), nI_clamp (show n < 2 ^ 31 by omega)]
  intro d hd
  have c1 := sh_c (c := 128) (by decide) hd
  have c2 := sh_c (c := 129) (by decide) hd
  have c3 := sh_c (c := 128) (by decide) h2
  by_cases hdk : d = k2
  · subst hdk
    obtain ⟨a, e, f⟩ := h d hd
    refine ⟨?_, ?_, fun i hi => ?_⟩
    · simp only [b1, a1, gi]; exact a
    · simp only [b1, a1, gi]
      rcases e with e | e | ⟨t, e1, e2, e3, e4⟩
      · exact Or.inl e
      · exact Or.inr (Or.inl e)
      · refine Or.inr (Or.inr ⟨t, e1, e2, e3, fun ht i hi => ?_⟩)
        rw [b3]
        simp only [c1, Nat.reduceEqDiff, false_and, and_false, true_and, and_true, if_false, if_true, reduceIte, not_false_eq_true, not_true_eq_false]
        rw [a3]
        simp only [c2, Nat.reduceEqDiff, false_and, and_false, true_and, and_true, if_false, if_true, reduceIte, not_false_eq_true, not_true_eq_false]
        rw [gj]
        simp only [Nat.reduceEqDiff, false_and, and_false, true_and, and_true, if_false, if_true, reduceIte, not_false_eq_true, not_true_eq_false]
        by_cases hin : f2 ≤ i ∧ i < f2 + n
        · rw [if_pos hin]
          obtain ⟨-, e5, -⟩ := h k1 h1
          rw [hs] at e5
          rcases e5 with ⟨-, e5⟩ | ⟨b, -, -, -, e5, -⟩ | ⟨u, u1, -, u2, u3⟩
          · exact absurd (e3.symm.trans e5) (sh_t e1).2
          · exact absurd (e3.symm.trans e5) (sh_t e1).1
          · refine u3 ?_ _ (by omega)
            rw [← ht]
            exact ((eq_nn (by omega) (by omega)).mp (e3.symm.trans u2)).symm
        · rw [if_neg hin]
          exact e4 ht i hi
    · rw [b3, b3]
      simp only [c1, Nat.reduceEqDiff, false_and, and_false, true_and, and_true, if_false, if_true, reduceIte, not_false_eq_true, not_true_eq_false]
      rw [a3]
      simp only [c2, Nat.reduceEqDiff, false_and, and_false, true_and, and_true, if_false, if_true, reduceIte, not_false_eq_true, not_true_eq_false]
      rw [gj]
      simp only [Nat.reduceEqDiff, false_and, and_false, true_and, and_true, if_false, if_true, reduceIte, not_false_eq_true, not_true_eq_false]
      by_cases hin : f2 ≤ i ∧ i < f2 + n
      · rw [if_pos hin, if_pos (by omega), a3, if_pos ⟨rfl, by omega, by omega⟩, gj]
        simp only [c3, Nat.reduceEqDiff, false_and, and_false, true_and, and_true, if_false, if_true, reduceIte, not_false_eq_true, not_true_eq_false]
        rw [(h k1 h1).2.2 _ (by omega)]
        congr 1
        omega
      · rw [if_neg hin, if_neg (by omega), a3, if_neg (fun q => absurd q.1 (by decide)), gj]
        simp only [c3, Nat.reduceEqDiff, false_and, and_false, true_and, and_true, if_false, if_true, reduceIte, not_false_eq_true, not_true_eq_false]
        exact f i hi
  · refine IS1_cong (m := m) (fun i hi => ?_) ?_ ?_ (fun i hi => ?_) (fun i hi => ?_) (h d hd)
    · rw [b1, a1, gi]
    · rw [b1, a1, gi]
    · rw [b1, a1, gi]
    · rw [b3]; simp only [c1, Nat.reduceEqDiff, false_and, and_false, true_and, and_true, if_false, if_true, reduceIte, not_false_eq_true, not_true_eq_false]; rw [a3]; simp only [c2, Nat.reduceEqDiff, false_and, and_false, true_and, and_true, if_false, if_true, reduceIte, not_false_eq_true, not_true_eq_false]; rw [gj]; simp only [sh_ne hdk, Nat.reduceEqDiff, false_and, and_false, true_and, and_true, if_false, if_true, reduceIte, not_false_eq_true, not_true_eq_false]
    · rw [b3, if_neg (by omega), a3, if_neg (fun q => absurd q.1 (by decide)), gj]; simp only [c3, Nat.reduceEqDiff, false_and, and_false, true_and, and_true, if_false, if_true, reduceIte, not_false_eq_true, not_true_eq_false]
