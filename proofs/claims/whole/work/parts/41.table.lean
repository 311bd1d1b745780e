/-! THE TABLE -/
def ITn2 (P T C V : Nat) (m m' : Mem) : Prop := (gI m 1 13 = nI P ∧ gI m' 85 6 = nI P ∧ P ≤ 10) ∧ (gI m 1 14 = nI T ∧ gI m' 85 8 = nI T ∧ T ≤ 6) ∧ (gI m 1 15 = nI C ∧ gI m' 85 9 = nI C ∧ C ≤ 20) ∧ gI m 1 16 = nI V
def ITn (P T C V : Nat) (m : Mem) : Prop := ITn2 P T C V m m
def ITp2 (m m' : Mem) : Prop := ∀ p, p < 10 → (gI m 2 p = gI m' 86 p ∧ gI m 3 p = gI m' 86 (10 + p) ∧ gI m 5 p = gI m' 86 (20 + p) ∧ gI m 4 p = gI m' 90 p) ∧ (∃ r, r ≤ 9 ∧ gI m 2 p = nI r) ∧ (∃ r, r ≤ 9 ∧ gI m 3 p = nI r) ∧ (∃ r, r ≤ 99 ∧ gI m 5 p = nI r) ∧ ∃ r, r ≤ 99 ∧ gI m 4 p = nI r
def ITp (m : Mem) : Prop := ITp2 m m
def ITt2 (m m' : Mem) : Prop := ∀ t, t < 6 → (gI m 6 t = gI m' 86 (30 + t) ∧ gI m 7 t = gI m' 86 (36 + t)) ∧ (-99 ≤ gI m 6 t ∧ gI m 6 t ≤ 99) ∧ ∃ r, r ≤ 9 ∧ gI m 7 t = nI r
def ITt (m : Mem) : Prop := ITt2 m m
def ITc2 (T C : Nat) (m m' : Mem) : Prop := ∀ k, k < 20 → (gI m 8 k = gI m' 91 k ∧ gI m 9 k = gI m' 92 k ∧ gI m 10 k = gI m' 93 k) ∧ (k < C → ∃ t, t < T ∧ gI m 8 k = nI t) ∧ (-9 ≤ gI m 9 k ∧ gI m 9 k ≤ 9) ∧ ∃ x, x < 1024 ∧ gI m 10 k = nI x
def ITc (T C : Nat) (m : Mem) : Prop := ITc2 T C m m
def ITs (m : Mem) : Prop := (gI m 11 0 = gI m 85 13 ∧ ∃ s, s ≤ 5 ∧ gI m 11 0 = nI s) ∧ (gI m 11 1 = gI m 85 14 ∧ ∃ s, s ≤ 1 ∧ gI m 11 1 = nI s) ∧ gI m 11 2 = gI m 85 15 ∧ ∃ s, 1 ≤ s ∧ s ≤ 9 ∧ gI m 11 2 = nI s
theorem ITp_cong {m m' : Mem} (h : ITp m) (h2 : ∀ i, gI m' 2 i = gI m 2 i) (h3 : ∀ i, gI m' 3 i = gI m 3 i) (h4 : ∀ i, gI m' 4 i = gI m 4 i) (h5 : ∀ i, gI m' 5 i = gI m 5 i) (h6 : ∀ i, i < 30 → gI m' 86 i = gI m 86 i) (h9 : ∀ i, gI m' 90 i = gI m 90 i) : ITp m' := by
  intro p hp
  rw [h2, h3, h4, h5, h9, h6 p (by omega), h6 (10 + p) (by omega), h6 (20 + p) (by omega)]
  exact h p hp
theorem ITt_cong {m m' : Mem} (h : ITt m) (h6 : ∀ i, gI m' 6 i = gI m 6 i) (h7 : ∀ i, gI m' 7 i = gI m 7 i) (h8 : ∀ i, 30 ≤ i → gI m' 86 i = gI m 86 i) : ITt m' := by
  intro t ht
  rw [h6, h7, h8 (30 + t) (by omega), h8 (36 + t) (by omega)]
  exact h t ht
theorem ITc_cong {T C : Nat} {m m' : Mem} (h : ITc T C m) (h1 : ∀ i, gI m' 8 i = gI m 8 i) (h2 : ∀ i, gI m' 9 i = gI m 9 i) (h3 : ∀ i, gI m' 10 i = gI m 10 i) (h4 : ∀ i, gI m' 91 i = gI m 91 i) (h5 : ∀ i, gI m' 92 i = gI m 92 i) (h6 : ∀ i, gI m' 93 i = gI m 93 i) : ITc T C m' := by
  intro k hk
  rw [h1, h2, h3, h4, h5, h6]
  exact h k hk
theorem ITs_cong {m m' : Mem} (h : ITs m) (h1 : ∀ i, gI m' 11 i = gI m 11 i) (h2 : gI m' 85 13 = gI m 85 13) (h3 : gI m' 85 14 = gI m 85 14) (h4 : gI m' 85 15 = gI m 85 15) : ITs m' := by
  unfold ITs
  rw [h1, h1, h1, h2, h3, h4]
  exact h
theorem nI_sub {a b : Nat} (h : b ≤ a) : nI a - nI b = nI (a - b) := by
  have e : nI a = nI (a - b) + nI b := by rw [nI_add]; congr 1; omega
  rw [e]
  exact Int32.add_sub_cancel _ _
theorem nI_mul (a b : Nat) : nI a * nI b = nI (a * b) := (Int32.ofNat_mul a b).symm
theorem nI_div {a b : Nat} (ha : a < 2 ^ 31) (hb : b < 2 ^ 31) (h0 : 0 < b) : nI a / nI b = nI (a / b) := by
  apply Int32.toInt_inj.mp
  have h1 : a / b < 2 ^ 31 := Nat.lt_of_le_of_lt (Nat.div_le_self a b) ha
  rw [Int32.toInt_div, nI_toInt ha, nI_toInt hb, nI_toInt h1, ← Int.ofNat_tdiv]
  generalize a / b = q at h1
  exact Int.bmod_eq_of_le (by omega) (by omega)
theorem nI_mod {a b : Nat} (ha : a < 2 ^ 31) (hb : b < 2 ^ 31) (h0 : 0 < b) : nI a - nI a / nI b * nI b = nI (a % b) := by
  rw [nI_div ha hb h0, nI_mul, nI_sub (Nat.div_mul_le_self a b)]
  congr 1
  have := Nat.mod_add_div a b
  rw [Nat.mul_comm] at this
  omega
theorem rng_n {x : Int32} {n : Nat} {c : Int32} (hc : c = nI n) (h : x < 0 ∨ nI n < x) {T : Type} (A B : Option T) : (if x < 0 then A else if c < x then A else B) = A := by
  subst hc
  by_cases a : x < 0
  · rw [if_pos a]
  · rw [if_neg a, if_pos (h.resolve_left a)]
theorem rng_n' {x : Int32} {n : Nat} {c : Int32} (hc : c = nI n) (h : x < 0 ∨ nI n < x) {T : Type} (A B : Option T) : (if x < 0 then A else if x ≤ c then B else A) = A := by
  subst hc
  by_cases a : x < 0
  · rw [if_pos a]
  · rw [if_neg a, if_neg (Int32.not_le.mpr (h.resolve_left a))]
theorem rng_y {k n : Nat} {c : Int32} (hc : c = nI n) (hn : n < 2 ^ 31) (h : k ≤ n) {T : Type} (A B : Option T) : (if nI k < 0 then A else if c < nI k then A else B) = B := by
  subst hc
  rw [if_neg (nn_lt0 (by omega)), if_neg (nI_nlt h hn)]
theorem rng_y' {k n : Nat} {c : Int32} (hc : c = nI n) (hn : n < 2 ^ 31) (h : k ≤ n) {T : Type} (A B : Option T) : (if nI k < 0 then A else if nI k ≤ c then B else A) = B := by
  subst hc
  rw [if_neg (nn_lt0 (by omega)), if_pos (nI_le h hn)]
theorem full_n {P N : Nat} {c : Int32} (hc : c = nI N) (hN : N < 2 ^ 31) (h : P < N) : nI P < c ∧ ¬ nI P = c := by
  subst hc
  exact ⟨nI_lt h hN, fun q => by have := (eq_nn (by omega) hN).mp q; omega⟩
theorem op_person {P T C V : Nat} {m : Mem} (h : ITn P T C V m) (hp : ITp m) (a b : Int32) : ∃ v m1 m2, f_X8_person a b m = some (v, m1) ∧ f_X9_person a b m1 = some (v, m2) ∧ ((m1 = m ∧ m2 = m) ∨ (ITn (P + 1) T C (V + 1) m2 ∧ ITp m2 ∧ Fr l_X8_person m m1 ∧ Fr l_X9_person m1 m2)) := by
  obtain ⟨⟨n1, n2, n3⟩, ⟨n4, n5, n6⟩, ⟨n7, n8, n9⟩, n0⟩ := h
  rcases nn_cases 99 (by decide) a with ⟨a, ha, rfl⟩ | hbad
  · rcases nn_cases 9999 (by decide) b with ⟨b, hb, rfl⟩ | hbad
    · have w1 : ∀ m, f_X9_within (nI a).toInt64 0 99 m = some (1, m) := fun m => wi_ok (n := 99) rfl (by decide) ha m
      have w2 : ∀ m, f_X9_within (nI b).toInt64 0 9999 m = some (1, m) := fun m => wi_ok (n := 9999) rfl (by decide) hb m
      by_cases hP : P < 10
      · obtain ⟨f1, f2⟩ := full_n (c := 10) (N := 10) rfl (by decide) hP
        have e1 : ∀ {T : Type} (K : Option T), ck (nI P) 10 K = K := fun K => ck_in hP (by decide)
        have e2 : ∀ {T : Type} (K : Option T), ck (nI P) 42 K = K := fun K => ck_in (by omega) (by decide)
        have e3 : ∀ {T : Type} (K : Option T), ck (10 + nI P) 42 K = K := fun K => by rw [show (10 : Int32) + nI P = nI (10 + P) from nI_add 10 P]; exact ck_in (by omega) (by decide)
        have e4 : ∀ {T : Type} (K : Option T), ck (20 + nI P) 42 K = K := fun K => by rw [show (20 : Int32) + nI P = nI (20 + P) from nI_add 20 P]; exact ck_in (by omega) (by decide)
        have i1 : ix (nI P) = P := ix_n (by omega)
        have i2 : ix (10 + nI P) = 10 + P := by rw [show (10 : Int32) + nI P = nI (10 + P) from nI_add 10 P]; exact ix_n (by omega)
        have i3 : ix (20 + nI P) = 20 + P := by rw [show (20 : Int32) + nI P = nI (20 + P) from nI_add 20 P]; exact ix_n (by omega)
        have r1 : nI a / 10 = nI (a / 10) := nI_div (b := 10) (by omega) (by decide) (by decide)
        have r2 : nI a - nI (a / 10) * 10 = nI (a % 10) := by rw [← r1]; exact nI_mod (b := 10) (by omega) (by decide) (by decide)
        have r3 : nI b / 100 = nI (b / 100) := nI_div (b := 100) (by omega) (by decide) (by decide)
        have r4 : nI b - nI (b / 100) * 100 = nI (b % 100) := by rw [← r3]; exact nI_mod (b := 100) (by omega) (by decide) (by decide)
        have hX : f_X8_person (nI a) (nI b) m = some (nI P, sI (sI (sI (sI (sI (sI m 2 P (nI (a / 10))) 3 P (nI (a % 10))) 4 P (nI (b / 100))) 5 P (nI (b % 100))) 1 16 (nI (V + 1))) 1 13 (nI (P + 1))) := by
          unfold f_X8_person f_X6_addPerson
          rw [rng_y (n := 99) (c := 99) rfl (by decide) ha, rng_y' (n := 9999) (c := 9999) rfl (by decide) hb]
          simp only [bnd, some_bind, g_sI, gJ_sI, gI_sJ, gJ_sJ, Nat.reduceEqDiff, false_and, and_false, true_and, and_true, if_false, if_true, reduceIte, not_false_eq_true, not_true_eq_false, n1, n0, f1, e1, i1, nI_1, r1, r2, r3, r4]
        have hY : ∀ m1, gI m1 85 6 = nI P → f_X9_person (nI a) (nI b) m1 = some (nI P, sI (sI (sI (sI (sI m1 86 P (nI (a / 10))) 86 (10 + P) (nI (a % 10))) 90 P (nI (b / 100))) 86 (20 + P) (nI (b % 100))) 85 6 (nI (P + 1))) := fun m1 q => by
          unfold f_X9_person
          simp only [bnd, some_bind, g_sI, gJ_sI, gI_sJ, gJ_sJ, Nat.reduceEqDiff, false_and, and_false, true_and, and_true, if_false, if_true, reduceIte, not_false_eq_true, not_true_eq_false, w1, w2, q, f2, e1, e2, e3, e4, i1, i2, i3, nI_1, nI_pred, r1, r2, r3, r4, show ¬ ((1 : Int32) = 0) by decide]
        have hY' := hY _ (show gI (sI (sI (sI (sI (sI (sI m 2 P (nI (a / 10))) 3 P (nI (a % 10))) 4 P (nI (b / 100))) 5 P (nI (b % 100))) 1 16 (nI (V + 1))) 1 13 (nI (P + 1))) 85 6 = nI P by simp only [g_sI, gJ_sI, gI_sJ, gJ_sJ, Nat.reduceEqDiff, false_and, and_false, true_and, and_true, if_false, if_true, reduceIte, not_false_eq_true, not_true_eq_false, n2])
        refine ⟨nI P, _, _, hX, hY', Or.inr ⟨⟨⟨?_, ?_, by omega⟩, ⟨?_, ?_, n6⟩, ⟨?_, ?_, n9⟩, ?_⟩, ?_, fr_X8_person hX, fr_X9_person hY'⟩⟩
        · simp only [g_sI, gJ_sI, gI_sJ, gJ_sJ, Nat.reduceEqDiff, false_and, and_false, true_and, and_true, if_false, if_true, reduceIte, not_false_eq_true, not_true_eq_false]
        · simp only [g_sI, gJ_sI, gI_sJ, gJ_sJ, Nat.reduceEqDiff, false_and, and_false, true_and, and_true, if_false, if_true, reduceIte, not_false_eq_true, not_true_eq_false]
        · simp only [g_sI, gJ_sI, gI_sJ, gJ_sJ, Nat.reduceEqDiff, false_and, and_false, true_and, and_true, if_false, if_true, reduceIte, not_false_eq_true, not_true_eq_false, n4]
        · simp only [g_sI, gJ_sI, gI_sJ, gJ_sJ, Nat.reduceEqDiff, false_and, and_false, true_and, and_true, if_false, if_true, reduceIte, not_false_eq_true, not_true_eq_false, n5]
        · simp only [g_sI, gJ_sI, gI_sJ, gJ_sJ, Nat.reduceEqDiff, false_and, and_false, true_and, and_true, if_false, if_true, reduceIte, not_false_eq_true, not_true_eq_false, n7]
        · simp only [g_sI, gJ_sI, gI_sJ, gJ_sJ, Nat.reduceEqDiff, false_and, and_false, true_and, and_true, if_false, if_true, reduceIte, not_false_eq_true, not_true_eq_false, n8]
        · simp only [g_sI, gJ_sI, gI_sJ, gJ_sJ, Nat.reduceEqDiff, false_and, and_false, true_and, and_true, if_false, if_true, reduceIte, not_false_eq_true, not_true_eq_false]
        · intro p hp9
          have := hp p hp9
          by_cases hc : p = P
          · subst hc
            have q1 : ¬ p = 20 + p := by omega
            have q2 : ¬ p = 10 + p := by omega
            have q3 : ¬ 10 + p = 20 + p := by omega
            have q4 : ¬ 20 + p = 10 + p := by omega
            simp only [g_sI, gJ_sI, gI_sJ, gJ_sJ, Nat.reduceEqDiff, false_and, and_false, true_and, and_true, if_false, if_true, reduceIte, not_false_eq_true, not_true_eq_false, q1, q2, q3, q4]
            exact ⟨⟨a / 10, by omega, rfl⟩, ⟨a % 10, by omega, rfl⟩, ⟨b % 100, by omega, rfl⟩, ⟨b / 100, by omega, rfl⟩⟩
          · have q1 : ¬ p = 20 + P := by omega
            have q2 : ¬ p = 10 + P := by omega
            have q3 : ¬ 10 + p = 20 + P := by omega
            have q4 : ¬ 10 + p = 10 + P := by omega
            have q5 : ¬ 10 + p = P := by omega
            have q6 : ¬ 20 + p = 20 + P := by omega
            have q7 : ¬ 20 + p = 10 + P := by omega
            have q8 : ¬ 20 + p = P := by omega
            simp only [g_sI, gJ_sI, gI_sJ, gJ_sJ, Nat.reduceEqDiff, false_and, and_false, true_and, and_true, if_false, if_true, reduceIte, not_false_eq_true, not_true_eq_false, hc, q1, q2, q3, q4, q5, q6, q7, q8]
            exact this
      · have eP : P = 10 := by omega
        subst eP
        refine ⟨-3, m, m, ?_, ?_, Or.inl ⟨rfl, rfl⟩⟩
        · unfold f_X8_person
          rw [rng_y (n := 99) (c := 99) rfl (by decide) ha, rng_y' (n := 9999) (c := 9999) rfl (by decide) hb, n1]
          rfl
        · unfold f_X9_person
          simp only [bnd, some_bind, g_sI, gJ_sI, gI_sJ, gJ_sJ, Nat.reduceEqDiff, false_and, and_false, true_and, and_true, if_false, if_true, reduceIte, not_false_eq_true, not_true_eq_false, w1, w2, n2, show nI 10 = 10 from rfl, show ¬ ((1 : Int32) = 0) by decide]
    · have w1 : ∀ m, f_X9_within (nI a).toInt64 0 99 m = some (1, m) := fun m => wi_ok (n := 99) rfl (by decide) ha m
      refine ⟨-1, m, m, ?_, ?_, Or.inl ⟨rfl, rfl⟩⟩
      · unfold f_X8_person
        rw [rng_y (n := 99) (c := 99) rfl (by decide) ha, rng_n' (n := 9999) (c := 9999) rfl hbad]
      · unfold f_X9_person
        simp only [bnd, some_bind, g_sI, gJ_sI, gI_sJ, gJ_sJ, Nat.reduceEqDiff, false_and, and_false, true_and, and_true, if_false, if_true, reduceIte, not_false_eq_true, not_true_eq_false, w1, wi_bad (n := 9999) (H := 9999) rfl hbad, show ¬ ((1 : Int32) = 0) by decide]
  · refine ⟨-1, m, m, ?_, ?_, Or.inl ⟨rfl, rfl⟩⟩
    · unfold f_X8_person
      rw [rng_n (n := 99) (c := 99) rfl hbad]
    · unfold f_X9_person
      simp only [bnd, some_bind, g_sI, gJ_sI, gI_sJ, gJ_sJ, Nat.reduceEqDiff, false_and, and_false, true_and, and_true, if_false, if_true, reduceIte, not_false_eq_true, not_true_eq_false, wi_bad (n := 99) (H := 99) rfl hbad]
