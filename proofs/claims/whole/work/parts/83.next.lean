/-! IN THOUGHT: the next order -/
def sw2 (A : Nat → Nat) (f g : Nat) : Nat → Nat := fun i => if i = g then A f else if i = f then A g else A i
def flP (A : Nat → Nat) : Nat → Option Nat
  | 0 => none
  | f + 1 => if A f ≤ A (f + 1) then some f else flP A f
def grP (A : Nat → Nat) (f : Nat) : Nat → Nat
  | 0 => 0
  | g + 1 => if g + 1 ≤ f then g + 1 else if A f ≤ A (g + 1) then g + 1 else grP A f g
def rvP : Nat → (Nat → Nat) → Nat → Nat → Nat → Nat
  | 0, A, _, _ => A
  | n + 1, A, i, j => if j ≤ i then A else rvP n (sw2 A i j) (i + 1) (j - 1)
def nxP (T : Nat) (A : Nat → Nat) : Option (Nat → Nat) := match flP A (T - 1) with
  | none => none
  | some f => some (rvP 6 (sw2 A f (grP A f (T - 1))) (f + 1) (T - 1))
def agA (T : Nat) (A : Nat → Nat) (u : Mem) : Prop := ∀ i, i < T → A i < 100 ∧ gI u 54 i = nI (A i)
theorem swap_v {T f g : Nat} {A : Nat → Nat} {u : Mem} (hT : T ≤ 6) (hA : agA T A u) (hf : f < T) (hg : g < T) : ∃ n, f_X7_swap (nI f) (nI g) u = some n ∧ agA T (sw2 A f g) n ∧ ∀ c i, c ≠ 54 → gI n c i = gI u c i := by
  have cf : ∀ {T : Type} (K : Option T), ck (nI f) 6 K = K := fun K => ck_in (by omega) (by decide)
  have cg : ∀ {T : Type} (K : Option T), ck (nI g) 6 K = K := fun K => ck_in (by omega) (by decide)
  have jf : ix (nI f) = f := ix_n (by omega)
  have jg : ix (nI g) = g := ix_n (by omega)
  refine ⟨sI (sI u 54 f (gI u 54 g)) 54 g (gI u 54 f), ?_, fun i hi => ?_, fun c i hc => by rw [g_far _ _ hc, g_far _ _ hc]⟩
  · unfold f_X7_swap
    simp only [bnd, cf, cg, jf, jg]
  · unfold sw2
    rw [g_sI, g_sI]
    by_cases h1 : i = g
    · subst h1
      simp only [true_and, if_true]
      exact ⟨(hA f hf).1, (hA f hf).2⟩
    · by_cases h2 : i = f
      · subst h2
        simp only [h1, true_and, if_true, if_false]
        exact ⟨(hA g hg).1, (hA g hg).2⟩
      · simp only [h1, h2, true_and, if_false]
        exact hA i hi
theorem rev_v {T : Nat} (hT : T ≤ 6) : ∀ n A i j u, agA T A u → i ≤ T → j < T → j ≤ i + n → ∃ r, wh f_X7_nextOrder_L100 (nI i, nI j, u) = some (1, r) ∧ agA T (rvP n A i j) r ∧ ∀ c i, c ≠ 54 → gI r c i = gI u c i := by
  intro n
  induction n with
  | zero =>
    intro A i j u hA hi hj hn
    refine ⟨u, wh_done ?_, hA, fun _ _ _ => rfl⟩
    unfold f_X7_nextOrder_L100
    simp only [nI_le (show j ≤ i by omega) (show i < 2 ^ 31 by omega), if_true, bz_1]
    rfl
  | succ n ih =>
    intro A i j u hA hi hj hn
    unfold rvP
    by_cases c : j ≤ i
    · rw [if_pos c]
      refine ⟨u, wh_done ?_, hA, fun _ _ _ => rfl⟩
      unfold f_X7_nextOrder_L100
      simp only [nI_le c (show i < 2 ^ 31 by omega), if_true, bz_1]
      rfl
    · rw [if_neg c]
      obtain ⟨r1, s1, s2, s3⟩ := swap_v hT hA (show i < T by omega) hj
      obtain ⟨r, o1, o2, o3⟩ := ih (sw2 A i j) (i + 1) (j - 1) r1 s2 (by omega) (by omega) (by omega)
      have em : nI j + -1 = nI (j - 1) := by
        rw [← Int32.sub_eq_add_neg]
        exact nD_sub (by omega)
      refine ⟨r, (wh_inl ?_).trans o1, o2, fun c i hc => (o3 c i hc).trans (s3 c i hc)⟩
      unfold f_X7_nextOrder_L100
      simp only [nI_ge (show i < j by omega) (show j < 2 ^ 31 by omega), if_false, s1, some_bind, bnd, nI_1, em]
theorem great_v {T f : Nat} {A : Nat → Nat} {u : Mem} (hT : T ≤ 6) (hA : agA T A u) (hf : f < T) : ∀ g, g < T → wh f_X7_nextOrder_L53 (nI f, nI g, u) = f_X7_nextOrder_J79 (nI f) (nI (grP A f g)) u := by
  intro g
  induction g with
  | zero =>
    intro hg
    refine wh_up ?_
    unfold f_X7_nextOrder_L53
    simp only [nI_le (Nat.zero_le f) (show f < 2 ^ 31 by omega), if_true]
    rfl
  | succ g ih =>
    intro hg
    unfold grP
    by_cases c : g + 1 ≤ f
    · rw [if_pos c]
      refine wh_up ?_
      unfold f_X7_nextOrder_L53
      simp only [nI_le c (show f < 2 ^ 31 by omega), if_true]
    · rw [if_neg c]
      have cg : ∀ {T : Type} (K : Option T), ck (nI (g + 1)) 6 K = K := fun K => ck_in (by omega) (by decide)
      have cf : ∀ {T : Type} (K : Option T), ck (nI f) 6 K = K := fun K => ck_in (by omega) (by decide)
      have jf : ix (nI f) = f := ix_n (by omega)
      have jg : ix (nI (g + 1)) = g + 1 := ix_n (by omega)
      obtain ⟨a1, a2⟩ := hA f hf
      obtain ⟨b1, b2⟩ := hA (g + 1) hg
      by_cases d : A f ≤ A (g + 1)
      · rw [if_pos d]
        refine wh_up ?_
        unfold f_X7_nextOrder_L53
        simp only [nI_ge (show f < g + 1 by omega) (show g + 1 < 2 ^ 31 by omega), if_false, cg, cf, jf, jg, a2, b2, nI_le d (show A (g + 1) < 2 ^ 31 by omega), if_true]
      · rw [if_neg d]
        have em : nI (g + 1) + -1 = nI g := by
          rw [← Int32.sub_eq_add_neg]
          exact nI_pred g
        refine (wh_inl ?_).trans (ih (by omega))
        unfold f_X7_nextOrder_L53
        simp only [nI_ge (show f < g + 1 by omega) (show g + 1 < 2 ^ 31 by omega), if_false, cg, cf, jf, jg, a2, b2, nI_ge (show A (g + 1) < A f by omega) (show A f < 2 ^ 31 by omega), bnd, em]
theorem gr_lt (A : Nat → Nat) (f : Nat) : ∀ g, grP A f g ≤ g
  | 0 => Nat.le_refl _
  | g + 1 => by
    unfold grP
    have := gr_lt A f g
    split
    · exact Nat.le_refl _
    · split
      · exact Nat.le_refl _
      · omega
theorem fl_lt (A : Nat → Nat) : ∀ z f, flP A z = some f → f < z
  | 0, f, h => by cases h
  | z + 1, f, h => by
    unfold flP at h
    split at h
    · cases h; omega
    · have := fl_lt A z f h
      omega
theorem fall_v {T : Nat} {A : Nat → Nat} {u : Mem} (hT : T ≤ 6) (hA : agA T A u) : ∀ z, z < T → wh f_X7_nextOrder_L10 (nI z - 1, u) = match flP A z with | none => some (0, u) | some f => f_X7_nextOrder_J37 (nI f) u := by
  intro z
  induction z with
  | zero =>
    intro hz
    refine wh_up ?_
    unfold f_X7_nextOrder_L10
    simp only [show nI 0 - 1 < 0 by decide, if_true]
    rfl
  | succ z ih =>
    intro hz
    have ez : nI (z + 1) - 1 = nI z := nI_pred z
    have cz : ∀ {T : Type} (K : Option T), ck (nI z) 6 K = K := fun K => ck_in (by omega) (by decide)
    have cz1 : ∀ {T : Type} (K : Option T), ck (nI (z + 1)) 6 K = K := fun K => ck_in (by omega) (by decide)
    have jz : ix (nI z) = z := ix_n (by omega)
    have jz1 : ix (nI (z + 1)) = z + 1 := ix_n (by omega)
    obtain ⟨a1, a2⟩ := hA z (by omega)
    obtain ⟨b1, b2⟩ := hA (z + 1) hz
    rw [ez]
    unfold flP
    by_cases d : A z ≤ A (z + 1)
    · rw [if_pos d]
      refine wh_up ?_
      unfold f_X7_nextOrder_L10
      simp only [nn_lt0 (show z < 2 ^ 31 by omega), if_false, cz, nI_1, cz1, jz, jz1, a2, b2, nI_le d (show A (z + 1) < 2 ^ 31 by omega), if_true]
    · rw [if_neg d]
      have em : nI z + -1 = nI z - 1 := by rw [Int32.sub_eq_add_neg]
      refine (wh_inl ?_).trans (ih (by omega))
      unfold f_X7_nextOrder_L10
      simp only [nn_lt0 (show z < 2 ^ 31 by omega), if_false, cz, nI_1, cz1, jz, jz1, a2, b2, nI_ge (show A (z + 1) < A z by omega) (show A z < 2 ^ 31 by omega), bnd, em]
theorem sub2 (t : Nat) : nI (t + 1) - 2 = nI t - 1 := by
  rw [← nI_1 t, Int32.sub_eq_add_neg, Int32.sub_eq_add_neg, Int32.add_assoc]
  rfl
theorem next_o {T : Nat} {A : Nat → Nat} {u : Mem} (hT : T ≤ 6) (hT0 : 0 < T) (h14 : gI u 1 14 = nI T) (hA : agA T A u) : ∃ fl r, f_X7_nextOrder u = some (fl, r) ∧ (∀ c i, c ≠ 54 → gI r c i = gI u c i) ∧ match nxP T A with | none => fl = 0 | some B => fl = 1 ∧ agA T B r := by
  obtain ⟨t, rfl⟩ : ∃ t, T = t + 1 := ⟨T - 1, by omega⟩
  have h0 : f_X7_nextOrder u = match flP A t with | none => some (0, u) | some f => f_X7_nextOrder_J37 (nI f) u := by
    unfold f_X7_nextOrder
    rw [h14, sub2]
    exact fall_v hT hA t (by omega)
  unfold nxP
  rw [Nat.add_sub_cancel]
  cases hf : flP A t with
  | none =>
    rw [hf] at h0
    exact ⟨0, u, h0, fun _ _ _ => rfl, rfl⟩
  | some f =>
    rw [hf] at h0
    have hft := fl_lt A t f hf
    have hg := gr_lt A f t
    obtain ⟨n, s1, s2, s3⟩ := swap_v hT hA (show f < t + 1 by omega) (show grP A f t < t + 1 by omega)
    obtain ⟨r, o1, o2, o3⟩ := rev_v hT 6 (sw2 A f (grP A f t)) (f + 1) t n s2 (by omega) (by omega) (by omega)
    refine ⟨1, r, h0.trans ?_, fun c i hc => (o3 c i hc).trans (s3 c i hc), rfl, o2⟩
    show f_X7_nextOrder_J37 (nI f) u = _
    unfold f_X7_nextOrder_J37
    rw [if_pos (nn_0le (by omega)), h14]
    show wh f_X7_nextOrder_L53 (nI f, nI (t + 1) - 1, u) = _
    rw [nI_pred, great_v hT hA (show f < t + 1 by omega) t (by omega)]
    unfold f_X7_nextOrder_J79
    rw [s1, some_bind]
    show wh f_X7_nextOrder_L100 (nI f + 1, gI n 1 14 - 1, n) = _
    rw [s3 1 14 (by decide), h14, nI_pred, nI_1]
    exact o1
