/-! QUESTIONS OF THE TABLE -/
/-- the reference's question for a number below a count -/
theorem below_y {n k : Nat} (hn : n ≤ 1000) (hk : k < n) (m : Mem) : f_X9_within (nI k).toInt64 0 (nI n - 1).toInt64 m = some (1, m) := by
  obtain ⟨b, rfl⟩ : ∃ b, n = b + 1 := ⟨n - 1, by omega⟩
  rw [nI_pred b, wi_ok (n := b) rfl (by omega) (by omega)]
theorem below_n {n : Nat} {p : Int32} (hn : n ≤ 1000) (hp : p < 0 ∨ nI n ≤ p) (m : Mem) : f_X9_within p.toInt64 0 (nI n - 1).toInt64 m = some (0, m) := by
  have e : decide (¬ p < (0 : Int32) ∧ ¬ (nI n - 1) < p) = false := by
    refine decide_eq_false (fun q => ?_)
    rcases hp with hp | hp
    · exact q.1 hp
    · refine q.2 ?_
      rcases Nat.eq_zero_or_pos n with rfl | h0
      · exact Int32.lt_of_lt_of_le (b := 0) (by decide) hp
      · obtain ⟨b, rfl⟩ : ∃ b, n = b + 1 := ⟨n - 1, by omega⟩
        rw [nI_pred b]
        exact Int32.lt_of_lt_of_le (nI_lt (Nat.lt_succ_self b) (by omega)) hp
  rw [show (0 : Int64) = (0 : Int32).toInt64 from rfl, wi_hi, e]
  rfl
theorem isPerson_y {P k : Nat} {m : Mem} (h : gI m 85 6 = nI P) (hP : P ≤ 10) (hk : k < P) : f_X9_isPerson (nI k) m = some (1, m) := by
  unfold f_X9_isPerson
  rw [h, below_y (by omega) hk, some_bind]; exact bz_1
theorem isPerson_n {P : Nat} {p : Int32} {m : Mem} (h : gI m 85 6 = nI P) (hP : P ≤ 10) (hp : p < 0 ∨ nI P ≤ p) : f_X9_isPerson p m = some (0, m) := by
  unfold f_X9_isPerson
  rw [h, below_n (by omega) hp, some_bind]; exact bz_0
theorem isThing_y {P k : Nat} {m : Mem} (h : gI m 85 8 = nI P) (hP : P ≤ 6) (hk : k < P) : f_X9_isThing (nI k) m = some (1, m) := by
  unfold f_X9_isThing
  rw [h, below_y (by omega) hk, some_bind]; exact bz_1
theorem isThing_n {P : Nat} {p : Int32} {m : Mem} (h : gI m 85 8 = nI P) (hP : P ≤ 6) (hp : p < 0 ∨ nI P ≤ p) : f_X9_isThing p m = some (0, m) := by
  unfold f_X9_isThing
  rw [h, below_n (by omega) hp, some_bind]; exact bz_0
theorem isCard_y {P k : Nat} {m : Mem} (h : gI m 85 9 = nI P) (hP : P ≤ 20) (hk : k < P) : f_X9_isCard (nI k) m = some (1, m) := by
  unfold f_X9_isCard
  rw [h, below_y (by omega) hk, some_bind]; exact bz_1
theorem isCard_n {P : Nat} {p : Int32} {m : Mem} (h : gI m 85 9 = nI P) (hP : P ≤ 20) (hp : p < 0 ∨ nI P ≤ p) : f_X9_isCard p m = some (0, m) := by
  unfold f_X9_isCard
  rw [h, below_n (by omega) hp, some_bind]; exact bz_0
theorem sw_all {α : Type} {m : Mem} {x : Int32} {d : Option (α × Mem)} (hd : ∃ v, d = some (v, m)) : ∀ {l : List (Int32 × Option (α × Mem))}, (∀ q ∈ l, ∃ v, q.2 = some (v, m)) → ∃ v, sw x l d = some (v, m)
  | [], _ => hd
  | q :: l, h => by
    unfold sw
    by_cases hx : x = q.1
    · rw [if_pos hx]; exact h q List.mem_cons_self
    · rw [if_neg hx]; exact sw_all hd (fun q hq => h q (List.mem_cons_of_mem _ hq))
theorem op_count {P T C V B : Nat} {m : Mem} (h : ITn P T C V m) (hA : IA B m) (hL : gI m 14 2 = gI m 85 17) (hD : gI m 19 4 = gI m 85 5) (a : Int32) : ∃ v, f_X8_count a m = some (v, m) ∧ f_X9_count a m = some (v, m) := by
  obtain ⟨⟨n1, n2, n3⟩, ⟨n4, n5, n6⟩, ⟨n7, n8, n9⟩, n0⟩ := h
  obtain ⟨⟨a1, a2, a3⟩, -, ⟨R, r1, r2, r3⟩, -⟩ := hA
  have e : f_X9_count a m = f_X8_count a m := by
    unfold f_X8_count f_X9_count
    rw [n1, n2, n4, n5, n7, n8, hL, hD, a1, a2, r2, r3]
  rw [e]
  have : ∃ v, f_X8_count a m = some (v, m) := by
    unfold f_X8_count
    refine sw_all ⟨_, rfl⟩ (fun q hq => ?_)
    simp only [List.mem_cons, List.not_mem_nil, or_false] at hq
    rcases hq with rfl | rfl | rfl | rfl | rfl | rfl | rfl <;> exact ⟨_, rfl⟩
  obtain ⟨v, hv⟩ := this
  exact ⟨v, hv, hv⟩
theorem n30 {k : Nat} (c : Nat) {C : Int32} (hC : C = nI c) : C + nI k = nI (c + k) := by rw [hC, nI_add]
theorem of_person {P T C V : Nat} {m : Mem} (h : ITn P T C V m) (hp : ITp m) (a : Int32) (w : Nat) (hw : w < 4) : ∃ v, f_X8_of a (nI w) m = some (v, m) ∧ f_X9_of a (nI w) m = some (v, m) := by
  obtain ⟨⟨n1, n2, n3⟩, -⟩ := h
  have q1 : ¬ nI w < 0 := nn_lt0 (by omega)
  have q2 : ¬ (3 : Int32) < nI w := fun q => by have := (lt_nn (a := 3) (by decide) (by omega)).mp q; omega
  by_cases ha : a < 0 ∨ nI P ≤ a
  · refine ⟨-2000000000, ?_, ?_⟩
    · unfold f_X8_of
      by_cases a0 : 0 ≤ a
      · rw [if_pos a0, if_neg q1, if_neg q2, n1, if_pos (ha.resolve_left (Int32.not_lt.mpr a0))]
      · rw [if_neg a0]
    · unfold f_X9_of
      have := isPerson_n n2 n3 ha
      have hw4 : w = 0 ∨ w = 1 ∨ w = 2 ∨ w = 3 := by omega
      rcases hw4 with rfl | rfl | rfl | rfl <;> (simp only [this]; rfl)
  · obtain ⟨k, hk, rfl⟩ := nn_of2 (n := P) (by omega) (Int32.not_lt.mp fun q => ha (Or.inl q)) (Int32.not_le.mp fun q => ha (Or.inr q))
    have hy := isPerson_y n2 n3 hk
    obtain ⟨⟨p1, p2, p3, p4⟩, -⟩ := hp k (by omega)
    have e1 : ∀ {T' : Type} (K : Option T'), ck (nI k) 10 K = K := fun K => ck_in (by omega) (by decide)
    have e2 : ∀ {T' : Type} (K : Option T'), ck (nI k) 42 K = K := fun K => ck_in (by omega) (by decide)
    have e3 : ∀ {T' : Type} (K : Option T'), ck (nI (10 + k)) 42 K = K := fun K => ck_in (by omega) (by decide)
    have e4 : ∀ {T' : Type} (K : Option T'), ck (nI (20 + k)) 42 K = K := fun K => ck_in (by omega) (by decide)
    have i1 : ix (nI k) = k := ix_n (by omega)
    have i2 : ix (nI (10 + k)) = 10 + k := ix_n (by omega)
    have i3 : ix (nI (20 + k)) = 20 + k := ix_n (by omega)
    have n10 : ¬ ((1 : Int32) = 0) := by decide
    have hX : f_X8_of (nI k) (nI w) m = (f_X6_ofPerson (nI k) (nI w) m).bind (fun q2 => some (q2.1, q2.2)) := by
      unfold f_X8_of
      rw [if_pos (nn_0le (by omega)), if_neg q1, if_neg q2, n1, if_neg (nI_ge hk (by omega))]
    rw [hX]
    unfold f_X6_ofPerson f_X9_of
    simp only [hy, some_bind, n10, if_false, n30 10 (C := 10) rfl, n30 20 (C := 20) rfl, e1, e2, e3, e4, i1, i2, i3]
    have hw4 : w = 0 ∨ w = 1 ∨ w = 2 ∨ w = 3 := by omega
    rcases hw4 with rfl | rfl | rfl | rfl
    · exact ⟨gI m 2 k, rfl, by rw [p1]; rfl⟩
    · exact ⟨gI m 3 k, rfl, by rw [p2]; rfl⟩
    · exact ⟨gI m 4 k, rfl, by rw [p4]; rfl⟩
    · exact ⟨gI m 5 k, rfl, by rw [p3]; rfl⟩
theorem of_thing {P T C V : Nat} {m : Mem} (h : ITn P T C V m) (hp : ITt m) (a : Int32) (w : Nat) (hw : w = 10 ∨ w = 11) : ∃ v, f_X8_of a (nI w) m = some (v, m) ∧ f_X9_of a (nI w) m = some (v, m) := by
  obtain ⟨-, ⟨n1, n2, n3⟩, -⟩ := h
  have q1 : ¬ nI w < 0 := nn_lt0 (by omega)
  have q2 : (3 : Int32) < nI w := (lt_nn (a := 3) (by decide) (by omega)).mpr (by omega)
  have hX : f_X8_of a (nI w) m = if 0 ≤ a then (if nI T ≤ a then some (-2000000000, m) else if w = 10 then ck a 6 (some (gI m 6 (ix a), m)) else ck a 6 (some (gI m 7 (ix a), m))) else some (-2000000000, m) := by
    unfold f_X8_of f_X8_of_J42 f_X8_of_J54
    simp only [q1, q2, Nat.reduceEqDiff, false_and, and_false, true_and, and_true, if_false, if_true, reduceIte, not_false_eq_true, not_true_eq_false, n1]
    rcases hw with rfl | rfl <;> rfl
  by_cases ha : a < 0 ∨ nI T ≤ a
  · refine ⟨-2000000000, ?_, ?_⟩
    · rw [hX]
      by_cases a0 : 0 ≤ a
      · rw [if_pos a0, if_pos (ha.resolve_left (Int32.not_lt.mpr a0))]
      · rw [if_neg a0]
    · unfold f_X9_of
      have := isThing_n n2 n3 ha
      rcases hw with rfl | rfl <;> (simp only [this]; rfl)
  · obtain ⟨k, hk, rfl⟩ := nn_of2 (n := T) (by omega) (Int32.not_lt.mp fun q => ha (Or.inl q)) (Int32.not_le.mp fun q => ha (Or.inr q))
    have hy := isThing_y n2 n3 hk
    obtain ⟨⟨p1, p2⟩, -⟩ := hp k (by omega)
    have e1 : ∀ {T' : Type} (K : Option T'), ck (nI k) 6 K = K := fun K => ck_in (by omega) (by decide)
    have e3 : ∀ {T' : Type} (K : Option T'), ck (nI (30 + k)) 42 K = K := fun K => ck_in (by omega) (by decide)
    have e4 : ∀ {T' : Type} (K : Option T'), ck (nI (36 + k)) 42 K = K := fun K => ck_in (by omega) (by decide)
    have i1 : ix (nI k) = k := ix_n (by omega)
    have i2 : ix (nI (30 + k)) = 30 + k := ix_n (by omega)
    have i3 : ix (nI (36 + k)) = 36 + k := ix_n (by omega)
    have n10 : ¬ ((1 : Int32) = 0) := by decide
    rw [hX, if_pos (nn_0le (by omega)), if_neg (nI_ge hk (by omega)), e1, e1, i1]
    unfold f_X9_of
    simp only [hy, some_bind, n10, if_false, n30 30 (C := 30) rfl, n30 36 (C := 36) rfl, e3, e4, i2, i3]
    rcases hw with rfl | rfl
    · exact ⟨gI m 6 k, rfl, by rw [p1]; rfl⟩
    · exact ⟨gI m 7 k, rfl, by rw [p2]; rfl⟩
theorem of_card {P T C V : Nat} {m : Mem} (h : ITn P T C V m) (hp : ITc T C m) (a : Int32) (w : Nat) (hw : w = 20 ∨ w = 21 ∨ w = 22) : ∃ v, f_X8_of a (nI w) m = some (v, m) ∧ f_X9_of a (nI w) m = some (v, m) := by
  obtain ⟨-, -, ⟨n1, n2, n3⟩, -⟩ := h
  have q1 : ¬ nI w < 0 := nn_lt0 (by omega)
  have q2 : (3 : Int32) < nI w := (lt_nn (a := 3) (by decide) (by omega)).mpr (by omega)
  have hX : f_X8_of a (nI w) m = if 0 ≤ a then (if nI C ≤ a then some (-2000000000, m) else (f_X6_ofCard a (nI w) m).bind (fun q => some (q.1, q.2))) else some (-2000000000, m) := by
    unfold f_X8_of f_X8_of_J42
    simp only [q1, q2, Nat.reduceEqDiff, false_and, and_false, true_and, and_true, if_false, if_true, reduceIte, not_false_eq_true, not_true_eq_false, n1]
    rcases hw with rfl | rfl | rfl <;> rfl
  by_cases ha : a < 0 ∨ nI C ≤ a
  · refine ⟨-2000000000, ?_, ?_⟩
    · rw [hX]
      by_cases a0 : 0 ≤ a
      · rw [if_pos a0, if_pos (ha.resolve_left (Int32.not_lt.mpr a0))]
      · rw [if_neg a0]
    · unfold f_X9_of
      have := isCard_n n2 n3 ha
      rcases hw with rfl | rfl | rfl <;> (simp only [this]; rfl)
  · obtain ⟨k, hk, rfl⟩ := nn_of2 (n := C) (by omega) (Int32.not_lt.mp fun q => ha (Or.inl q)) (Int32.not_le.mp fun q => ha (Or.inr q))
    have hy := isCard_y n2 n3 hk
    obtain ⟨⟨p1, p2, p3⟩, -⟩ := hp k (by omega)
    have e1 : ∀ {T' : Type} (K : Option T'), ck (nI k) 20 K = K := fun K => ck_in (by omega) (by decide)
    have i1 : ix (nI k) = k := ix_n (by omega)
    have n10 : ¬ ((1 : Int32) = 0) := by decide
    rw [hX, if_pos (nn_0le (by omega)), if_neg (nI_ge hk (by omega))]
    unfold f_X6_ofCard f_X9_of
    simp only [hy, some_bind, n10, if_false, e1, i1]
    rcases hw with rfl | rfl | rfl
    · exact ⟨gI m 8 k, rfl, by rw [p1]; rfl⟩
    · exact ⟨gI m 9 k, rfl, by rw [p2]; rfl⟩
    · exact ⟨gI m 10 k, rfl, by rw [p3]; rfl⟩
theorem sw_no {α : Type} {x : Int32} {d : Option α} : ∀ {l : List (Int32 × Option α)}, (∀ q ∈ l, x = q.1 → q.2 = d) → sw x l d = d
  | [], _ => rfl
  | q :: l, h => by
    unfold sw
    by_cases hx : x = q.1
    · rw [if_pos hx]; exact h q List.mem_cons_self hx
    · rw [if_neg hx]; exact sw_no (fun q hq => h q (List.mem_cons_of_mem _ hq))
theorem op_of {P T C V : Nat} {m : Mem} (h : ITn P T C V m) (h1 : ITp m) (h2 : ITt m) (h3 : ITc T C m) (a w : Int32) : ∃ v, f_X8_of a w m = some (v, m) ∧ f_X9_of a w m = some (v, m) := by
  by_cases c1 : w = 0
  · subst c1; exact of_person h h1 a 0 (by omega)
  by_cases c2 : w = 1
  · subst c2; exact of_person h h1 a 1 (by omega)
  by_cases c3 : w = 2
  · subst c3; exact of_person h h1 a 2 (by omega)
  by_cases c4 : w = 3
  · subst c4; exact of_person h h1 a 3 (by omega)
  by_cases c5 : w = 10
  · subst c5; exact of_thing h h2 a 10 (by omega)
  by_cases c6 : w = 11
  · subst c6; exact of_thing h h2 a 11 (by omega)
  by_cases c7 : w = 20
  · subst c7; exact of_card h h3 a 20 (by omega)
  by_cases c8 : w = 21
  · subst c8; exact of_card h h3 a 21 (by omega)
  by_cases c9 : w = 22
  · subst c9; exact of_card h h3 a 22 (by omega)
  have b1 : w < 0 ∨ (3 : Int32) < w := by
    rcases nn_cases 3 (by decide) w with ⟨k, hk, rfl⟩ | q
    · have : k = 0 ∨ k = 1 ∨ k = 2 ∨ k = 3 := by omega
      rcases this with rfl | rfl | rfl | rfl
      · exact absurd rfl c1
      · exact absurd rfl c2
      · exact absurd rfl c3
      · exact absurd rfl c4
    · exact q
  have b2 : w < 20 ∨ (22 : Int32) < w := by
    rcases nn_cases 22 (by decide) w with ⟨k, hk, rfl⟩ | q
    · by_cases hk2 : k < 20
      · exact Or.inl (lt_lit (n := 20) rfl (by decide) hk2)
      · have : k = 20 ∨ k = 21 ∨ k = 22 := by omega
        rcases this with rfl | rfl | rfl
        · exact absurd rfl c7
        · exact absurd rfl c8
        · exact absurd rfl c9
    · rcases q with q | q
      · exact Or.inl (Int32.lt_trans q (by decide))
      · exact Or.inr q
  refine ⟨-2000000000, ?_, ?_⟩
  · unfold f_X8_of f_X8_of_J42
    by_cases a0 : 0 ≤ a
    · have j : (if w = 10 then f_X8_of_J54 a w m else if ¬ w = 11 then if w < 20 then some ((-2000000000 : Int32), m) else if (22 : Int32) < w then some ((-2000000000 : Int32), m) else if (gI m 1 15) ≤ a then some ((-2000000000 : Int32), m) else (f_X6_ofCard a w m).bind (fun q1 => some (q1.1, q1.2)) else f_X8_of_J54 a w m) = some (-2000000000, m) := by
        rw [if_neg c5, if_pos c6]
        rcases b2 with q | q
        · rw [if_pos q]
        · by_cases q0 : w < 20
          · rw [if_pos q0]
          · rw [if_neg q0, if_pos q]
      rw [if_pos a0, j]
      rcases b1 with q | q
      · rw [if_pos q]
      · by_cases q0 : w < 0
        · rw [if_pos q0]
        · rw [if_neg q0, if_pos q]
    · rw [if_neg a0]
  · unfold f_X9_of
    refine sw_no (fun q hq hw => ?_)
    simp only [List.mem_cons, List.not_mem_nil, or_false] at hq
    rcases hq with rfl | rfl | rfl | rfl | rfl | rfl | rfl | rfl | rfl | rfl | rfl | rfl | rfl | rfl | rfl | rfl | rfl | rfl | rfl | rfl | rfl | rfl | rfl <;> first | rfl | exact absurd hw c1 | exact absurd hw c2 | exact absurd hw c3 | exact absurd hw c4 | exact absurd hw c5 | exact absurd hw c6 | exact absurd hw c7 | exact absurd hw c8 | exact absurd hw c9
