/-! CARDS -/
def itM (st : Mem → Nat → Mem) (m : Mem) : Nat → Mem
  | 0 => m
  | k + 1 => st (itM st m k) k
theorem wh_it {S T : Type} {body : S → Option (S ⊕ T)} (st : Mem → Nat → Mem) (mk : Mem → Nat → S) (n : Nat) (r : T) (m : Mem) (h1 : ∀ k, k < n → body (mk (itM st m k) k) = some (.inl (mk (st (itM st m k) k) (k + 1)))) (h2 : body (mk (itM st m n) n) = some (.inr r)) : wh body (mk m 0) = some r := by
  have key : ∀ j k, k + j = n → wh body (mk (itM st m k) k) = some r := by
    intro j
    induction j with
    | zero => intro k e; have e2 : k = n := by omega
              subst e2; exact wh_done h2
    | succ j ih => intro k e; exact wh_next (h1 k (by omega)) (ih (k + 1) (by omega))
  exact key n 0 (by omega)
theorem it_I (c : Nat) (g : Int32 → Nat → Int32) (m : Mem) : ∀ n c' i, gI (itM (fun a k => sI a c k (g (gI a c k) k)) m n) c' i = if c' = c ∧ i < n then g (gI m c i) i else gI m c' i := by
  intro n
  induction n with
  | zero => intro c' i; rw [if_neg (by omega)]; rfl
  | succ n ih =>
    intro c' i
    show gI (sI (itM _ m n) c n (g (gI (itM _ m n) c n) n)) c' i = _
    have hself : gI (itM (fun a k => sI a c k (g (gI a c k) k)) m n) c n = gI m c n := by rw [ih c n, if_neg (by omega)]
    rw [g_sI, hself]
    by_cases h : c' = c ∧ i = n
    · obtain ⟨rfl, rfl⟩ := h
      rw [if_pos ⟨rfl, rfl⟩, if_pos ⟨rfl, by omega⟩]
    · rw [if_neg h, ih c' i]
      by_cases h2 : c' = c ∧ i < n
      · rw [if_pos h2, if_pos ⟨h2.1, by omega⟩]
      · rw [if_neg h2, if_neg]
        rintro ⟨q1, q2⟩
        by_cases q3 : i = n
        · exact h ⟨q1, q3⟩
        · exact h2 ⟨q1, by omega⟩
theorem b_1 : ∀ i, i < 32 → bt 1 i = decide (i = 0) := by decide +kernel
theorem b_one {C i : Nat} (hC : C < 32) (hi : i < 32) : bt ((1 : Int32) <<< (nI C &&& 31)) i = decide (i = C) := by
  rw [b_shl C hC 1 hi]
  by_cases h : C ≤ i
  · rw [decide_eq_true h, Bool.true_and, b_1 (i - C) (by omega)]
    by_cases h2 : i = C
    · rw [decide_eq_true h2, decide_eq_true (by omega)]
    · rw [decide_eq_false h2, decide_eq_false (by omega)]
  · rw [decide_eq_false h, Bool.false_and, decide_eq_false (by omega)]
theorem b_put {C i p : Nat} (hC : C < 32) (hp : p < 32) (hi : i < 32) (x : Int32) : bt (((x >>> (nI p &&& 31)) &&& 1) <<< (nI C &&& 31)) i = (decide (i = C) && bt x p) := by
  rw [b_shl C hC _ hi]
  by_cases h : C ≤ i
  · rw [decide_eq_true h, Bool.true_and, b_and, b_1 (i - C) (by omega)]
    by_cases h2 : i = C
    · subst h2
      rw [decide_eq_true rfl, decide_eq_true (by omega), Bool.and_true, Bool.true_and, b_sshr p hp x (by omega), if_pos (by omega)]
      congr 1
      omega
    · rw [decide_eq_false h2, decide_eq_false (by omega), Bool.and_false, Bool.false_and]
  · rw [decide_eq_false h, Bool.false_and, decide_eq_false (by omega), Bool.false_and]
/-- the cards as bits, by person and by thing -/
def ITb (C : Nat) (m : Mem) : Prop := (∀ p, p < 10 → ∀ i, i < 32 → bt (gI m 12 p) i = (decide (i < C) && bt (gI m 10 i) p)) ∧ ∀ t, t < 6 → ∀ i, i < 32 → bt (gI m 13 t) i = (decide (i < C) && decide (gI m 8 i = nI t))
theorem addCard_v {P T C V t x : Nat} {c : Int32} {m m' : Mem} (h : ITn2 P T C V m m') (hc : ITc2 T C m m') (hb : ITb C m) (hC : C < 20) (ht : t < T) (hx : x < 1024) (hc1 : -9 ≤ c) (hc2 : c ≤ 9) : ∃ n n', f_X6_addCard (nI t) c (nI x) m = some (nI C, n) ∧ f_X9_adds (nI t) c (nI x) m' = some n' ∧ ITn2 P T (C + 1) (V + 1) n n' ∧ ITc2 T (C + 1) n n' ∧ ITb (C + 1) n := by
  obtain ⟨⟨n1, n2, n3⟩, ⟨n4, n5, n6⟩, ⟨n7, n8, n9⟩, n0⟩ := h
  have e1 : ∀ {T' : Type} (K : Option T'), ck (nI C) 20 K = K := fun K => ck_in hC (by decide)
  have e2 : ∀ {T' : Type} (K : Option T'), ck (nI t) 6 K = K := fun K => ck_in (by omega) (by decide)
  have i1 : ix (nI C) = C := ix_n (by omega)
  have i2 : ix (nI t) = t := ix_n (by omega)
  let b0 := sI (sI (sI (sI m 8 C (nI t)) 9 C c) 10 C (nI x)) 13 t (gI m 13 t ||| ((1 : Int32) <<< (nI C &&& 31)))
  let g : Int32 → Nat → Int32 := fun y k => y ||| (((nI x >>> (nI k &&& 31)) &&& 1) <<< (nI C &&& 31))
  let st : Mem → Nat → Mem := fun a k => sI a 12 k (g (gI a 12 k) k)
  have hit : ∀ n c' i, gI (itM st b0 n) c' i = if c' = 12 ∧ i < n then g (gI b0 12 i) i else gI b0 c' i := it_I 12 g b0
  have h15 : ∀ n, gI (itM st b0 n) 1 15 = nI C := fun n => by rw [hit, if_neg (fun q => absurd q.1 (by decide))]; simp only [b0, g_sI, gJ_sI, gI_sJ, gJ_sJ, Nat.reduceEqDiff, false_and, and_false, true_and, and_true, if_false, if_true, reduceIte, not_false_eq_true, not_true_eq_false]; exact n7
  have h16 : ∀ n, gI (itM st b0 n) 1 16 = nI V := fun n => by rw [hit, if_neg (fun q => absurd q.1 (by decide))]; simp only [b0, g_sI, gJ_sI, gI_sJ, gJ_sJ, Nat.reduceEqDiff, false_and, and_false, true_and, and_true, if_false, if_true, reduceIte, not_false_eq_true, not_true_eq_false]; exact n0
  have hloop : wh f_X6_addCard_L48 (nI x, nI 0, b0) = some (nI C, sI (sI (itM st b0 10) 1 16 (nI (V + 1))) 1 15 (nI (C + 1))) := by
    refine wh_it st (fun a k => (nI x, nI k, a)) 10 _ b0 (fun k hk => ?_) ?_
    · unfold f_X6_addCard_L48
      have q : ¬ (10 : Int32) ≤ nI k := Int32.not_le.mpr (lt_lit (n := 10) rfl (by decide) hk)
      simp only [q, bnd, some_bind, g_sI, gJ_sI, gI_sJ, gJ_sJ, Nat.reduceEqDiff, false_and, and_false, true_and, and_true, if_false, if_true, reduceIte, not_false_eq_true, not_true_eq_false, ck_in hk (show 10 < 2 ^ 31 by decide), ix_n (show k < 2 ^ 31 by omega), h15, nI_1]
      rfl
    · unfold f_X6_addCard_L48
      simp only [show (10 : Int32) ≤ nI 10 by decide, bnd, some_bind, g_sI, gJ_sI, gI_sJ, gJ_sJ, Nat.reduceEqDiff, false_and, and_false, true_and, and_true, if_false, if_true, reduceIte, not_false_eq_true, not_true_eq_false, h15, h16, nI_1]
      rfl
  have hX : f_X6_addCard (nI t) c (nI x) m = some (nI C, sI (sI (itM st b0 10) 1 16 (nI (V + 1))) 1 15 (nI (C + 1))) := by
    unfold f_X6_addCard
    simp only [bnd, some_bind, g_sI, gJ_sI, gI_sJ, gJ_sJ, Nat.reduceEqDiff, false_and, and_false, true_and, and_true, if_false, if_true, reduceIte, not_false_eq_true, not_true_eq_false, n7, e1, e2, i1, i2]
    exact hloop
  have hY : f_X9_adds (nI t) c (nI x) m' = some (sI (sI (sI (sI m' 91 C (nI t)) 92 C c) 93 C (nI x)) 85 9 (nI (C + 1))) := by
    unfold f_X9_adds
    simp only [bnd, some_bind, g_sI, gJ_sI, gI_sJ, gJ_sJ, Nat.reduceEqDiff, false_and, and_false, true_and, and_true, if_false, if_true, reduceIte, not_false_eq_true, not_true_eq_false, n8, e1, i1, nI_1]
  refine ⟨_, _, hX, hY, ⟨⟨?_, ?_, n3⟩, ⟨?_, ?_, n6⟩, ⟨?_, ?_, by omega⟩, ?_⟩, fun k hk => ?_, fun p hp i hi => ?_, fun u hu i hi => ?_⟩
  · simp only [g_sI, gJ_sI, gI_sJ, gJ_sJ, Nat.reduceEqDiff, false_and, and_false, true_and, and_true, if_false, if_true, reduceIte, not_false_eq_true, not_true_eq_false, hit, b0, n1]
  · simp only [g_sI, gJ_sI, gI_sJ, gJ_sJ, Nat.reduceEqDiff, false_and, and_false, true_and, and_true, if_false, if_true, reduceIte, not_false_eq_true, not_true_eq_false, n2]
  · simp only [g_sI, gJ_sI, gI_sJ, gJ_sJ, Nat.reduceEqDiff, false_and, and_false, true_and, and_true, if_false, if_true, reduceIte, not_false_eq_true, not_true_eq_false, hit, b0, n4]
  · simp only [g_sI, gJ_sI, gI_sJ, gJ_sJ, Nat.reduceEqDiff, false_and, and_false, true_and, and_true, if_false, if_true, reduceIte, not_false_eq_true, not_true_eq_false, n5]
  · simp only [g_sI, gJ_sI, gI_sJ, gJ_sJ, Nat.reduceEqDiff, false_and, and_false, true_and, and_true, if_false, if_true, reduceIte, not_false_eq_true, not_true_eq_false]
  · simp only [g_sI, gJ_sI, gI_sJ, gJ_sJ, Nat.reduceEqDiff, false_and, and_false, true_and, and_true, if_false, if_true, reduceIte, not_false_eq_true, not_true_eq_false]
  · simp only [g_sI, gJ_sI, gI_sJ, gJ_sJ, Nat.reduceEqDiff, false_and, and_false, true_and, and_true, if_false, if_true, reduceIte, not_false_eq_true, not_true_eq_false]
  · have := hc k hk
    simp only [g_sI, gJ_sI, gI_sJ, gJ_sJ, Nat.reduceEqDiff, false_and, and_false, true_and, and_true, if_false, if_true, reduceIte, not_false_eq_true, not_true_eq_false, hit, b0]
    by_cases hkC : k = C
    · subst hkC
      simp only [Nat.reduceEqDiff, false_and, and_false, true_and, and_true, if_false, if_true, reduceIte, not_false_eq_true, not_true_eq_false]
      exact ⟨fun _ => ⟨t, ht, rfl⟩, ⟨hc1, hc2⟩, x, hx, rfl⟩
    · simp only [hkC, Nat.reduceEqDiff, false_and, and_false, true_and, and_true, if_false, if_true, reduceIte, not_false_eq_true, not_true_eq_false]
      exact ⟨this.1, fun hk1 => this.2.1 (by omega), this.2.2⟩
  · have := hb.1 p hp i hi
    have dC : ¬ i = C → decide (i < C + 1) = decide (i < C) := fun h => decide_eq_decide.mpr ⟨fun _ => by omega, fun _ => by omega⟩
    simp only [g_sI, gJ_sI, gI_sJ, gJ_sJ, Nat.reduceEqDiff, false_and, and_false, true_and, and_true, if_false, if_true, reduceIte, not_false_eq_true, not_true_eq_false, hit, b0, hp, g]
    rw [b_or, b_put (by omega) (by omega) hi, this]
    by_cases hiC : i = C
    · subst hiC
      simp
    · simp [hiC, dC hiC]
  · have := hb.2 u hu i hi
    have dC : ¬ i = C → decide (i < C + 1) = decide (i < C) := fun h => decide_eq_decide.mpr ⟨fun _ => by omega, fun _ => by omega⟩
    simp only [g_sI, gJ_sI, gI_sJ, gJ_sJ, Nat.reduceEqDiff, false_and, and_false, true_and, and_true, if_false, if_true, reduceIte, not_false_eq_true, not_true_eq_false, hit, b0]
    by_cases hut : u = t
    · subst hut
      rw [if_pos rfl, b_or, b_one (by omega) hi, this]
      by_cases hiC : i = C
      · subst hiC
        simp
      · simp [hiC, dC hiC]
    · rw [if_neg hut, this]
      by_cases hiC : i = C
      · subst hiC
        have h2 : ¬ nI t = nI u := fun q => hut ((eq_nn (by omega) (by omega)).mp q).symm
        simp [h2]
      · simp [hiC, dC hiC]
