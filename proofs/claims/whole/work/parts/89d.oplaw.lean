/-! THE CALL LAW, and a wish by the law in force -/
def IL0 (m m' : Mem) : Prop := (gI m 14 5 = 0 ∧ gI m' 85 19 = -1) ∨ ∃ (L : Nat) (τ : Nat → Nat) (c : List Nat) (v : Val), L ≤ 120 ∧ (∀ i, i < L → τ i ≤ 255) ∧ gI m 14 5 = nI c.length ∧ 0 < c.length ∧ c.length ≤ 128 ∧ (∀ i, i < c.length → gI m (cC m.2.2) i = nI (c.getD i 0)) ∧ RTx c v ∧ gI m' 85 19 = nI L ∧ (∀ i, i < L → gI m' 95 i = nI (τ i)) ∧ EN L (txR (opR (bet L τ) 6) (bet L τ) (L + 1) 0) = .inr (c, v)
theorem IL0_cong {m m' n n' : Mem} (h : IL0 m m') (h5 : gI n 14 5 = gI m 14 5) (hf : n.2.2 = m.2.2) (hc : ∀ i, gI n (cC m.2.2) i = gI m (cC m.2.2) i) (h19 : gI n' 85 19 = gI m' 85 19) (h95 : ∀ i, gI n' 95 i = gI m' 95 i) : IL0 n n' := by
  rcases h with ⟨a, b⟩ | ⟨L, τ, c, v, a1, a2, a3, a4, a5, a6, a7, a8, a9, a10⟩
  · exact Or.inl ⟨h5.trans a, h19.trans b⟩
  · exact Or.inr ⟨L, τ, c, v, a1, a2, h5.trans a3, a4, a5, fun i hi => by rw [hf, hc i]; exact a6 i hi, a7, h19.trans a8, fun i hi => (h95 i).trans (a9 i hi), a10⟩
theorem IL_of {m m' : Mem} (h : IL0 m m') : IL m m' := by
  rcases h with ⟨a, b⟩ | ⟨L, τ, c, v, a1, a2, a3, a4, a5, a6, a7, a8, a9, a10⟩
  · refine ⟨fun N => ((10 : Int32) * N 3 + N 2 + N 1) - 5 * N 4, fun n ag hag hs => ⟨n, ?_⟩, fun n' p t c s u x hp ht hs N h0 h1 h2 h3 h4 h5 h6 h7 => ⟨n', ?_⟩⟩
    · unfold f_X2_value
      rw [hs.1, a, if_neg (fun z => z rfl)]
      refine (ckb (fun K => ck_in (k := 3) (show 3 < 8 by decide) (by decide)) (ckb (fun K => ck_in (k := 2) (show 2 < 8 by decide) (by decide)) (ckb (fun K => ck_in (k := 1) (show 1 < 8 by decide) (by decide)) (ckb (fun K => ck_in (k := 4) (show 4 < 8 by decide) (by decide)) ?_))))
      rfl
    · unfold f_X9_wishOf
      have e1 : (36 : Int32) + nI t = nI (36 + t) := nI_add 36 t
      have e2 : (10 : Int32) + nI p = nI (10 + p) := nI_add 10 p
      rw [e1, e2, ck_in (show 36 + t < 42 by omega) (by decide), ix_n (by omega)]
      refine bn ?_
      rw [ck_in (show 10 + p < 42 by omega) (by decide), ix_n (by omega)]
      refine bn ?_
      rw [hs.1, b, if_neg (show ¬ (0 : Int32) ≤ -1 by decide)]
      dsimp only
      rw [h1, h2, h3, h4]
  · refine ⟨v, fun n ag hag hs => ?_, fun n' p t cc s u x hp ht hs N h0 h1 h2 h3 h4 h5 h6 h7 => ?_⟩
    · have hcc : ∀ i, gI n (cC n.2.2) i = gI m (cC m.2.2) i := fun i => by
        rw [hs.2.2.2]
        cases m.2.2
        · exact hs.2.1 i
        · exact hs.2.2.1 i
      obtain ⟨n1, o1⟩ := a7.2 ag n 0 c.length hag (Nat.zero_add _) a5 (hs.1.trans a3) (fun i hi => by rw [Nat.zero_add, hcc]; exact a6 i hi)
      refine ⟨n1, ?_⟩
      unfold f_X2_value
      rw [hs.1, a3, if_pos (show ¬ nI c.length = 0 from fun z => by have := (eq_nn (a := c.length) (b := 0) (by omega) (by decide)).mp z; omega)]
      exact o1
    · have e1 : (36 : Int32) + nI t = nI (36 + t) := nI_add 36 t
      have e2 : (10 : Int32) + nI p = nI (10 + p) := nI_add 10 p
      obtain ⟨M, hM⟩ : ∃ M, M = sI (sI (sI (sI (sI (sI (sI (sI n' 96 0 (gI n' 86 p)) 96 1 (gI n' 86 (10 + p))) 96 2 (gI n' 86 (36 + t))) 96 3 cc) 96 4 s) 96 5 u) 96 6 (nI p)) 96 7 x := ⟨_, rfl⟩
      have far : ∀ k i, k ≠ 96 → gI M k i = gI n' k i := fun k i hk => by
        rw [hM, g_far _ _ hk, g_far _ _ hk, g_far _ _ hk, g_far _ _ hk, g_far _ _ hk, g_far _ _ hk, g_far _ _ hk, g_far _ _ hk]
      have hL19 : gI M 85 19 = nI L := by rw [far 85 19 (by decide), hs.1, a8]
      obtain ⟨y, n, o1, o2, o3, o4⟩ := workOut_X (b := true) (N := fun j => gI M 96 j) a1 a2 (m := M) (fun i hi => by
        show gI M 95 i = _
        rw [far 95 i (by decide), hs.2 i]; exact a9 i hi) (fun _ => rfl)
      rw [a10] at o4
      obtain ⟨q1, q2⟩ := (show gI n 85 23 = -1 ∧ y = if (0 : Int32) = 0 then v (fun j => gI M 96 j) else 0 from o4)
      rw [if_pos rfl] at q2
      have hN : v (fun j => gI M 96 j) = v N := a7.1 _ _ (fun j hj => by
        show gI M 96 j = N j
        obtain rfl | rfl | rfl | rfl | rfl | rfl | rfl | rfl : j = 0 ∨ j = 1 ∨ j = 2 ∨ j = 3 ∨ j = 4 ∨ j = 5 ∨ j = 6 ∨ j = 7 := by omega
        all_goals (rw [hM]; simp only [g_sI, gJ_sI, gI_sJ, gJ_sJ, Nat.reduceEqDiff, false_and, and_false, true_and, and_true, if_false, if_true, reduceIte, not_false_eq_true, not_true_eq_false]; symm; assumption))
      refine ⟨n, ?_⟩
      unfold f_X9_wishOf
      rw [e1, e2, ck_in (show 36 + t < 42 by omega) (by decide), ix_n (by omega)]
      refine bn ?_
      rw [ck_in (show 10 + p < 42 by omega) (by decide), ix_n (by omega)]
      refine bn ?_
      rw [hs.1, a8, if_pos (nn_0le (by omega)), ck_in (show p < 42 by omega) (by decide), ix_n (show p < 2 ^ 31 by omega)]
      refine ckb (fun K => ck_in (k := 0) (show 0 < 8 by decide) (by decide)) (bn (ckb (fun K => ck_in (k := 1) (show 1 < 8 by decide) (by decide)) (bn (ckb (fun K => ck_in (k := 2) (show 2 < 8 by decide) (by decide)) (bn (ckb (fun K => ck_in (k := 3) (show 3 < 8 by decide) (by decide)) (bn (ckb (fun K => ck_in (k := 4) (show 4 < 8 by decide) (by decide)) (bn (ckb (fun K => ck_in (k := 5) (show 5 < 8 by decide) (by decide)) (bn (ckb (fun K => ck_in (k := 6) (show 6 < 8 by decide) (by decide)) (bn (ckb (fun K => ck_in (k := 7) (show 7 < 8 by decide) (by decide)) (bn (?_))))))))))))))))
      have hM' : sI (sI (sI (sI (sI (sI (sI (sI n' 96 (ix 0) (gI n' 86 p)) 96 (ix 1) (gI n' 86 (10 + p))) 96 (ix 2) (gI n' 86 (36 + t))) 96 (ix 3) cc) 96 (ix 4) s) 96 (ix 5) u) 96 (ix 6) (nI p)) 96 (ix 7) x = M := hM.symm
      rw [hM', hL19]
      refine bs o1 ?_
      dsimp only
      rw [q2, hN]
theorem copy_X {L : Nat} (hL : L ≤ 120) (m : Mem) : ∃ n, wh f_X9_law_L37 (nI L, 0, m) = some (1, n) ∧ gI n 85 19 = nI L ∧ (∀ i, i < L → gI n 95 i = gI m 94 i) ∧ (∀ c i, c ≠ 95 → c ≠ 85 → gI n c i = gI m c i) ∧ ∀ i, i ≠ 19 → gI n 85 i = gI m 85 i := by
  have hw := wh_inv (body := f_X9_law_L37) (fun k s => ∃ n, s = (nI L, nI k, n) ∧ (∀ i, i < k → gI n 95 i = gI m 94 i) ∧ ∀ c i, c ≠ 95 → gI n c i = gI m c i) (fun r => ∃ n, r = ((1 : Int32), n) ∧ gI n 85 19 = nI L ∧ (∀ i, i < L → gI n 95 i = gI m 94 i) ∧ (∀ c i, c ≠ 95 → c ≠ 85 → gI n c i = gI m c i) ∧ ∀ i, i ≠ 19 → gI n 85 i = gI m 85 i) L (fun k s hk hs => ?_) (fun s hs => ?_) 0 (nI L, 0, m) (Nat.zero_le _) ⟨m, rfl, fun i hi => absurd hi (Nat.not_lt_zero i), fun _ _ _ => rfl⟩
  · obtain ⟨r, h1, n, rfl, h2⟩ := hw
    exact ⟨n, h1, h2⟩
  · obtain ⟨n, rfl, h1, h2⟩ := hs
    left
    refine ⟨(nI L, nI (k + 1), sI n 95 k (gI n 94 k)), ?_, _, rfl, fun i hi => ?_, fun c i hc => by rw [g_far _ _ hc, h2 c i hc]⟩
    · unfold f_X9_law_L37
      dsimp only
      rw [if_neg (nI_ge hk (by omega)), ck_in (by omega) (by decide), ck_in (by omega) (by decide), ix_n (by omega)]
      refine bn (bn ?_)
      rw [nI_1]
    · by_cases e : i = k
      · subst e; rw [g_hit, h2 94 i (by decide)]
      · rw [g_off _ _ e, h1 i (by omega)]
  · obtain ⟨n, rfl, h1, h2⟩ := hs
    refine ⟨(1, sI n 85 19 (nI L)), ?_, _, rfl, g_hit _ _ _ _, fun i hi => by rw [g_far _ _ (by decide), h1 i hi], fun c i hc hc2 => by rw [g_far _ _ hc2, h2 c i hc], fun i hi => by rw [g_off _ _ hi, h2 85 i (by decide)]⟩
    unfold f_X9_law_L37
    dsimp only
    rw [if_pos (nI_le (Nat.le_refl L) (by omega))]
    rfl
theorem op_law {L V : Nat} {m m' : Mem} (h : IQ L m m') (hI : IL0 m m') (hv : gI m 1 16 = nI V) (hV : V < 2000000) : ∃ v n n', f_X8_law m = some (v, n) ∧ f_X9_law m' = some (v, n') ∧ IQ 0 n n' ∧ IL0 n n' ∧ ((gI n 1 16 = nI V ∧ gI n 14 5 = gI m 14 5 ∧ n.2.2 = m.2.2 ∧ (∀ i, gI n (cC m.2.2) i = gI m (cC m.2.2) i) ∧ gI n' 85 19 = gI m' 85 19 ∧ ∀ i, gI n' 95 i = gI m' 95 i) ∨ gI n 1 16 = nI (V + 1)) := by
  obtain ⟨⟨q1, q2, q3⟩, q4⟩ := h
  obtain ⟨τ, hτ'⟩ : ∃ τ : Nat → Nat, ∀ i, i < 120 → gI m 15 i = nI (τ i) ∧ τ i ≤ 255 := ⟨fun i => if h : i < 120 then (q4 i h).2.choose else 0, fun i hi => by
    have := (q4 i hi).2.choose_spec
    dsimp only
    rw [dif_pos hi]
    exact ⟨this.2, this.1⟩⟩
  have hτ : ∀ i, i < L → τ i ≤ 255 := fun i hi => (hτ' i (by omega)).2
  obtain ⟨v, n, a1, a2, a3, a4, a5⟩ := enact_C q3 hτ (m := m) ⟨q1, fun i hi => (hτ' i (by omega)).1⟩
  obtain ⟨x, n', b1, b2, b3, b4⟩ := workOut_X (b := false) (N := fun j => gI m' 96 j) q3 hτ (m := m') (fun i hi => by
    show gI m' 94 i = _
    rw [← (q4 i (by omega)).1]; exact (hτ' i (by omega)).1) (fun _ => rfl)
  have hG := tx_G (τ := τ) (op_G (L := L) (τ := τ) 6) (L + 1) 0 (Nat.zero_le L)
  have b1' : f_X9_workOut (-1) (gI m' 85 17) m' = some (x, n') := by rw [q2]; exact b1
  have e16 : gI n 1 16 = nI V := (a2 1 16 (by decide) (by decide) (by decide)).trans hv
  have e17 : gI n' 85 17 = nI L := (b3 17 (by decide) (by decide) (by decide) (by decide) (by decide)).trans q2
  cases hE : EN L (txR (opR (bet L τ) 6) (bet L τ) (L + 1) 0) with
  | inl e =>
    rw [hE] at a5 b4
    obtain ⟨p1, p2, p3, p4, p5⟩ := (show v = nI e ∧ e ≤ L ∧ gI n 14 5 = gI m 14 5 ∧ n.2.2 = m.2.2 ∧ ∀ i, gI n (cC m.2.2) i = gI m (cC m.2.2) i from a5)
    obtain ⟨r1, r2⟩ := (show gI n' 85 23 = nI e ∧ e ≤ L from b4)
    have e19 : gI (sI n' 85 17 0) 85 19 = gI m' 85 19 := by rw [g_off _ _ (by decide), b3 19 (by decide) (by decide) (by decide) (by decide) (by decide)]
    have e95 : ∀ i, gI (sI n' 85 17 0) 95 i = gI m' 95 i := fun i => by rw [g_far _ _ (by decide), b2 95 i (by decide)]
    refine ⟨-100 - nI e, n, sI n' 85 17 0, ?_, ?_, ⟨⟨a3, g_hit _ _ _ _, Nat.zero_le _⟩, fun i hi => ?_⟩, IL0_cong hI p3 p4 p5 e19 e95, Or.inl ⟨e16, p3, p4, p5, e19, e95⟩⟩
    · unfold f_X8_law
      rw [a1, some_bind, p1]
      rw [if_neg (nn_lt0 (by omega))]
    · unfold f_X9_law
      rw [b1', some_bind]
      refine bn (bn ?_)
      rw [g_off _ _ (by decide), r1, if_neg (nn_lt0 (by omega))]
    · rw [a2 15 i (by decide) (by decide) (by decide), g_far _ _ (by decide), b2 94 i (by decide)]
      exact q4 i hi
  | inr z =>
    obtain ⟨c, u⟩ := z
    rw [hE] at a5 b4
    obtain ⟨p1, p2, p3, p4, p5⟩ := (show v = -1 ∧ gI n 14 5 = nI c.length ∧ 0 < c.length ∧ c.length ≤ 128 ∧ ∀ i, i < c.length → gI n (cC n.2.2) i = nI (c.getD i 0) from a5)
    have r1 : gI n' 85 23 = -1 := b4.1
    obtain ⟨n2, c1, c2, c3, c4, c5⟩ := copy_X q3 (sI n' 85 17 0)
    have hRT : RTx c u := by
      unfold EN at hE
      cases hR : txR (opR (bet L τ) 6) (bet L τ) (L + 1) 0 with
      | inl e => rw [hR] at hE; cases hE
      | inr z =>
        obtain ⟨r, c', u'⟩ := z
        rw [hR] at hE hG
        have hE' : (if r < L then (Sum.inl r : Nat ⊕ (List Nat × Val)) else .inr (c', u')) = .inr (c, u) := hE
        by_cases q : r < L
        · rw [if_pos q] at hE'; cases hE'
        · rw [if_neg q] at hE'
          cases hE'
          exact hG.2.2.2
    have t15 : ∀ i, i < L → gI n2 95 i = nI (τ i) := fun i hi => by
      rw [c3 i hi, g_far _ _ (by decide), b2 94 i (by decide), ← (q4 i (by omega)).1]
      exact (hτ' i (by omega)).1
    refine ⟨1, sI n 1 16 (nI (V + 1)), n2, ?_, ?_, ⟨⟨by rw [g_far _ _ (by decide)]; exact a3, by rw [c5 17 (by decide), g_hit]; rfl, Nat.zero_le _⟩, fun i hi => ?_⟩, Or.inr ⟨L, τ, c, u, q3, hτ, by rw [g_far _ _ (by decide)]; exact p2, p3, p4, fun i hi => ?_, hRT, c2, t15, hE⟩, Or.inr (g_hit _ _ _ _)⟩
    · unfold f_X8_law
      rw [a1, some_bind, p1]
      rw [if_pos (show (-1 : Int32) < 0 by decide), e16, nI_1]
      rfl
    · unfold f_X9_law
      rw [b1', some_bind]
      refine bn (bn ?_)
      rw [g_off _ _ (by decide), r1, if_pos (show (-1 : Int32) < 0 by decide), e17]
      exact c1
    · rw [g_far _ _ (by decide), a2 15 i (by decide) (by decide) (by decide), c4 94 i (by decide) (by decide), g_far _ _ (by decide), b2 94 i (by decide)]
      exact q4 i hi
    · have : cC n.2.2 ≠ 1 := by cases n.2.2 <;> decide
      show gI (sI n 1 16 _) (cC n.2.2) i = _
      rw [g_far _ _ this]
      exact p5 i hi
