/-! A MEETING: on paper -/
theorem there9_v {p : Nat} (hp : p < 10) (m' : Mem) : f_X9_isThere (nI p) m' = some (bi (Th m' p), m') := by
  have e20 : (20 : Int32) + nI p = nI (20 + p) := nI_add 20 p
  have c2 : ∀ {T : Type} (K : Option T), ck (nI (20 + p)) 42 K = K := fun K => ck_in (by omega) (by decide)
  have i2 : ix (nI (20 + p)) = 20 + p := ix_n (by omega)
  unfold f_X9_isThere Th
  rw [e20, c2, i2]
  by_cases q1 : nI p = gI m' 85 28
  · rw [if_pos q1, decide_eq_false (fun z => z.1 q1), bz_0]; rfl
  · rw [if_neg q1]
    by_cases q2 : gI m' 85 29 < gI m' 86 (20 + p)
    · rw [if_pos q2, decide_eq_false (fun z => z.2 q2), bz_0]; rfl
    · rw [if_neg q2, decide_eq_true ⟨q1, q2⟩, bz_1]; rfl
/-- how many of the people who are there know a card -/
def TK (m' : Mem) (P k : Nat) : Nat := fb_ct (fun p => Th m' p && bt (gI m' 93 k) p) P
theorem cardsThere_v {P T C V S a : Nat} {m m' : Mem} (hB : TB P T C V m m') (hf : RF a P S m m') : ∃ x, f_X3_cardsThere a m = some (x, m) ∧ ∀ i, i < 32 → bt x i = (decide (i < C) && decide (0 < TK m' P i)) := by
  have hB0 := hB
  obtain ⟨⟨⟨n1, n2, n3⟩, -, ⟨-, -, n9⟩, -⟩, -, -, hc, hb, -⟩ := hB
  have hw := wh_inv (body := f_X3_cardsThere_L4 a) (fun k s => ∃ x, s = (x, nI k, m) ∧ ∀ i, i < 32 → bt x i = (decide (i < C) && decide (0 < TK m' k i))) (fun r => ∃ x, r = (x, m) ∧ ∀ i, i < 32 → bt x i = (decide (i < C) && decide (0 < TK m' P i))) P (fun k s hk hs => ?_) (fun s hs => ?_) 0 (0, 0, m) (Nat.zero_le _) ⟨0, rfl, fun i hi => by rw [b_0]; exact (Bool.and_false _).symm⟩
  · obtain ⟨r, h1, x, rfl, h2⟩ := hw
    exact ⟨x, h1, h2⟩
  · obtain ⟨x, rfl, hx⟩ := hs
    left
    have nk : ¬ nI P ≤ nI k := nI_ge hk (by omega)
    have ck10 : ∀ {T : Type} (K : Option T), ck (nI k) 10 K = K := fun K => ck_in (by omega) (by decide)
    have ik : ix (nI k) = k := ix_n (by omega)
    obtain ⟨b1, -⟩ := there_v hB0 hf hk
    unfold f_X3_cardsThere_L4
    simp only [n1, nk, if_false, b1, some_bind, ck10, ik, bnd, nI_1]
    have hT : ∀ i, TK m' (k + 1) i = TK m' k i + if (Th m' k && bt (gI m' 93 i) k) = true then 1 else 0 := fun i => rfl
    cases ht : Th m' k
    · rw [if_pos (show bi false = 0 from rfl)]
      refine ⟨_, rfl, _, rfl, fun i hi => ?_⟩
      rw [b_or, b_0, Bool.or_false, hx i hi, hT, ht]
      rfl
    · rw [if_neg (show ¬ (bi true = 0) by decide)]
      refine ⟨_, rfl, _, rfl, fun i hi => ?_⟩
      rw [b_or, hx i hi, hb.1 k (by omega) i hi, hT, ht]
      by_cases c : i < C
      · obtain ⟨⟨-, -, a3⟩, -⟩ := hc i (by omega)
        rw [decide_eq_true c, Bool.true_and, Bool.true_and, Bool.true_and, Bool.true_and, a3]
        cases bt (gI m' 93 i) k
        · rw [Bool.or_false]; rfl
        · rw [Bool.or_true, decide_eq_true (by simp)]
      · rw [decide_eq_false c]; rfl
  · obtain ⟨x, rfl, hx⟩ := hs
    unfold f_X3_cardsThere_L4
    simp only [n1, nI_le (Nat.le_refl P) (show P < 2 ^ 31 by omega), if_true, up_some]
    exact ⟨_, rfl, x, rfl, hx⟩
/-- a card that is written down -/
def PW (m' : Mem) (P t k : Nat) : Bool := (decide (gI m' 91 k = nI t) && !Sd m' k) && decide (0 < TK m' P k)
theorem paper_in {P t k : Nat} {m' : Mem} (h6 : gI m' 85 6 = nI P) (hP : P ≤ 10) (hk : k < 20) : ∃ q, wh f_X9_putsPaper_L12 (nI t, nI k, 0, m') = some (.inl (nI t, nI (k + 1), q)) ∧ (∀ c i, (c ≠ 100 ∧ c ≠ 101 ∨ i ≠ k) → gI q c i = gI m' c i) ∧ gI q 100 k = (if PW m' P t k = true then -1 else gI m' 100 k) ∧ gI q 101 k = if PW m' P t k = true then -1 else gI m' 101 k := by
  have ck20 : ∀ {T : Type} (K : Option T), ck (nI k) 20 K = K := fun K => ck_in hk (by decide)
  have ik : ix (nI k) = k := ix_n (by omega)
  have hw := wh_inv (body := f_X9_putsPaper_L12) (fun p s => ∃ q, s = (nI t, nI k, nI p, q) ∧ (∀ c i, (c ≠ 100 ∧ c ≠ 101 ∨ i ≠ k) → gI q c i = gI m' c i) ∧ gI q 100 k = (if PW m' p t k = true then -1 else gI m' 100 k) ∧ gI q 101 k = if PW m' p t k = true then -1 else gI m' 101 k) (fun r => ∃ q, r = .inl (nI t, nI (k + 1), q) ∧ (∀ c i, (c ≠ 100 ∧ c ≠ 101 ∨ i ≠ k) → gI q c i = gI m' c i) ∧ gI q 100 k = (if PW m' P t k = true then -1 else gI m' 100 k) ∧ gI q 101 k = if PW m' P t k = true then -1 else gI m' 101 k) P (fun p s hp hs => ?_) (fun s hs => ?_) 0 (nI t, nI k, 0, m') (Nat.zero_le _) ⟨m', rfl, fun _ _ _ => rfl, by unfold PW; rw [decide_eq_false (show ¬ 0 < TK m' 0 k from Nat.lt_irrefl 0), Bool.and_false]; rfl, by unfold PW; rw [decide_eq_false (show ¬ 0 < TK m' 0 k from Nat.lt_irrefl 0), Bool.and_false]; rfl⟩
  · obtain ⟨r, h1, q, rfl, h2⟩ := hw
    exact ⟨q, h1, h2⟩
  · obtain ⟨q, rfl, q1, q2, q3⟩ := hs
    left
    have e6 : gI q 85 6 = nI P := by rw [q1 85 6 (Or.inl (by decide)), h6]
    have np : ¬ nI P ≤ nI p := nI_ge hp (by omega)
    have e91 : gI q 91 k = gI m' 91 k := q1 91 k (Or.inl (by decide))
    have e93 : gI q 93 k = gI m' 93 k := q1 93 k (Or.inl (by decide))
    have eT : Th q p = Th m' p := by
      unfold Th
      rw [q1 85 28 (Or.inl (by decide)), q1 85 29 (Or.inl (by decide)), q1 86 _ (Or.inl (by decide))]
    have hT : TK m' (p + 1) k = TK m' p k + if (Th m' p && bt (gI m' 93 k) p) = true then 1 else 0 := rfl
    -- this person adds nothing
    have skip : PW m' (p + 1) t k = PW m' p t k → ∃ s', some (Sum.inl (nI t, nI k, nI (p + 1), q) : (Int32 × Int32 × Int32 × Mem) ⊕ ((Int32 × Int32 × Mem) ⊕ Mem)) = some (.inl s') ∧ ∃ q, s' = (nI t, nI k, nI (p + 1), q) ∧ (∀ c i, (c ≠ 100 ∧ c ≠ 101 ∨ i ≠ k) → gI q c i = gI m' c i) ∧ gI q 100 k = (if PW m' (p + 1) t k = true then -1 else gI m' 100 k) ∧ gI q 101 k = if PW m' (p + 1) t k = true then -1 else gI m' 101 k := fun e => ⟨_, rfl, q, rfl, q1, by rw [e]; exact q2, by rw [e]; exact q3⟩
    unfold f_X9_putsPaper_L12
    simp only [e6, np, if_false, ck20, ik, e91, isSaid_v hk, there9_v (show p < 10 by omega), knows_v (show p < 10 by omega) hk, some_bind, bnd, nI_1, eT, e93]
    by_cases h91 : gI m' 91 k = nI t
    · rw [if_neg (fun z => z h91)]
      cases hs : Sd q k
      · rw [if_neg (show ¬ ¬ (bi false = 0) by decide)]
        -- not said: nobody before
        have hp0 : PW m' p t k = false := by
          cases c : PW m' p t k
          · rfl
          · rw [c, if_pos rfl] at q2
            unfold Sd at hs
            rw [q2] at hs
            exact absurd hs (by decide)
        have hs0 : Sd m' k = false := by
          rw [hp0, if_neg (by decide)] at q2
          rw [← hs]
          exact (Sd_cong q2).symm
        cases ht : Th m' p
        · rw [if_pos (show bi false = 0 from rfl)]
          exact skip (by unfold PW; rw [hT, ht]; rfl)
        · rw [if_neg (show ¬ bi true = 0 by decide)]
          cases hb : bt (gI m' 93 k) p
          · rw [if_pos (show bi false = 0 from rfl)]
            exact skip (by unfold PW; rw [hT, ht, hb]; rfl)
          · rw [if_neg (show ¬ bi true = 0 by decide)]
            have hp1 : PW m' (p + 1) t k = true := by
              unfold PW
              rw [hT, ht, hb, hs0, decide_eq_true h91, decide_eq_true (by simp)]
              rfl
            refine ⟨_, rfl, _, rfl, fun c i hc => ?_, ?_, ?_⟩
            · rw [g_sI, if_neg (by omega), g_sI, if_neg (by omega)]
              exact q1 c i hc
            · rw [g_far _ _ (by decide), g_hit, if_pos hp1]
            · rw [g_hit, if_pos hp1]
      · rw [if_pos (show ¬ bi true = 0 by decide)]
        refine skip ?_
        cases c : PW m' p t k
        · -- said before the paper
          have hs0 : Sd m' k = true := by
            rw [c, if_neg (by decide)] at q2
            rw [← hs]
            exact (Sd_cong q2).symm
          unfold PW
          rw [hs0]
          simp
        · unfold PW at c ⊢
          rw [hT]
          cases d : (decide (gI m' 91 k = nI t) && !Sd m' k)
          · rw [d] at c; cases c
          · rw [d, Bool.true_and] at c
            have := of_decide_eq_true c
            rw [Bool.true_and, decide_eq_true (by omega)]
    · rw [if_pos h91]
      exact skip (by unfold PW; rw [decide_eq_false h91]; rfl)
  · obtain ⟨q, rfl, q1, q2, q3⟩ := hs
    have e6 : gI q 85 6 = nI P := by rw [q1 85 6 (Or.inl (by decide)), h6]
    unfold f_X9_putsPaper_L12
    simp only [e6, nI_le (Nat.le_refl P) (show P < 2 ^ 31 by omega), if_true, bnd, up_some, nI_1]
    exact ⟨_, rfl, q, rfl, q1, q2, q3⟩
theorem TK_cong {m n : Mem} {P k : Nat} (h1 : ∀ p, p < P → Th n p = Th m p) (h2 : gI n 93 k = gI m 93 k) : TK n P k = TK m P k := fb_ct_cong (fun p hp => by rw [h1 p hp, h2])
theorem paper_v {P C t : Nat} {m' : Mem} (h6 : gI m' 85 6 = nI P) (hP : P ≤ 10) (h9 : gI m' 85 9 = nI C) (hC : C ≤ 20) : ∃ n', f_X9_putsPaper (nI t) m' = some n' ∧ ∀ k, gI n' 100 k = (if k < C ∧ PW m' P t k = true then -1 else gI m' 100 k) ∧ gI n' 101 k = if k < C ∧ PW m' P t k = true then -1 else gI m' 101 k := by
  have hw := wh_inv (body := f_X9_putsPaper_L2) (fun k s => ∃ q, s = (nI t, nI k, q) ∧ (∀ c i, c ≠ 100 → c ≠ 101 → gI q c i = gI m' c i) ∧ ∀ i, gI q 100 i = (if i < k ∧ PW m' P t i = true then -1 else gI m' 100 i) ∧ gI q 101 i = if i < k ∧ PW m' P t i = true then -1 else gI m' 101 i) (fun n' => ∀ k, gI n' 100 k = (if k < C ∧ PW m' P t k = true then -1 else gI m' 100 k) ∧ gI n' 101 k = if k < C ∧ PW m' P t k = true then -1 else gI m' 101 k) C (fun k s hk hs => ?_) (fun s hs => ?_) 0 (nI t, 0, m') (Nat.zero_le _) ⟨m', rfl, fun _ _ _ _ => rfl, fun i => ⟨by rw [if_neg (fun z => absurd z.1 (Nat.not_lt_zero i))], by rw [if_neg (fun z => absurd z.1 (Nat.not_lt_zero i))]⟩⟩
  · obtain ⟨r, h1, h2⟩ := hw
    exact ⟨r, h1, h2⟩
  · obtain ⟨q, rfl, q1, q2⟩ := hs
    left
    have e6 : gI q 85 6 = nI P := by rw [q1 85 6 (by decide) (by decide), h6]
    have e9 : gI q 85 9 = nI C := by rw [q1 85 9 (by decide) (by decide), h9]
    have nk : ¬ nI C ≤ nI k := nI_ge hk (by omega)
    obtain ⟨r, r1, r2, r3, r4⟩ := paper_in (t := t) e6 hP (show k < 20 by omega)
    have hPW : PW q P t k = PW m' P t k := by
      unfold PW
      rw [q1 91 k (by decide) (by decide), Sd_cong (m := m') (by rw [(q2 k).1, if_neg (fun z => absurd z.1 (Nat.lt_irrefl k))]), TK_cong (m := m') (fun p hp => by
        unfold Th
        rw [q1 85 28 (by decide) (by decide), q1 85 29 (by decide) (by decide), q1 86 _ (by decide) (by decide)]) (q1 93 k (by decide) (by decide))]
    rw [hPW] at r3 r4
    refine ⟨(nI t, nI (k + 1), r), ?_, r, rfl, fun c i h1 h2 => by rw [r2 c i (Or.inl ⟨h1, h2⟩)]; exact q1 c i h1 h2, fun i => ?_⟩
    · unfold f_X9_putsPaper_L2
      simp only [e9, nk, if_false]
      exact r1
    · by_cases c : i = k
      · subst c
        have z1 : gI q 100 i = gI m' 100 i := by rw [(q2 i).1, if_neg (fun z => absurd z.1 (Nat.lt_irrefl i))]
        have z2 : gI q 101 i = gI m' 101 i := by rw [(q2 i).2, if_neg (fun z => absurd z.1 (Nat.lt_irrefl i))]
        rw [r3, r4, z1, z2]
        by_cases d : PW m' P t i = true
        · rw [if_pos d, if_pos d, if_pos ⟨by omega, d⟩, if_pos ⟨by omega, d⟩]
          exact ⟨rfl, rfl⟩
        · rw [if_neg d, if_neg d, if_neg (fun z => d z.2), if_neg (fun z => d z.2)]
          exact ⟨rfl, rfl⟩
      · rw [r2 100 i (Or.inr c), r2 101 i (Or.inr c), (q2 i).1, (q2 i).2]
        by_cases d : i < k ∧ PW m' P t i = true
        · rw [if_pos d, if_pos d, if_pos ⟨by omega, d.2⟩, if_pos ⟨by omega, d.2⟩]
          exact ⟨rfl, rfl⟩
        · rw [if_neg d, if_neg d, if_neg (fun z => d ⟨by omega, z.2⟩), if_neg (fun z => d ⟨by omega, z.2⟩)]
          exact ⟨rfl, rfl⟩
  · obtain ⟨q, rfl, q1, q2⟩ := hs
    have e9 : gI q 85 9 = nI C := by rw [q1 85 9 (by decide) (by decide), h9]
    unfold f_X9_putsPaper_L2
    simp only [e9, nI_le (Nat.le_refl C) (show C < 2 ^ 31 by omega), if_true, up_some]
    exact ⟨_, rfl, q2⟩
