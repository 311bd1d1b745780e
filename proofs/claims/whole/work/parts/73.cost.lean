/-! WHAT CAME OF A MEETING: held back, alone, cost, shed -/
def tf (m' : Mem) (p : Nat) : Int32 := if gI m' 85 29 ≤ gI m' 86 (20 + p) then 0 else gI m' 85 29 - gI m' 86 (20 + p)
theorem m1_n {p : Nat} (hp : p < 2 ^ 31) : ¬ nI p = -1 := fun z => by
  have := congrArg Int32.toInt z
  rw [nI_toInt hp] at this
  change _ = (-1 : Int) at this
  omega
theorem tf_v {a P T C V S p : Nat} {m m' : Mem} (h : RA0 a P T C V S m m') (hn : gI m' 85 28 = -1) (hp : p < P) : f_X3_minutesThere a (nI p) m = some (tf m' p, m) ∧ f_X9_thereFor (nI p) m' = some (tf m' p, m') := by
  obtain ⟨⟨⟨⟨-, -, n3⟩, -⟩, htp, -⟩, ⟨⟨-, -, f3⟩, ⟨U, u1, u2, u3⟩, -, -, -, b1⟩, -⟩ := h
  obtain ⟨⟨-, -, l1, -⟩, -, -, ⟨L, L9, l2⟩, -⟩ := htp p (by omega)
  have e20 : (20 : Int32) + nI p = nI (20 + p) := nI_add 20 p
  have c42 : ∀ {T : Type} (K : Option T), ck (nI (20 + p)) 42 K = K := fun K => ck_in (by omega) (by decide)
  have i42 : ix (nI (20 + p)) = 20 + p := ix_n (by omega)
  unfold f_X3_minutesThere f_X9_thereFor tf
  rw [b1, hn, if_pos (m1_n (by omega)), ck_in (by omega) (by decide), ix_n (by omega), e20, c42, c42, i42, ← l1, u2, u3, l2]
  unfold mxI
  by_cases c : U ≤ L
  · rw [if_pos (nI_le c (by omega)), if_pos (nI_le c (by omega)), if_neg]
    · exact ⟨rfl, rfl⟩
    · rw [Int32.lt_iff_toInt_lt, sub_i (by rw [nI_toInt (by omega), nI_toInt (by omega)]; omega) (by rw [nI_toInt (by omega), nI_toInt (by omega)]; omega), nI_toInt (by omega), nI_toInt (by omega)]
      show ¬ (0 : Int) < _
      omega
  · rw [if_neg (nI_ge (by omega) (by omega)), if_neg (nI_ge (by omega) (by omega)), nI_sub (by omega), if_pos (show (0 : Int32) < nI (U - L) from nI_lt (a := 0) (by omega) (by omega))]
    exact ⟨rfl, rfl⟩
theorem cost_v {a P T C V S : Nat} {m m' : Mem} (h : RA0 a P T C V S m m') (hn : gI m' 85 28 = -1) : ∃ v, f_X3_cost a m = some (v, m) ∧ f_X9_cost m' = some (v, m') := by
  have h0 := h
  obtain ⟨⟨⟨⟨n1, n2, n3⟩, -⟩, htp, -⟩, -⟩ := h
  have := wh_both (b := f_X3_cost_L4 a) (b' := f_X9_cost_L4) (fun k s s' => ∃ x, s = (x, nI k, m) ∧ s' = (x, nI k, m')) (fun r r' => ∃ v, r = (v, m) ∧ r' = (v, m')) P (fun k s s' hk hR => ?_) (fun s s' hR => ?_) 0 (0, 0, m) (0, 0, m') (Nat.zero_le _) ⟨0, rfl, rfl⟩
  · obtain ⟨r, r', q1, q2, v, rfl, rfl⟩ := this
    exact ⟨v, q1, q2⟩
  · obtain ⟨x, rfl, rfl⟩ := hR
    left
    obtain ⟨t1, t2⟩ := tf_v h0 hn hk
    have nk : ¬ nI P ≤ nI k := nI_ge hk (by omega)
    have e90 := (htp k (by omega)).1.2.2.2
    unfold f_X3_cost_L4 f_X9_cost_L4
    simp only [n1, n2, nk, if_false, ck_in (show k < 10 by omega) (show 10 < 2 ^ 31 by decide), ix_n (show k < 2 ^ 31 by omega), t1, t2, some_bind, bnd, nI_1, e90]
    exact ⟨_, _, rfl, rfl, _, rfl, rfl⟩
  · obtain ⟨x, rfl, rfl⟩ := hR
    unfold f_X3_cost_L4 f_X9_cost_L4
    simp only [n1, n2, nI_le (Nat.le_refl P) (show P < 2 ^ 31 by omega), if_true, up_some]
    exact ⟨_, _, rfl, rfl, x, rfl, rfl⟩
theorem held_in {P k : Nat} {m' : Mem} (h6 : gI m' 85 6 = nI P) (hP : P ≤ 10) (hk : k < 20) (x : Int32) : ∃ y, wh f_X9_heldBack_L14 (x, nI k, 0, m') = some (.inl (y, nI (k + 1), m')) ∧ ∀ i, i < 32 → bt y i = (bt x i || (decide (i = k) && (!Sd m' k && decide (0 < TK m' P k)))) := by
  have hw := wh_inv (body := f_X9_heldBack_L14) (fun p s => ∃ y, s = (y, nI k, nI p, m') ∧ ∀ i, i < 32 → bt y i = (bt x i || (decide (i = k) && (!Sd m' k && decide (0 < TK m' p k))))) (fun r => ∃ y, r = .inl (y, nI (k + 1), m') ∧ ∀ i, i < 32 → bt y i = (bt x i || (decide (i = k) && (!Sd m' k && decide (0 < TK m' P k))))) P (fun p s hp hs => ?_) (fun s hs => ?_) 0 (x, nI k, 0, m') (Nat.zero_le _) ⟨x, rfl, fun i hi => by rw [decide_eq_false (show ¬ 0 < TK m' 0 k from Nat.lt_irrefl 0), Bool.and_false, Bool.and_false, Bool.or_false]⟩
  · obtain ⟨r, h1, y, rfl, h2⟩ := hw
    exact ⟨y, h1, h2⟩
  · obtain ⟨y, rfl, hy⟩ := hs
    left
    have np : ¬ nI P ≤ nI p := nI_ge hp (by omega)
    have hT : TK m' (p + 1) k = TK m' p k + if (Th m' p && bt (gI m' 93 k) p) = true then 1 else 0 := rfl
    unfold f_X9_heldBack_L14
    simp only [h6, np, if_false, isSaid_v hk, there9_v (show p < 10 by omega), knows_v (show p < 10 by omega) hk, some_bind, bnd, nI_1, Int32.or_zero]
    cases hs : Sd m' k
    · rw [if_neg (show ¬ ¬ (bi false = 0) by decide)]
      cases hb : bt (gI m' 93 k) p
      · rw [if_pos (show bi false = 0 from rfl)]
        exact ⟨_, rfl, y, rfl, fun i hi => by rw [hy i hi, hT, hb, Bool.and_false, hs]; rfl⟩
      · rw [if_neg (show ¬ bi true = 0 by decide)]
        cases ht : Th m' p
        · rw [if_pos (show bi false = 0 from rfl)]
          exact ⟨_, rfl, y, rfl, fun i hi => by rw [hy i hi, hT, ht, hs]; rfl⟩
        · rw [if_neg (show ¬ bi true = 0 by decide)]
          refine ⟨_, rfl, _, rfl, fun i hi => ?_⟩
          rw [b_or, b_one (by omega) hi, hy i hi, hT, hb, ht, hs, decide_eq_true (show 0 < TK m' p k + (if (true && true) = true then 1 else 0) by simp)]
          cases bt x i <;> cases decide (i = k) <;> cases decide (0 < TK m' p k) <;> rfl
    · rw [if_pos (show ¬ bi true = 0 by decide)]
      exact ⟨_, rfl, y, rfl, fun i hi => by rw [hy i hi, hs]; simp⟩
  · obtain ⟨y, rfl, hy⟩ := hs
    unfold f_X9_heldBack_L14
    simp only [h6, nI_le (Nat.le_refl P) (show P < 2 ^ 31 by omega), if_true, bnd, up_some, nI_1]
    exact ⟨_, rfl, y, rfl, hy⟩
theorem held_v {a P T C V S : Nat} {m m' : Mem} (h : RA0 a P T C V S m m') : ∃ x y, f_X3_cardsThere a m = some (x, m) ∧ x &&& (gI m a 9 ^^^ -1) = y ∧ f_X9_heldBack m' = some (y, m') := by
  have h0 := h
  obtain ⟨hB, hf, -, hk, -⟩ := h
  obtain ⟨⟨⟨n1, n2, n3⟩, -, ⟨n7, n8, n9⟩, -⟩, -⟩ := hB
  obtain ⟨x, x1, x2⟩ := cardsThere_v h0.1 hf
  have hw := wh_inv (body := f_X9_heldBack_L4) (fun k s => ∃ y, s = (y, nI k, m') ∧ ∀ i, i < 32 → bt y i = (decide (i < k) && (!Sd m' i && decide (0 < TK m' P i)))) (fun r => ∃ y, r = (y, m') ∧ ∀ i, i < 32 → bt y i = (decide (i < C) && (!Sd m' i && decide (0 < TK m' P i)))) C (fun k s hk hs => ?_) (fun s hs => ?_) 0 (0, 0, m') (Nat.zero_le _) ⟨0, rfl, fun i hi => by rw [b_0]; rfl⟩
  · obtain ⟨r, h1, y, rfl, h2⟩ := hw
    refine ⟨x, y, x1, b_ext (fun i hi => ?_), h1⟩
    rw [b_and, b_xor, b_m1 i hi, hk.2 i hi, x2 i hi, h2 i hi]
    cases decide (i < C) <;> cases Sd m' i <;> cases decide (0 < TK m' P i) <;> rfl
  · obtain ⟨y, rfl, hy⟩ := hs
    left
    obtain ⟨z, z1, z2⟩ := held_in n2 n3 (show k < 20 by omega) y
    refine ⟨(z, nI (k + 1), m'), ?_, z, rfl, fun i hi => ?_⟩
    · unfold f_X9_heldBack_L4
      simp only [n8, nI_ge hk (show C < 2 ^ 31 by omega), if_false]
      exact z1
    · rw [z2 i hi, hy i hi]
      by_cases c : i = k
      · subst c
        rw [decide_eq_true rfl, decide_eq_true (Nat.lt_succ_self i), decide_eq_false (Nat.lt_irrefl i)]; rfl
      · rw [decide_eq_false c, Bool.false_and, Bool.or_false, decide_eq_decide.mpr (show i < k ↔ i < k + 1 by omega)]
  · obtain ⟨y, rfl, hy⟩ := hs
    unfold f_X9_heldBack_L4
    simp only [n8, nI_le (Nat.le_refl C) (show C < 2 ^ 31 by omega), if_true, up_some]
    exact ⟨_, rfl, y, rfl, hy⟩
theorem alone_X {P T C V : Nat} {m m' : Mem} (hB : TB P T C V m m') : ∃ x, f_X6_aloneCards m = some (x, m) ∧ ∀ i, i < 32 → bt x i = (decide (i < C) && decide (PK m' P i = 1)) := by
  obtain ⟨⟨⟨n1, n2, n3⟩, -, ⟨n7, n8, n9⟩, -⟩, -, -, hc, -⟩ := hB
  have hw := wh_inv (body := f_X6_aloneCards_L4) (fun k s => ∃ x, s = (x, nI k, m) ∧ ∀ i, i < 32 → bt x i = (decide (i < k) && decide (PK m' P i = 1))) (fun r => ∃ x, r = (x, m) ∧ ∀ i, i < 32 → bt x i = (decide (i < C) && decide (PK m' P i = 1))) C (fun k s hk hs => ?_) (fun s hs => ?_) 0 (0, 0, m) (Nat.zero_le _) ⟨0, rfl, fun i hi => by rw [b_0]; rfl⟩
  · obtain ⟨r, h1, x, rfl, h2⟩ := hw
    exact ⟨x, h1, h2⟩
  · obtain ⟨x, rfl, hx⟩ := hs
    left
    have nk : ¬ nI C ≤ nI k := nI_ge hk (by omega)
    obtain ⟨⟨-, -, a3⟩, -⟩ := hc k (by omega)
    obtain ⟨q1, q2⟩ := mask_20 n3 (gI m' 93 k)
    have hle : PK m' P k ≤ 10 := Nat.le_trans (fb_ct_le _ P) n3
    have step : ∀ y : Int32, (∀ i, i < 32 → bt y i = (bt x i || (decide (i = k) && decide (PK m' P k = 1)))) → ∀ i, i < 32 → bt y i = (decide (i < k + 1) && decide (PK m' P i = 1)) := fun y hy i hi => by
      rw [hy i hi, hx i hi]
      by_cases c : i = k
      · subst c
        rw [decide_eq_true rfl, decide_eq_true (Nat.lt_succ_self i), decide_eq_false (Nat.lt_irrefl i)]; rfl
      · rw [decide_eq_false c, Bool.false_and, Bool.or_false, decide_eq_decide.mpr (show i < k ↔ i < k + 1 by omega)]
    unfold f_X6_aloneCards_L4
    simp only [n7, nk, if_false, ck_in (show k < 20 by omega) (show 20 < 2 ^ 31 by decide), ix_n (show k < 2 ^ 31 by omega), n1, a3, pop_v q1, q2, some_bind, bnd, nI_1]
    have e1 : (nI (fb_ct (bt (gI m' 93 k)) P) = 1) = (PK m' P k = 1) := propext ⟨fun z => (eq_nn (a := PK m' P k) (b := 1) (by omega) (by decide)).mp z, fun z => by show nI (PK m' P k) = 1; rw [z]; rfl⟩
    by_cases c : PK m' P k = 1
    · refine ⟨_, by rw [if_neg (fun z => z (e1 ▸ c))], _, rfl, step _ (fun i hi => ?_)⟩
      rw [b_or, b_one (by omega) hi, decide_eq_true c, Bool.and_true]
    · refine ⟨_, by rw [if_pos (fun z => c (e1 ▸ z))], _, rfl, step _ (fun i hi => ?_)⟩
      rw [decide_eq_false c, Bool.and_false, Bool.or_false]
  · obtain ⟨x, rfl, hx⟩ := hs
    unfold f_X6_aloneCards_L4
    simp only [n7, nI_le (Nat.le_refl C) (show C < 2 ^ 31 by omega), if_true, up_some]
    exact ⟨_, rfl, x, rfl, hx⟩
theorem alone_R {P C : Nat} {m' : Mem} (h6 : gI m' 85 6 = nI P) (hP : P ≤ 10) (h9 : gI m' 85 9 = nI C) (hC : C ≤ 20) (fl : Int32) : f_X9_aloneSaid fl m' = some (nI (fb_ct (fun k => decide (PK m' P k = 1) && (!decide (fl = 0) || Sd m' k)) C), m') := by
  have hw := wh_inv (body := f_X9_aloneSaid_L4) (fun k s => s = (fl, nI (fb_ct (fun k => decide (PK m' P k = 1) && (!decide (fl = 0) || Sd m' k)) k), nI k, m')) (fun r => r = (nI (fb_ct (fun k => decide (PK m' P k = 1) && (!decide (fl = 0) || Sd m' k)) C), m')) C (fun k s hk hs => ?_) (fun s hs => ?_) 0 (fl, 0, 0, m') (Nat.zero_le _) rfl
  · obtain ⟨r, h1, h2⟩ := hw
    unfold f_X9_aloneSaid
    rw [h1, h2]
  · subst hs
    left
    refine ⟨_, ?_, rfl⟩
    have nk : ¬ nI C ≤ nI k := nI_ge hk (by omega)
    obtain ⟨q1, q2⟩ := mask_20 hP (gI m' 93 k)
    have hle : PK m' P k ≤ 10 := Nat.le_trans (fb_ct_le _ P) hP
    have hal : f_X9_isAlone (nI k) m' = some (bi (decide (PK m' P k = 1)), m') := by
      unfold f_X9_isAlone
      rw [ck_in (by omega) (by decide), ix_n (by omega), h6, bitsOf_v q1, q2, some_bind]
      show (if ¬ nI (PK m' P k) = 1 then _ else _) = _
      by_cases c : PK m' P k = 1
      · rw [if_neg (fun z => z (by rw [c]; rfl)), bz_1, decide_eq_true c]; rfl
      · rw [if_pos (show ¬ nI (PK m' P k) = (1 : Int32) from fun z => c ((eq_nn (b := 1) (by omega) (by decide)).mp z)), bz_0, decide_eq_false c]; rfl
    unfold f_X9_aloneSaid_L4
    simp only [h9, nk, if_false, hal, isSaid_v (show k < 20 by omega), some_bind, bnd, nI_1, Int32.add_zero]
    rw [fb_ct_succ]
    by_cases c : PK m' P k = 1
    · rw [decide_eq_true c, if_neg (show ¬ bi true = 0 by decide)]
      by_cases d : fl = 0
      · rw [if_neg (fun z => z d), decide_eq_true d]
        cases e : Sd m' k
        · rw [if_pos (show bi false = 0 from rfl)]; rfl
        · rw [if_neg (show ¬ bi true = 0 by decide)]; rfl
      · rw [if_pos d, decide_eq_false d]; rfl
    · rw [decide_eq_false c, if_pos (show bi false = 0 from rfl)]; rfl
  · subst hs
    refine ⟨_, ?_, rfl⟩
    unfold f_X9_aloneSaid_L4
    simp only [h9, nI_le (Nat.le_refl C) (show C < 2 ^ 31 by omega), if_true]
    rfl
/-- minutes by worth -/
def mw (m' : Mem) (t : Nat) : Int32 := (1000 * gI m' 102 t) / (abI (gI m' 86 (30 + t)) + 1)
theorem ab_nz {x : Int32} (h1 : -99 ≤ x) (h2 : x ≤ 99) : ¬ abI x + 1 = 0 := by
  have h3 := Int32.le_iff_toInt_le.mp h1
  have h4 := Int32.le_iff_toInt_le.mp h2
  change (-99 : Int) ≤ _ at h3
  change _ ≤ (99 : Int) at h4
  intro z
  unfold abI at z
  by_cases c : 0 ≤ x
  · rw [if_pos c] at z
    obtain ⟨k, hk, rfl⟩ := nn_of (n := 99) (c := x) (by decide) (Int32.not_lt.mpr c) (Int32.not_lt.mpr h2)
    rw [nI_1] at z
    have := (eq_nn (b := 0) (by omega) (by decide)).mp z
    omega
  · rw [if_neg c] at z
    have hx : x = -(nI (-(x.toInt)).toNat) := by
      apply Int32.toInt_inj.mp
      have hneg : x.toInt < 0 := by
        have := Int32.not_le.mp c
        rw [Int32.lt_iff_toInt_lt] at this
        exact this
      rw [Int32.toInt_neg, nI_toInt (by omega), Int.bmod_eq_of_le (by omega) (by omega)]
      omega
    rw [hx, Int32.sub_neg, Int32.zero_add, nI_1] at z
    have := (eq_nn (b := 0) (by omega) (by decide)).mp z
    omega
theorem mw_v {P T C V S t : Nat} {m m' : Mem} (h : RA0 29 P T C V S m m') (ht : t < T) : f_X4_minutesByWorth (nI t) m = some (mw m' t, m) := by
  obtain ⟨⟨⟨-, ⟨-, -, n6⟩, -⟩, -, hth, -⟩, -, -, -, htt⟩ := h
  obtain ⟨⟨w1, -⟩, ⟨w3, w4⟩, -⟩ := hth t (by omega)
  have ct : ∀ {T : Type} (K : Option T), ck (nI t) 6 K = K := fun K => ck_in (by omega) (by decide)
  have it : ix (nI t) = t := ix_n (by omega)
  unfold f_X4_minutesByWorth mw
  rw [ct, ct, it, (htt t ht).1, w1]
  rw [w1] at w3 w4
  unfold dv
  rw [if_neg (ab_nz w3 w4)]
theorem size_v (x : Int32) (m' : Mem) : f_X9_size x m' = some (abI x, m') := by
  unfold f_X9_size abI
  by_cases c : 0 ≤ x
  · rw [if_pos c, if_pos c]
  · rw [if_neg c, if_neg c, Int32.zero_sub]
theorem shed_v {P T C V S : Nat} {m m' : Mem} (h : RA0 29 P T C V S m m') (h24 : gI m 24 9 = nI T) (hT : 0 < T) : ∃ v, f_X4_shed m = some (v, m) ∧ f_X9_shed m' = some (v, m') := by
  have h0 := h
  obtain ⟨⟨⟨-, ⟨n4, n5, n6⟩, -⟩, -, hth, -⟩, -, -, -, htt⟩ := h
  have := wh_both (b := f_X4_shed_L4) (b' := f_X9_shed_L4) (fun k s s' => ∃ b, b < T ∧ s = (nI b, nI (k + 1), m) ∧ s' = (nI b, nI (k + 1), m')) (fun r r' => ∃ v, r = (v, m) ∧ r' = (v, m')) (T - 1) (fun k s s' hk hR => ?_) (fun s s' hR => ?_) 0 (0, 1, m) (0, 1, m') (Nat.zero_le _) ⟨0, hT, rfl, rfl⟩
  · obtain ⟨r, r', q1, q2, v, rfl, rfl⟩ := this
    exact ⟨v, q1, q2⟩
  · obtain ⟨b, hb, rfl, rfl⟩ := hR
    left
    have nk : ¬ nI T ≤ nI (k + 1) := nI_ge (by omega) (by omega)
    have ck6 : ∀ {T : Type} (K : Option T), ck (nI (k + 1)) 6 K = K := fun K => ck_in (by omega) (by decide)
    have cb6 : ∀ {T : Type} (K : Option T), ck (nI b) 6 K = K := fun K => ck_in (by omega) (by decide)
    have e30 : ∀ z, (30 : Int32) + nI z = nI (30 + z) := fun z => nI_add 30 z
    have c42 : ∀ {T : Type} (K : Option T), ck (nI (30 + (k + 1))) 42 K = K := fun K => ck_in (by omega) (by decide)
    have d42 : ∀ {T : Type} (K : Option T), ck (nI (30 + b)) 42 K = K := fun K => ck_in (by omega) (by decide)
    obtain ⟨⟨w1, -⟩, ⟨w3, w4⟩, -⟩ := hth (k + 1) (by omega)
    obtain ⟨⟨v1, -⟩, ⟨v3, v4⟩, -⟩ := hth b (by omega)
    rw [w1] at w3 w4
    rw [v1] at v3 v4
    have dv1 : ∀ {T : Type} (K : Option T), dv (abI (gI m' 86 (30 + (k + 1))) + 1) K = K := fun K => if_neg (ab_nz w3 w4)
    have dv2 : ∀ {T : Type} (K : Option T), dv (abI (gI m' 86 (30 + b)) + 1) K = K := fun K => if_neg (ab_nz v3 v4)
    unfold f_X4_shed_L4 f_X9_shed_L4
    simp only [h24, n5, nk, if_false, mw_v h0 (show k + 1 < T by omega), mw_v h0 hb, some_bind, ck6, cb6, e30, c42, d42, ix_n (show k + 1 < 2 ^ 31 by omega), ix_n (show b < 2 ^ 31 by omega), ix_n (show 30 + (k + 1) < 2 ^ 31 by omega), ix_n (show 30 + b < 2 ^ 31 by omega), size_v, dv1, dv2, bnd, nI_1]
    unfold mw
    by_cases c : (1000 * gI m' 102 (k + 1)) / (abI (gI m' 86 (30 + (k + 1))) + 1) ≤ (1000 * gI m' 102 b) / (abI (gI m' 86 (30 + b)) + 1)
    · rw [if_pos c, if_pos c]
      exact ⟨_, _, rfl, rfl, b, hb, rfl, rfl⟩
    · rw [if_neg c, if_neg c]
      exact ⟨_, _, rfl, rfl, k + 1, by omega, rfl, rfl⟩
  · obtain ⟨b, hb, rfl, rfl⟩ := hR
    unfold f_X4_shed_L4 f_X9_shed_L4
    have e : T - 1 + 1 = T := by omega
    simp only [h24, n5, e, nI_le (Nat.le_refl T) (show T < 2 ^ 31 by omega), if_true, up_some]
    exact ⟨_, _, rfl, rfl, nI b, rfl, rfl⟩
