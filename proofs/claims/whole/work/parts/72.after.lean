/-! WHAT CAME OF A MEETING -/
/-- what a thing comes to by a set of cards -/
def ts (m' : Mem) (sel : Nat → Bool) (t : Nat) : Nat → Int32
  | 0 => gI m' 86 (30 + t)
  | k + 1 => if gI m' 91 k = nI t ∧ sel k = true then ts m' sel t k + gI m' 92 k else ts m' sel t k
def dc (m' : Mem) (C : Nat) (sel : Nat → Bool) : Nat → Int32
  | 0 => 0
  | t + 1 => dc m' C sel t ||| (if ts m' sel t C ≤ 0 then 0 else (1 : Int32) <<< (nI t &&& 31))
theorem ts_succ (m' : Mem) (sel : Nat → Bool) (t k : Nat) : ts m' sel t (k + 1) = if gI m' 91 k = nI t ∧ sel k = true then ts m' sel t k + gI m' 92 k else ts m' sel t k := rfl
theorem dc_succ (m' : Mem) (C : Nat) (sel : Nat → Bool) (t : Nat) : dc m' C sel (t + 1) = dc m' C sel t ||| (if ts m' sel t C ≤ 0 then 0 else (1 : Int32) <<< (nI t &&& 31)) := rfl
theorem ts_cong {m' n' : Mem} {f g : Nat → Bool} {t : Nat} (h1 : gI n' 86 (30 + t) = gI m' 86 (30 + t)) (h2 : ∀ i, gI n' 91 i = gI m' 91 i) (h3 : ∀ i, gI n' 92 i = gI m' 92 i) : ∀ C, (∀ k, k < C → f k = g k) → ts n' f t C = ts m' g t C
  | 0, _ => h1
  | C + 1, h => by
    show (if gI n' 91 C = nI t ∧ f C = true then ts n' f t C + gI n' 92 C else ts n' f t C) = _
    rw [ts_cong h1 h2 h3 C (fun k hk => h k (by omega)), h2, h3, h C (by omega)]
    rfl
theorem dc_cong {m' n' : Mem} {f g : Nat → Bool} {C : Nat} (h1 : ∀ i, gI n' 86 i = gI m' 86 i) (h2 : ∀ i, gI n' 91 i = gI m' 91 i) (h3 : ∀ i, gI n' 92 i = gI m' 92 i) (h : ∀ k, k < C → f k = g k) : ∀ T, dc n' C f T = dc m' C g T
  | 0 => rfl
  | T + 1 => by
    show dc n' C f T ||| (if ts n' f T C ≤ 0 then 0 else (1 : Int32) <<< (nI T &&& 31)) = _
    rw [dc_cong h1 h2 h3 h T, ts_cong (h1 _) h2 h3 C h]
    rfl
theorem sum_X {P T C V t : Nat} {m m' : Mem} (hB : TB P T C V m m') (ht : t < 6) {x : Int32} {sel : Nat → Bool} (hx : ∀ i, i < C → bt x i = sel i) : f_X6_sum (nI t) x m = some (ts m' sel t C, m) := by
  obtain ⟨⟨-, -, ⟨n7, -, n9⟩, -⟩, -, hth, hc, hb, -⟩ := hB
  have ct : ∀ {T : Type} (K : Option T), ck (nI t) 6 K = K := fun K => ck_in ht (by decide)
  have it : ix (nI t) = t := ix_n (by omega)
  have hw := wh_inv (body := f_X6_sum_L10) (fun k s => s = (nI t, x, ts m' sel t k, nI k, m)) (fun r => r = (ts m' sel t C, m)) C (fun k s hk hs => ?_) (fun s hs => ?_) 0 (nI t, x, gI m 6 t, 0, m) (Nat.zero_le _) (by rw [(hth t ht).1.1]; rfl)
  · obtain ⟨r, h1, h2⟩ := hw
    unfold f_X6_sum
    rw [ct, it]
    show wh f_X6_sum_L10 (nI t, x, gI m 6 t, 0, m) = _
    rw [h1, h2]
  · subst hs
    left
    refine ⟨_, ?_, rfl⟩
    obtain ⟨⟨a1, a2, -⟩, -⟩ := hc k (by omega)
    have nk : ¬ nI C ≤ nI k := nI_ge hk (by omega)
    have hz := bit_z (show k < 32 by omega) (x &&& gI m 13 t)
    have hb2 : bt (x &&& gI m 13 t) k = (sel k && decide (gI m' 91 k = nI t)) := by
      rw [b_and, hx k hk, hb.2 t ht k (by omega), decide_eq_true hk, Bool.true_and, a1]
    unfold f_X6_sum_L10
    simp only [n7, nk, if_false, ct, it, ck_in (show k < 20 by omega) (show 20 < 2 ^ 31 by decide), ix_n (show k < 2 ^ 31 by omega), bnd, nI_1, a2]
    rw [ts_succ]
    by_cases c : gI m' 91 k = nI t ∧ sel k = true
    · rw [if_neg (fun z => by have := hz.mp z; rw [hb2, c.2, decide_eq_true c.1] at this; cases this), if_pos c]
    · rw [if_pos (hz.mpr (by
        rw [hb2]
        by_cases d : gI m' 91 k = nI t
        · cases e : sel k
          · rfl
          · exact absurd ⟨d, e⟩ c
        · rw [decide_eq_false d, Bool.and_false])), if_neg c]
  · subst hs
    refine ⟨_, ?_, rfl⟩
    unfold f_X6_sum_L10
    simp only [n7, nI_le (Nat.le_refl C) (show C < 2 ^ 31 by omega), if_true]
    rfl
theorem comes_R {T C t : Nat} {m' : Mem} (h9 : gI m' 85 9 = nI C) (hC : C ≤ 20) (ht : t < 6) : f_X9_comesTo (nI t) m' = some (ts m' (Sd m') t C, m') := by
  have e30 : (30 : Int32) + nI t = nI (30 + t) := nI_add 30 t
  have c42 : ∀ {T : Type} (K : Option T), ck (nI (30 + t)) 42 K = K := fun K => ck_in (by omega) (by decide)
  have i42 : ix (nI (30 + t)) = 30 + t := ix_n (by omega)
  have hw := wh_inv (body := f_X9_comesTo_L12) (fun k s => s = (nI t, ts m' (Sd m') t k, nI k, m')) (fun r => r = (ts m' (Sd m') t C, m')) C (fun k s hk hs => ?_) (fun s hs => ?_) 0 (nI t, gI m' 86 (30 + t), 0, m') (Nat.zero_le _) rfl
  · obtain ⟨r, h1, h2⟩ := hw
    unfold f_X9_comesTo
    rw [e30, c42, i42]
    show wh f_X9_comesTo_L12 (nI t, gI m' 86 (30 + t), 0, m') = _
    rw [h1, h2]
  · subst hs
    left
    refine ⟨_, ?_, rfl⟩
    have nk : ¬ nI C ≤ nI k := nI_ge hk (by omega)
    unfold f_X9_comesTo_L12
    simp only [h9, nk, if_false, ck_in (show k < 20 by omega) (show 20 < 2 ^ 31 by decide), ix_n (show k < 2 ^ 31 by omega), bnd, nI_1, isSaid_v (show k < 20 by omega), some_bind, Int32.add_zero]
    rw [ts_succ]
    by_cases c : gI m' 91 k = nI t
    · rw [if_neg (fun z => z c)]
      cases d : Sd m' k
      · rw [if_pos (show bi false = 0 from rfl), if_neg (fun z => by cases z.2)]
      · rw [if_neg (show ¬ bi true = 0 by decide), if_pos ⟨c, rfl⟩]
    · rw [if_pos c, if_neg (fun z => c z.1)]
  · subst hs
    refine ⟨_, ?_, rfl⟩
    unfold f_X9_comesTo_L12
    simp only [h9, nI_le (Nat.le_refl C) (show C < 2 ^ 31 by omega), if_true]
    rfl
theorem dec_X {P T C V : Nat} {m m' : Mem} (hB : TB P T C V m m') {x : Int32} {sel : Nat → Bool} (hx : ∀ i, i < C → bt x i = sel i) : f_X6_decided x m = some (dc m' C sel T, m) := by
  have hB0 := hB
  obtain ⟨⟨-, ⟨n4, -, n6⟩, -⟩, -⟩ := hB
  have hw := wh_inv (body := f_X6_decided_L4) (fun k s => s = (x, dc m' C sel k, nI k, m)) (fun r => r = (dc m' C sel T, m)) T (fun k s hk hs => ?_) (fun s hs => ?_) 0 (x, 0, 0, m) (Nat.zero_le _) rfl
  · obtain ⟨r, h1, h2⟩ := hw
    unfold f_X6_decided
    rw [h1, h2]
  · subst hs
    left
    refine ⟨_, ?_, rfl⟩
    have nk : ¬ nI T ≤ nI k := nI_ge hk (by omega)
    unfold f_X6_decided_L4
    simp only [n4, nk, if_false, sum_X hB0 (show k < 6 by omega) hx, some_bind, bnd, nI_1]
    rw [dc_succ]
    by_cases c : ts m' sel k C ≤ 0
    · rw [if_pos c, if_pos c]
    · rw [if_neg c, if_neg c]
  · subst hs
    refine ⟨_, ?_, rfl⟩
    unfold f_X6_decided_L4
    simp only [n4, nI_le (Nat.le_refl T) (show T < 2 ^ 31 by omega), if_true]
    rfl
theorem dec_R {T C : Nat} {m' : Mem} (h8 : gI m' 85 8 = nI T) (hT : T ≤ 6) (h9 : gI m' 85 9 = nI C) (hC : C ≤ 20) : f_X9_decided m' = some (dc m' C (Sd m') T, m') := by
  have hw := wh_inv (body := f_X9_decided_L4) (fun k s => s = (dc m' C (Sd m') k, nI k, m')) (fun r => r = (dc m' C (Sd m') T, m')) T (fun k s hk hs => ?_) (fun s hs => ?_) 0 (0, 0, m') (Nat.zero_le _) rfl
  · obtain ⟨r, h1, h2⟩ := hw
    unfold f_X9_decided
    rw [h1, h2]
  · subst hs
    left
    refine ⟨_, ?_, rfl⟩
    have nk : ¬ nI T ≤ nI k := nI_ge hk (by omega)
    unfold f_X9_decided_L4
    simp only [h8, nk, if_false, comes_R (T := T) h9 hC (show k < 6 by omega), some_bind, bnd, nI_1]
    rw [dc_succ]
    by_cases c : ts m' (Sd m') k C ≤ 0
    · rw [if_pos c, if_pos c]
    · rw [if_neg c, if_neg c]
  · subst hs
    refine ⟨_, ?_, rfl⟩
    unfold f_X9_decided_L4
    simp only [h8, nI_le (Nat.le_refl T) (show T < 2 ^ 31 by omega), if_true]
    rfl
/-- how many of the people know a card -/
def PK (m' : Mem) (P k : Nat) : Nat := fb_ct (bt (gI m' 93 k)) P
theorem mask_b : ∀ P, P ≤ 10 → ∀ i, i < 32 → bt (((1 : Int32) <<< (nI P &&& 31)) - 1) i = decide (i < P) := by decide +kernel
theorem mask_z {P : Nat} (hP : P ≤ 10) (x : Int32) : (x &&& (((1 : Int32) <<< (nI P &&& 31)) - 1)) = 0 ↔ fb_ct (bt x) P = 0 := by
  constructor
  · intro h
    refine fb_ct_zero.mpr (fun k hk => ?_)
    have := congrArg (fun y => bt y k) h
    simp only [b_and, mask_b P hP k (by omega), b_0] at this
    rw [decide_eq_true hk, Bool.and_true] at this
    exact this
  · intro h
    apply b_ext
    intro i hi
    rw [b_and, mask_b P hP i hi, b_0]
    by_cases q : i < P
    · rw [fb_ct_zero.mp h i q]; rfl
    · rw [decide_eq_false q, Bool.and_false]
theorem mask_20 {P : Nat} (hP : P ≤ 10) (x : Int32) : (∀ i, 20 ≤ i → i < 32 → bt (x &&& (((1 : Int32) <<< (nI P &&& 31)) - 1)) i = false) ∧ fb_ct (bt (x &&& (((1 : Int32) <<< (nI P &&& 31)) - 1))) 20 = fb_ct (bt x) P := by
  refine ⟨fun i h1 h2 => by rw [b_and, mask_b P hP i h2, decide_eq_false (by omega), Bool.and_false], ?_⟩
  refine ct_C (by omega) (fun i hi => ?_)
  rw [b_and, mask_b P hP i (by omega), Bool.and_comm]
theorem known_v {P T C V : Nat} {m m' : Mem} (hB : TB P T C V m m') : ∃ x, f_X6_knownCards m = some (x, m) ∧ ∀ i, i < 32 → bt x i = (decide (i < C) && decide (0 < PK m' P i)) := by
  obtain ⟨⟨⟨n1, n2, n3⟩, -, ⟨-, -, n9⟩, -⟩, -, -, hc, hb, -⟩ := hB
  have hw := wh_inv (body := f_X6_knownCards_L4) (fun k s => ∃ x, s = (x, nI k, m) ∧ ∀ i, i < 32 → bt x i = (decide (i < C) && decide (0 < PK m' k i))) (fun r => ∃ x, r = (x, m) ∧ ∀ i, i < 32 → bt x i = (decide (i < C) && decide (0 < PK m' P i))) P (fun k s hk hs => ?_) (fun s hs => ?_) 0 (0, 0, m) (Nat.zero_le _) ⟨0, rfl, fun i hi => by rw [b_0]; exact (Bool.and_false _).symm⟩
  · obtain ⟨r, h1, x, rfl, h2⟩ := hw
    exact ⟨x, h1, h2⟩
  · obtain ⟨x, rfl, hx⟩ := hs
    left
    have nk : ¬ nI P ≤ nI k := nI_ge hk (by omega)
    unfold f_X6_knownCards_L4
    simp only [n1, nk, if_false, ck_in (show k < 10 by omega) (show 10 < 2 ^ 31 by decide), ix_n (show k < 2 ^ 31 by omega), bnd, nI_1]
    have hT : ∀ i, PK m' (k + 1) i = PK m' k i + if bt (gI m' 93 i) k = true then 1 else 0 := fun i => rfl
    refine ⟨_, rfl, _, rfl, fun i hi => ?_⟩
    rw [b_or, hx i hi, hb.1 k (by omega) i hi, hT]
    by_cases c : i < C
    · obtain ⟨⟨-, -, a3⟩, -⟩ := hc i (by omega)
      rw [decide_eq_true c, Bool.true_and, Bool.true_and, Bool.true_and, a3]
      cases bt (gI m' 93 i) k
      · rw [Bool.or_false]; rfl
      · rw [Bool.or_true, decide_eq_true (by simp)]
    · rw [decide_eq_false c]; rfl
  · obtain ⟨x, rfl, hx⟩ := hs
    unfold f_X6_knownCards_L4
    simp only [n1, nI_le (Nat.le_refl P) (show P < 2 ^ 31 by omega), if_true, up_some]
    exact ⟨_, rfl, x, rfl, hx⟩
def Kw (m' : Mem) (P k : Nat) : Bool := decide (0 < PK m' P k)
theorem shouldBe_in {P C t : Nat} {m' : Mem} (h6 : gI m' 85 6 = nI P) (hP : P ≤ 10) (h9 : gI m' 85 9 = nI C) (hC : C ≤ 20) (ht : t < 6) (b : Int32) : wh f_X9_shouldBe_L25 (b, nI t, gI m' 86 (30 + t), 0, m') = some (.inl (b ||| (if ts m' (Kw m' P) t C ≤ 0 then 0 else (1 : Int32) <<< (nI t &&& 31)), nI (t + 1), m')) := by
  have hw := wh_inv (body := f_X9_shouldBe_L25) (fun k s => s = (b, nI t, ts m' (Kw m' P) t k, nI k, m')) (fun r => r = .inl (b ||| (if ts m' (Kw m' P) t C ≤ 0 then 0 else (1 : Int32) <<< (nI t &&& 31)), nI (t + 1), m')) C (fun k s hk hs => ?_) (fun s hs => ?_) 0 (b, nI t, gI m' 86 (30 + t), 0, m') (Nat.zero_le _) rfl
  · obtain ⟨r, h1, h2⟩ := hw
    rw [h1, h2]
  · subst hs
    left
    refine ⟨_, ?_, rfl⟩
    have nk : ¬ nI C ≤ nI k := nI_ge hk (by omega)
    have hkn : f_X9_isKnown (nI k) m' = some (bi (Kw m' P k), m') := by
      unfold f_X9_isKnown Kw PK
      rw [ck_in (by omega) (by decide), ix_n (by omega), h6]
      by_cases z : fb_ct (bt (gI m' 93 k)) P = 0
      · rw [if_pos ((mask_z hP _).mpr z), bz_0, decide_eq_false (by omega)]; rfl
      · rw [if_neg (fun y => z ((mask_z hP _).mp y)), bz_1, decide_eq_true (by omega)]; rfl
    unfold f_X9_shouldBe_L25
    simp only [h9, nk, if_false, ck_in (show k < 20 by omega) (show 20 < 2 ^ 31 by decide), ix_n (show k < 2 ^ 31 by omega), bnd, nI_1, hkn, some_bind, Int32.add_zero]
    rw [ts_succ]
    by_cases c : gI m' 91 k = nI t
    · rw [if_neg (fun z => z c)]
      cases d : Kw m' P k
      · rw [if_pos (show bi false = 0 from rfl), if_neg (fun z => by cases z.2)]
      · rw [if_neg (show ¬ bi true = 0 by decide), if_pos ⟨c, rfl⟩]
    · rw [if_pos c, if_neg (fun z => c z.1)]
  · subst hs
    refine ⟨_, ?_, rfl⟩
    unfold f_X9_shouldBe_L25
    simp only [h9, nI_le (Nat.le_refl C) (show C < 2 ^ 31 by omega), if_true, bnd, nI_1]
    by_cases c : ts m' (Kw m' P) t C ≤ 0
    · rw [if_pos c, if_pos c]; rfl
    · rw [if_neg c, if_neg c]; rfl
theorem shouldBe_R {P T C : Nat} {m' : Mem} (h6 : gI m' 85 6 = nI P) (hP : P ≤ 10) (h8 : gI m' 85 8 = nI T) (hT : T ≤ 6) (h9 : gI m' 85 9 = nI C) (hC : C ≤ 20) : f_X9_shouldBe m' = some (dc m' C (Kw m' P) T, m') := by
  have hw := wh_inv (body := f_X9_shouldBe_L4) (fun k s => s = (dc m' C (Kw m' P) k, nI k, m')) (fun r => r = (dc m' C (Kw m' P) T, m')) T (fun k s hk hs => ?_) (fun s hs => ?_) 0 (0, 0, m') (Nat.zero_le _) rfl
  · obtain ⟨r, h1, h2⟩ := hw
    unfold f_X9_shouldBe
    rw [h1, h2]
  · subst hs
    left
    refine ⟨_, ?_, rfl⟩
    have nk : ¬ nI T ≤ nI k := nI_ge hk (by omega)
    have e30 : (30 : Int32) + nI k = nI (30 + k) := nI_add 30 k
    unfold f_X9_shouldBe_L4
    simp only [h8, nk, if_false, e30, ck_in (show 30 + k < 42 by omega) (show 42 < 2 ^ 31 by decide), ix_n (show 30 + k < 2 ^ 31 by omega), bnd]
    exact shouldBe_in h6 hP h9 hC (by omega) _
  · subst hs
    refine ⟨_, ?_, rfl⟩
    unfold f_X9_shouldBe_L4
    simp only [h8, nI_le (Nat.le_refl T) (show T < 2 ^ 31 by omega), if_true]
    rfl
theorem decided_v {a P T C V S : Nat} {m m' : Mem} (h : RA0 a P T C V S m m') : f_X3_decided a m = some (dc m' C (Sd m') T, m) := by
  unfold f_X3_decided
  rw [dec_X h.1 (sel := Sd m') (fun i hi => by rw [h.2.2.2.1.2 i (by have := h.1.1.2.2.1.2.2; omega), decide_eq_true hi, Bool.true_and]), some_bind]
theorem wrong_X {a P T C V S : Nat} {m m' : Mem} (h : RA0 a P T C V S m m') : f_X3_wrong a m = some (dc m' C (Sd m') T ^^^ dc m' C (Kw m' P) T, m) := by
  obtain ⟨x, x1, x2⟩ := known_v h.1
  unfold f_X3_wrong
  rw [decided_v h, some_bind]
  show (f_X6_knownCards m).bind _ = _
  rw [x1, some_bind]
  show (f_X6_decided x m).bind _ = _
  rw [dec_X h.1 (sel := Kw m' P) (fun i hi => by rw [x2 i (by have := h.1.1.2.2.1.2.2; omega), decide_eq_true hi, Bool.true_and]; rfl), some_bind]
theorem bitsOf_v {x : Int32} (h : ∀ i, 20 ≤ i → i < 32 → bt x i = false) (m' : Mem) : f_X9_bitsOf x m' = some (nI (fb_ct (bt x) 20), m') := by
  have key : ∀ j k r, k + j = fb_ct (bt x) 20 → (∀ i, i < 32 → bt r i = (bt x i && decide (k ≤ fb_ct (bt x) i))) → wh f_X9_bitsOf_L4 (nI k, r, m') = some (nI (fb_ct (bt x) 20), m') := by
    intro j
    induction j with
    | zero =>
      intro k r e hr
      have hz : r = 0 := b_ext (fun i hi => by
        rw [hr i hi, b_0]
        by_cases q : i < 20
        · cases hb : bt x i
          · rfl
          · have h1 := fb_ct_mono (bt x) (show i + 1 ≤ 20 from q)
            rw [fb_ct_succ, hb] at h1
            simp at h1
            rw [decide_eq_false (by omega)]; rfl
        · rw [h i (by omega) hi]; rfl)
      refine wh_done ?_
      unfold f_X9_bitsOf_L4
      rw [hz, if_pos rfl, ← e, Nat.add_zero]; rfl
    | succ j ih =>
      intro k r e hr
      have h20 : ∀ i, 20 ≤ i → i < 32 → bt r i = false := fun i h1 h2 => by rw [hr i h2, h i h1 h2]; rfl
      obtain ⟨n, hn, rfl⟩ := nn_bits (by decide) h20
      have hnz : ¬ nI n = 0 := fun z => by
        have hc : fb_ct (fun i => bt x i && decide (k ≤ fb_ct (bt x) i)) 20 = fb_ct (bt x) 20 - k := fb_from (bt x) k 20
        have hz : fb_ct (fun i => bt x i && decide (k ≤ fb_ct (bt x) i)) 20 = 0 := fb_ct_zero.mpr (fun i hi => by rw [← hr i (by omega), z, b_0])
        omega
      have e1 : nI n &&& (nI n - 1) = nI (n &&& (n - 1)) := by
        rcases Nat.eq_zero_or_pos n with rfl | q
        · decide
        · rw [nD_sub (by omega), nx_and]
      have hb : ∀ i, i < 32 → bt (nI (n &&& (n - 1))) i = (bt x i && decide (k + 1 ≤ fb_ct (bt x) i)) := fun i hi => by
        have hc : fb_ct n.testBit i = fb_ct (bt x) i - k := by
          rw [← fb_from (bt x) k i]
          exact fb_ct_cong (fun z hz => by rw [← bt_n n (by omega), hr z (by omega)])
        rw [bt_n _ hi, low_n, ← bt_n n hi, hr i hi, hc, Bool.and_assoc]
        congr 1
        by_cases q : k + 1 ≤ fb_ct (bt x) i
        · rw [decide_eq_true q, decide_eq_true (show k ≤ _ by omega), decide_eq_true (by omega)]; rfl
        · rw [decide_eq_false q, decide_eq_false (show ¬ 0 < _ by omega), Bool.and_false]
      refine (wh_inl ?_).trans (ih (k + 1) (nI (n &&& (n - 1))) (by omega) hb)
      unfold f_X9_bitsOf_L4
      simp only [hnz, if_false, bnd, e1, nI_1]
  have := key (fb_ct (bt x) 20) 0 x (by omega) (fun i hi => by rw [decide_eq_true (Nat.zero_le _), Bool.and_true])
  exact this
