/-! A MEETING: what is said, by whom one is stopped -/
theorem bit_z {k : Nat} (hk : k < 32) (x : Int32) : (x &&& ((1 : Int32) <<< (nI k &&& 31))) = 0 ↔ bt x k = false := by
  constructor
  · intro h
    have := congrArg (fun y => bt y k) h
    simp only [b_and, b_one hk hk, b_0, decide_true, Bool.and_true] at this
    exact this
  · intro h
    apply b_ext
    intro i hi
    rw [b_and, b_one hk hi, b_0]
    by_cases q : i = k
    · rw [q, h]; rfl
    · rw [decide_eq_false q, Bool.and_false]
theorem put_if {α : Type} {k i A : Nat} {b b' : Bool} (h1 : i = k → b' = true) (h2 : i < k → b' = b) (x y : α) : (if A = A ∧ i = k then x else if i < k ∧ b = true then x else y) = if i < k + 1 ∧ b' = true then x else y := by
  by_cases c : i = k
  · rw [if_pos ⟨rfl, c⟩, if_pos ⟨by omega, h1 c⟩]
  · rw [if_neg (fun z => c z.2)]
    by_cases d : i < k ∧ b = true
    · rw [if_pos d, if_pos ⟨by omega, by rw [h2 d.1]; exact d.2⟩]
    · rw [if_neg d, if_neg (fun z => d ⟨by omega, by rw [← h2 (by omega)]; exact z.2⟩)]
theorem skip_if {α : Type} {k i : Nat} {b : Bool} (h1 : i = k → b = false) (x y : α) : (if i < k ∧ b = true then x else y) = if i < k + 1 ∧ b = true then x else y := by
  by_cases c : i = k
  · rw [h1 c, if_neg (fun z => by cases z.2), if_neg (fun z => by cases z.2)]
  · by_cases d : i < k ∧ b = true
    · rw [if_pos d, if_pos ⟨by omega, d.2⟩]
    · rw [if_neg d, if_neg (fun z => d ⟨by omega, z.2⟩)]
theorem sayFirst_v {a C : Nat} (ha : MA a) {m : Mem} (hC : gI m 1 15 = nI C) (hC2 : C ≤ 20) (x who s : Int32) : ∃ n, f_X3_sayFirst a x who s m = some n ∧ gI n a 9 = gI m a 9 ||| x ∧ ∀ k, gI n (a + 3) k = (if k < C ∧ bt x k = true then who else gI m (a + 3) k) ∧ gI n (a + 4) k = if k < C ∧ bt x k = true then s else gI m (a + 4) k := by
  have hw := wh_inv (body := f_X3_sayFirst_L3 a) (fun k st => ∃ q, st = (x, who, s, nI k, q) ∧ gI q 1 15 = nI C ∧ gI q a 9 = gI m a 9 ∧ ∀ i, gI q (a + 3) i = (if i < k ∧ bt x i = true then who else gI m (a + 3) i) ∧ gI q (a + 4) i = if i < k ∧ bt x i = true then s else gI m (a + 4) i) (fun n => gI n a 9 = gI m a 9 ||| x ∧ ∀ k, gI n (a + 3) k = (if k < C ∧ bt x k = true then who else gI m (a + 3) k) ∧ gI n (a + 4) k = if k < C ∧ bt x k = true then s else gI m (a + 4) k) C (fun k st hk hs => ?_) (fun st hs => ?_) 0 (x, who, s, 0, m) (Nat.zero_le _) ⟨m, rfl, hC, rfl, fun i => ⟨by rw [if_neg (fun z => absurd z.1 (Nat.not_lt_zero i))], by rw [if_neg (fun z => absurd z.1 (Nat.not_lt_zero i))]⟩⟩
  · obtain ⟨n, h1, h2⟩ := hw
    exact ⟨n, h1, h2⟩
  · obtain ⟨q, rfl, q1, q2, q3⟩ := hs
    left
    have nk : ¬ nI C ≤ nI k := nI_ge hk (by omega)
    have ck20 : ∀ {T : Type} (K : Option T), ck (nI k) 20 K = K := fun K => ck_in (by omega) (by decide)
    have ik : ix (nI k) = k := ix_n (by omega)
    unfold f_X3_sayFirst_L3
    simp only [q1, nk, if_false, ck20, ik, bnd, nI_1]
    by_cases hb : bt x k = true
    · refine ⟨_, by rw [if_neg (fun z => by have := (bit_z (by omega) x).mp z; rw [hb] at this; cases this)], _, rfl, ?_, ?_, fun i => ?_⟩
      · rw [g_far _ _ (by unfold MA at ha; omega), g_far _ _ (by unfold MA at ha; omega), q1]
      · rw [g_far _ _ (by omega), g_far _ _ (by omega), q2]
      · rw [g_far (b := a + 3) _ _ (by omega), g_sI, g_sI, g_far (b := a + 4) _ _ (by omega), (q3 i).1, (q3 i).2]
        exact ⟨put_if (fun e => by rw [e]; exact hb) (fun _ => rfl) _ _, put_if (fun e => by rw [e]; exact hb) (fun _ => rfl) _ _⟩
    · have hb0 : bt x k = false := by simpa using hb
      refine ⟨_, by rw [if_pos ((bit_z (by omega) x).mpr hb0)], q, rfl, q1, q2, fun i => ?_⟩
      rw [(q3 i).1, (q3 i).2]
      exact ⟨skip_if (fun e => by rw [e]; exact hb0) _ _, skip_if (fun e => by rw [e]; exact hb0) _ _⟩
  · obtain ⟨q, rfl, q1, q2, q3⟩ := hs
    unfold f_X3_sayFirst_L3
    simp only [q1, nI_le (Nat.le_refl C) (show C < 2 ^ 31 by omega), if_true, bnd, up_some]
    refine ⟨_, rfl, ?_, fun k => ?_⟩
    · rw [g_hit, q2]
    · rw [g_far _ _ (by omega), g_far _ _ (by omega)]
      exact q3 k
theorem saysNew_v {C p t S w : Nat} {m' : Mem} (hC : gI m' 85 9 = nI C) (hC2 : C ≤ 20) (hp : p < 10) (ht : t < 6) (hS : gI m' 85 30 = nI S) (hw : w < 2 ^ 31) : ∃ y n', f_X9_saysNew (nI p) (nI t) (nI w) m' = some (y, n') ∧ (∀ i, i < 32 → bt y i = (decide (i < C) && ((Kn m' p t i && !Sd m' i) && decide (fb_ct (fun k => Kn m' p t k && !Sd m' k) i < w)))) ∧ ∀ k, gI n' 100 k = (if k < C ∧ bt y k = true then nI p else gI m' 100 k) ∧ gI n' 101 k = if k < C ∧ bt y k = true then nI S else gI m' 101 k := by
  have hN := wh_inv (body := f_X9_saysNew_L9) (fun k st => ∃ y c q, st = (nI p, nI t, nI w, y, nI c, nI k, q) ∧ c = min (fb_ct (fun k => Kn m' p t k && !Sd m' k) k) w ∧ (∀ i, i < 32 → bt y i = (decide (i < k) && ((Kn m' p t i && !Sd m' i) && decide (fb_ct (fun k => Kn m' p t k && !Sd m' k) i < w)))) ∧ (∀ i, gI q 100 i = (if i < k ∧ bt y i = true then nI p else gI m' 100 i) ∧ gI q 101 i = if i < k ∧ bt y i = true then nI S else gI m' 101 i) ∧ ∀ c i, c ≠ 100 → c ≠ 101 → gI q c i = gI m' c i) (fun r => (∀ i, i < 32 → bt r.1 i = (decide (i < C) && ((Kn m' p t i && !Sd m' i) && decide (fb_ct (fun k => Kn m' p t k && !Sd m' k) i < w)))) ∧ ∀ k, gI r.2 100 k = (if k < C ∧ bt r.1 k = true then nI p else gI m' 100 k) ∧ gI r.2 101 k = if k < C ∧ bt r.1 k = true then nI S else gI m' 101 k) C (fun k st hk hs => ?_) (fun st hs => ?_) 0 (nI p, nI t, nI w, 0, 0, 0, m') (Nat.zero_le _) ⟨0, 0, m', rfl, by show 0 = min 0 w; omega, fun i hi => by rw [b_0]; rfl, fun i => ⟨by rw [if_neg (fun z => absurd z.1 (Nat.not_lt_zero i))], by rw [if_neg (fun z => absurd z.1 (Nat.not_lt_zero i))]⟩, fun _ _ _ _ => rfl⟩
  · obtain ⟨⟨y, n'⟩, h1, h2, h3⟩ := hN
    exact ⟨y, n', h1, h2, h3⟩
  · obtain ⟨y, c, q, rfl, q1, q2, q3, q4⟩ := hs
    left
    have nk : ¬ nI C ≤ nI k := nI_ge hk (by omega)
    have ck20 : ∀ {T : Type} (K : Option T), ck (nI k) 20 K = K := fun K => ck_in (by omega) (by decide)
    have ik : ix (nI k) = k := ix_n (by omega)
    have e9 : gI q 85 9 = nI C := by rw [q4 85 9 (by decide) (by decide), hC]
    have e30 : gI q 85 30 = nI S := by rw [q4 85 30 (by decide) (by decide), hS]
    have e91 : gI q 91 k = gI m' 91 k := q4 91 k (by decide) (by decide)
    have e93 : gI q 93 k = gI m' 93 k := q4 93 k (by decide) (by decide)
    have eS : Sd q k = Sd m' k := by
      unfold Sd
      rw [(q3 k).1, if_neg (fun z => absurd z.1 (Nat.lt_irrefl k))]
    have hbk : bt y k = false := by rw [q2 k (by omega), decide_eq_false (Nat.lt_irrefl k)]; rfl
    have hcw : c ≤ w := by omega
    have hck : c ≤ fb_ct (fun k => Kn m' p t k && !Sd m' k) k := by omega
    have hle := fb_ct_le (fun k => Kn m' p t k && !Sd m' k) k
    -- nothing said of this card
    have skip : ((Kn m' p t k && !Sd m' k) && decide (fb_ct (fun k => Kn m' p t k && !Sd m' k) k < w)) = false → ∃ s', some (Sum.inl (nI p, nI t, nI w, y, nI c, nI (k + 1), q) : (Int32 × Int32 × Int32 × Int32 × Int32 × Int32 × Mem) ⊕ (Int32 × Mem)) = some (Sum.inl s') ∧ ∃ y c q, s' = (nI p, nI t, nI w, y, nI c, nI (k + 1), q) ∧ c = min (fb_ct (fun k => Kn m' p t k && !Sd m' k) (k + 1)) w ∧ (∀ i, i < 32 → bt y i = (decide (i < k + 1) && ((Kn m' p t i && !Sd m' i) && decide (fb_ct (fun k => Kn m' p t k && !Sd m' k) i < w)))) ∧ (∀ i, gI q 100 i = (if i < k + 1 ∧ bt y i = true then nI p else gI m' 100 i) ∧ gI q 101 i = if i < k + 1 ∧ bt y i = true then nI S else gI m' 101 i) ∧ ∀ c i, c ≠ 100 → c ≠ 101 → gI q c i = gI m' c i := fun hz => by
      refine ⟨_, rfl, y, c, q, rfl, ?_, fun i hi => ?_, fun i => ?_, q4⟩
      · rw [fb_ct_succ]
        cases hf : (Kn m' p t k && !Sd m' k)
        · simp; exact q1
        · rw [hf, Bool.true_and] at hz
          have := of_decide_eq_false hz
          simp; omega
      · rw [q2 i hi]
        by_cases d : i = k
        · subst d
          rw [hz, Bool.and_false, Bool.and_false]
        · rw [decide_eq_decide.mpr (show i < k ↔ i < k + 1 by omega)]
      · rw [(q3 i).1, (q3 i).2]
        exact ⟨skip_if (fun e => by rw [e, hbk]) _ _, skip_if (fun e => by rw [e, hbk]) _ _⟩
    unfold f_X9_saysNew_L9
    simp only [e9, nk, if_false, ck20, ik, e91, bnd, nI_1]
    by_cases hwc : w ≤ c
    · rw [if_pos (nI_le hwc (by omega))]
      exact skip (by rw [decide_eq_false (show ¬ _ < w by omega), Bool.and_false])
    · rw [if_neg (nI_ge (by omega) hw)]
      by_cases h91 : gI m' 91 k = nI t
      · rw [if_neg (fun z => z h91), knows_v hp (by omega), some_bind, e93]
        cases hb : bt (gI m' 93 k) p
        · rw [if_pos (show bi false = 0 from rfl)]
          exact skip (by unfold Kn; rw [hb, Bool.and_false]; rfl)
        · rw [if_neg (show ¬ bi true = 0 by decide), isSaid_v (by omega), some_bind, eS]
          cases hsd : Sd m' k
          · rw [if_neg (show ¬ ¬ bi false = 0 by decide)]
            have hf : (Kn m' p t k && !Sd m' k) = true := by unfold Kn; rw [decide_eq_true h91, hb, hsd]; rfl
            have hsel : ((Kn m' p t k && !Sd m' k) && decide (fb_ct (fun k => Kn m' p t k && !Sd m' k) k < w)) = true := by rw [hf, decide_eq_true (by omega)]; rfl
            have hby : ∀ i, i < 32 → bt (y ||| ((1 : Int32) <<< (nI k &&& 31))) i = (bt y i || decide (i = k)) := fun i hi => by rw [b_or, b_one (by omega) hi]
            refine ⟨_, rfl, _, c + 1, _, rfl, ?_, fun i hi => ?_, fun i => ?_, fun c' i h1 h2 => ?_⟩
            · rw [fb_ct_succ, hf]; simp; omega
            · rw [hby i hi, q2 i hi]
              by_cases d : i = k
              · subst d
                rw [decide_eq_true rfl, hsel, Bool.or_true, decide_eq_true (Nat.lt_succ_self i)]; rfl
              · rw [decide_eq_false d, Bool.or_false, decide_eq_decide.mpr (show i < k ↔ i < k + 1 by omega)]
            · rw [g_far (b := 100) _ _ (by decide), g_sI, g_sI, g_far (b := 101) _ _ (by decide), (q3 i).1, (q3 i).2, g_far (b := 85) _ _ (by decide), e30]
              exact ⟨put_if (fun e => by rw [hby i (by omega), decide_eq_true e, Bool.or_true]) (fun e => by rw [hby i (by omega), decide_eq_false (by omega), Bool.or_false]) _ _, put_if (fun e => by rw [hby i (by omega), decide_eq_true e, Bool.or_true]) (fun e => by rw [hby i (by omega), decide_eq_false (by omega), Bool.or_false]) _ _⟩
            · rw [g_far _ _ h2, g_far _ _ h1]
              exact q4 c' i h1 h2
          · rw [if_pos (show ¬ bi true = 0 by decide)]
            exact skip (by rw [hsd]; simp)
      · rw [if_pos h91]
        exact skip (by unfold Kn; rw [decide_eq_false h91]; rfl)
  · obtain ⟨y, c, q, rfl, q1, q2, q3, q4⟩ := hs
    unfold f_X9_saysNew_L9
    have e9 : gI q 85 9 = nI C := by rw [q4 85 9 (by decide) (by decide), hC]
    simp only [e9, nI_le (Nat.le_refl C) (show C < 2 ^ 31 by omega), if_true, up_some]
    exact ⟨_, rfl, q2, q3⟩
theorem saysAgain_v {C p t : Nat} {m' : Mem} (hC : gI m' 85 9 = nI C) (hC2 : C ≤ 20) (hp : p < 10) (ht : t < 6) : f_X9_saysAgain (nI p) (nI t) m' = some ((match fi (fun k => Kn m' p t k && Sd m' k) C 0 with | some k => nI k | none => -2), m') := by
  have := wh_find (body := f_X9_saysAgain_L2) (fun k => (nI p, nI t, nI k, m')) C (fun k => Kn m' p t k && Sd m' k) (fun k => (nI k, m')) (-2, m') (fun k hk => ?_) ?_
  · unfold f_X9_saysAgain
    rw [show ((nI p, nI t, (0 : Int32), m') : Int32 × Int32 × Int32 × Mem) = (nI p, nI t, nI 0, m') from rfl, this]
    cases fi (fun k => Kn m' p t k && Sd m' k) C 0 <;> rfl
  · have nk : ¬ nI C ≤ nI k := nI_ge hk (by omega)
    have ck20 : ∀ {T : Type} (K : Option T), ck (nI k) 20 K = K := fun K => ck_in (by omega) (by decide)
    have ik : ix (nI k) = k := ix_n (by omega)
    unfold f_X9_saysAgain_L2
    simp only [hC, nk, if_false, ck20, ik, bnd, nI_1, knows_v hp (show k < 20 by omega), isSaid_v (show k < 20 by omega), some_bind]
    unfold Kn
    by_cases h91 : gI m' 91 k = nI t
    · rw [if_neg (fun z => z h91), decide_eq_true h91]
      cases bt (gI m' 93 k) p
      · rw [if_pos (show bi false = 0 from rfl)]; rfl
      · rw [if_neg (show ¬ bi true = 0 by decide)]
        cases Sd m' k
        · rw [if_pos (show bi false = 0 from rfl)]; rfl
        · rw [if_neg (show ¬ bi true = 0 by decide)]; rfl
    · rw [if_pos h91, decide_eq_false h91]; rfl
  · unfold f_X9_saysAgain_L2
    simp only [hC, nI_le (Nat.le_refl C) (show C < 2 ^ 31 by omega), if_true, up_some]
/-- who stops one -/
theorem stops_v {a P T C V S p : Nat} {m m' : Mem} (h : RA a P T C V S m m') (hw : WI a P m m') (hp : p < P) (hp0 : ¬ gI m' 98 p ≤ 0) : ∃ v, f_X3_whoStops a (nI p) m = some (v, m) ∧ f_X9_stopper (nI p) m' = some (v, m') ∧ (v = -2 ∨ ∃ q, q < P ∧ v = nI q) := by
  obtain ⟨hB, hf, hpp, -, -⟩ := h
  have hB0 := hB
  obtain ⟨⟨⟨n1, n2, n3⟩, -⟩, htp, -⟩ := hB
  have cp : ∀ {T : Type} (K : Option T), ck (nI p) 10 K = K := fun K => ck_in (by omega) (by decide)
  have ip : ix (nI p) = p := ix_n (by omega)
  have e10 : ∀ q, (10 : Int32) + nI q = nI (10 + q) := fun q => nI_add 10 q
  have c42 : ∀ q, q < 10 → ∀ {T : Type} (K : Option T), ck (nI (10 + q)) 42 K = K := fun q hq _ K => ck_in (by omega) (by decide)
  have i42 : ∀ q, q < 10 → ix (nI (10 + q)) = 10 + q := fun q hq => ix_n (by omega)
  obtain ⟨a1, -⟩ := htp p (by omega)
  obtain ⟨b1, -⟩ := hw p hp
  obtain ⟨-, d1⟩ := hpp p hp
  have := wh_both (b := f_X3_whoStops_L2 a) (b' := f_X9_stopper_L2) (fun k s s' => s = (nI p, nI k, m) ∧ s' = (nI p, nI k, m')) (fun r r' => ∃ v, r = (v, m) ∧ r' = (v, m') ∧ (v = -2 ∨ ∃ q, q < P ∧ v = nI q)) P (fun k s s' hk hR => ?_) (fun s s' hR => ?_) 0 (nI p, 0, m) (nI p, 0, m') (Nat.zero_le _) ⟨rfl, rfl⟩
  · obtain ⟨r, r', q1, q2, v, rfl, rfl, q3⟩ := this
    exact ⟨v, q1, q2, q3⟩
  · obtain ⟨rfl, rfl⟩ := hR
    have nk : ¬ nI P ≤ nI k := nI_ge hk (by omega)
    have ck10 : ∀ {T : Type} (K : Option T), ck (nI k) 10 K = K := fun K => ck_in (by omega) (by decide)
    have ik : ix (nI k) = k := ix_n (by omega)
    obtain ⟨a2, -⟩ := htp k (by omega)
    obtain ⟨b2, b3⟩ := hw k hk
    obtain ⟨-, t2⟩ := there_v hB0 hf hk
    unfold f_X3_whoStops_L2 f_X9_stopper_L2 f_X9_stopper_J65 f_X9_stopper_J66
    simp only [n1, n2, nk, if_false, ck10, cp, ik, ip, e10, c42 p (by omega), c42 k (by omega), i42 p (by omega), i42 k (by omega), a1.2.1, a2.2.1, b1, b2, d1, t2, some_bind, bnd, nI_1, show ¬ ((1 : Int32) = 0) by decide, if_true]
    have nx : ∃ t t', (some (Sum.inl (nI p, nI (k + 1), m)) : Option ((Int32 × Int32 × Mem) ⊕ (Int32 × Mem))) = some (.inl t) ∧ (some (Sum.inl (nI p, nI (k + 1), m')) : Option ((Int32 × Int32 × Mem) ⊕ (Int32 × Mem))) = some (.inl t') ∧ t = (nI p, nI (k + 1), m) ∧ t' = (nI p, nI (k + 1), m') := ⟨_, _, rfl, rfl, rfl, rfl⟩
    by_cases c1 : nI k = nI p
    · rw [if_pos c1, if_pos c1]
      exact Or.inl nx
    · rw [if_neg c1, if_neg c1]
      cases hT : Th m' k
      · have w0 := b3 hT
        rw [if_pos (show bi false = 0 from rfl)]
        have hle : gI m' 98 k ≤ gI m' 98 p := by rw [w0]; exact Int32.le_of_lt (Int32.not_le.mp hp0)
        left
        have : (if nI k = gI m' 99 p then (some (Sum.inl (nI p, nI (k + 1), m)) : Option ((Int32 × Int32 × Mem) ⊕ (Int32 × Mem))) else if gI m' 86 (10 + k) < gI m' 86 (10 + p) + 3 then some (Sum.inl (nI p, nI (k + 1), m)) else if gI m' 98 k ≤ gI m' 98 p then some (Sum.inl (nI p, nI (k + 1), m)) else up (some (nI k, m))) = some (Sum.inl (nI p, nI (k + 1), m)) := by
          rw [if_pos hle]
          split
          · rfl
          · split <;> rfl
        rw [this]
        exact nx
      · rw [if_neg (show ¬ bi true = 0 by decide)]
        by_cases c2 : gI m' 86 (10 + k) < gI m' 86 (10 + p) + 3
        · simp only [c2, if_true, ite_self]
          exact Or.inl nx
        · simp only [c2, if_false]
          by_cases c3 : gI m' 98 k ≤ gI m' 98 p
          · simp only [c3, if_true, ite_self]
            exact Or.inl nx
          · simp only [c3, if_false]
            by_cases c4 : nI k = gI m' 99 p
            · rw [if_pos c4, if_pos c4.symm]
              exact Or.inl nx
            · rw [if_neg c4, if_neg (fun z => c4 z.symm)]
              exact Or.inr ⟨_, _, rfl, rfl, nI k, rfl, rfl, Or.inr ⟨k, hk, rfl⟩⟩
  · obtain ⟨rfl, rfl⟩ := hR
    unfold f_X3_whoStops_L2 f_X9_stopper_L2
    simp only [n1, n2, nI_le (Nat.le_refl P) (show P < 2 ^ 31 by omega), if_true, up_some]
    exact ⟨_, _, rfl, rfl, -2, rfl, rfl, Or.inl rfl⟩
