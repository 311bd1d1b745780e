/-! A MEETING: the wishes -/
def RA (a P T C V S : Nat) (m m' : Mem) : Prop := TB P T C V m m' ∧ RF a P S m m' ∧ RP a P m m' ∧ RK a C m m' ∧ RTh a T S m m'
def RAS (a : Nat) (m n : Mem) : Prop := TS m n ∧ (∀ i, 7 ≤ i → i ≤ 18 → gI n a i = gI m a i) ∧ ∀ j, (1 ≤ j ∧ j ≤ 7 ∨ j = 10 ∨ j = 11) → ∀ i, gI n (a + j) i = gI m (a + j) i
def RAS' (m n : Mem) : Prop := TS' m n ∧ (∀ i, 26 ≤ i → i ≤ 31 → gI n 85 i = gI m 85 i) ∧ ∀ c, (c = 97 ∨ 99 ≤ c ∧ c ≤ 110) → ∀ i, gI n c i = gI m c i
theorem RAS.rf {a : Nat} {m : Mem} : RAS a m m := ⟨TS.rf, fun _ _ _ => rfl, fun _ _ _ => rfl⟩
theorem RAS'.rf {m : Mem} : RAS' m m := ⟨TS'.rf, fun _ _ _ => rfl, fun _ _ _ => rfl⟩
theorem RAS.tr {a : Nat} {m n q : Mem} (h : RAS a m n) (k : RAS a n q) : RAS a m q := ⟨h.1.tr k.1, fun i h1 h2 => (k.2.1 i h1 h2).trans (h.2.1 i h1 h2), fun j hj i => (k.2.2 j hj i).trans (h.2.2 j hj i)⟩
theorem RAS'.tr {m n q : Mem} (h : RAS' m n) (k : RAS' n q) : RAS' m q := ⟨h.1.tr k.1, fun i h1 h2 => (k.2.1 i h1 h2).trans (h.2.1 i h1 h2), fun j hj i => (k.2.2 j hj i).trans (h.2.2 j hj i)⟩
theorem RA_cong {a P T C V S : Nat} {m m' n n' : Mem} (h : RA a P T C V S m m') (hs : RAS a m n) (hs' : RAS' m' n') : RA a P T C V S n n' := by
  obtain ⟨h1, ⟨⟨f1, f2, f3⟩, ⟨U, u1, u2, u3⟩, ⟨l1, l2⟩, r1, ⟨t1, t2⟩, b1⟩, hp, ⟨hk1, hk2⟩, ht⟩ := h
  obtain ⟨s1, s2, s3⟩ := hs
  obtain ⟨z1, z2, z3⟩ := hs'
  refine ⟨TB_cong h1 s1 z1, ⟨⟨(s2 7 (by decide) (by decide)).trans f1, (z2 30 (by decide) (by decide)).trans f2, f3⟩, ⟨U, u1, (s2 8 (by decide) (by decide)).trans u2, (z2 29 (by decide) (by decide)).trans u3⟩, ?_, ?_, ?_, ?_⟩, fun p hp9 => ?_, ⟨fun k hk => ?_, fun i hi => ?_⟩, fun t ht9 => ?_⟩
  · rw [s2 18 (by decide) (by decide), z2 31 (by decide) (by decide)]; exact ⟨l1, l2⟩
  · rw [s2 15 (by decide) (by decide), z2 26 (by decide) (by decide)]; exact r1
  · rw [s2 16 (by decide) (by decide), z2 27 (by decide) (by decide)]; exact ⟨t1, t2⟩
  · rw [s2 17 (by decide) (by decide), z2 28 (by decide) (by decide)]; exact b1
  · rw [s3 10 (by decide), s3 11 (by decide), z3 97 (by decide), z3 99 (by decide)]; exact hp p hp9
  · rw [s3 3 (by decide), s3 4 (by decide), z3 100 (by decide), z3 101 (by decide)]; exact hk1 k hk
  · unfold Sd
    rw [s2 9 (by decide) (by decide), z3 100 (by decide)]; exact hk2 i hi
  · rw [s3 2 (by decide), z3 102 (by decide)]; exact ht t ht9
theorem Th_cong {m' n' : Mem} (h : RAS' m' n') (p : Nat) : Th n' p = Th m' p := by
  unfold Th
  rw [h.2.1 28 (by decide) (by decide), h.2.1 29 (by decide) (by decide), h.1.1 86 (by decide)]
theorem fr_c {l : List (Nat × Option Nat)} {m n : Mem} (h : Fr l m n) (c i : Nat) (hc : ∀ q ∈ l, q.1 ≠ c) : gI n c i = gI m c i := (h.1 c i (fun q h1 h2 _ => hc q h1 h2)).1
theorem RAS_w {a : Nat} (ha : MA a) {m n : Mem} (h : Fr (l_X3_weigh a) m n) : RAS a m n := by
  unfold MA at ha
  refine ⟨TS_fr h (by rcases ha with rfl | rfl | rfl <;> rfl), fun i h1 h2 => fr_c h a i (fun q hq => ?_), fun j hj i => fr_c h (a + j) i (fun q hq => ?_)⟩
  · simp only [List.mem_cons, List.not_mem_nil, or_false] at hq
    rcases hq with rfl | rfl | rfl <;> (simp only; omega)
  · simp only [List.mem_cons, List.not_mem_nil, or_false] at hq
    rcases hq with rfl | rfl | rfl <;> (simp only; omega)
theorem RAS_w' {m n : Mem} (h : Fr [(96, none), (98, none), (85, some 20), (85, some 21), (85, some 22), (85, some 23), (85, some 24)] m n) : RAS' m n := by
  refine ⟨TS'_fr h rfl, fun i h1 h2 => (h.1 85 i (fun q hq hc hz => ?_)).1, fun c hj i => fr_c h c i (fun q hq => ?_)⟩
  · simp only [List.mem_cons, List.not_mem_nil, or_false] at hq
    rcases hq with rfl | rfl | rfl | rfl | rfl | rfl | rfl <;> simp at hz hc <;> omega
  · simp only [List.mem_cons, List.not_mem_nil, or_false] at hq
    rcases hq with rfl | rfl | rfl | rfl | rfl | rfl | rfl <;> (simp only; omega)
theorem Fr_I {l : List (Nat × Option Nat)} {m n : Mem} {a i : Nat} {x : Int32} (h : Fr l m n) (hm : (a, none) ∈ l) : Fr l m (sI n a i x) := by
  refine ⟨fun c j hq => ⟨?_, (h.1 c j hq).2⟩, h.2⟩
  have hc : c ≠ a := fun e => hq _ hm e.symm (Or.inl rfl)
  have := g_far n x (i := i) (j := j) hc
  exact this.trans (h.1 c j hq).1
theorem names_v {a p t : Nat} (ha : MA a) (hp : p < 10) (ht : t < 6) (m : Mem) {c : Int32} (hc : ∀ q, f_J6_bitCount_0f7a4 ((gI m 12 p &&& gI m 13 t) &&& (gI m a 9 ^^^ -1)) q = some (c, q)) : ∃ n, f_X3_namesOf a (nI p) (nI t) m = some n ∧ gI n (a + 8) 0 = gI m 2 p ∧ gI n (a + 8) 1 = gI m 3 p ∧ gI n (a + 8) 2 = gI m 7 t ∧ gI n (a + 8) 3 = c ∧ gI n (a + 8) 4 = gI m (a + 10) p ∧ gI n (a + 8) 5 = gI m (a + 2) t ∧ gI n (a + 8) 6 = nI p ∧ gI n (a + 8) 7 = if nI p = gI m a 18 then 1 else 0 := by
  have cp : ∀ {T : Type} (K : Option T), ck (nI p) 10 K = K := fun K => ck_in hp (by decide)
  have ct : ∀ {T : Type} (K : Option T), ck (nI t) 6 K = K := fun K => ck_in ht (by decide)
  have ip : ix (nI p) = p := ix_n (by omega)
  have it : ix (nI t) = t := ix_n (by omega)
  have k0 : ∀ {T : Type} (K : Option T), ck (0 : Int32) 8 K = K := fun K => rfl
  have k1 : ∀ {T : Type} (K : Option T), ck (1 : Int32) 8 K = K := fun K => rfl
  have k2 : ∀ {T : Type} (K : Option T), ck (2 : Int32) 8 K = K := fun K => rfl
  have k3 : ∀ {T : Type} (K : Option T), ck (3 : Int32) 8 K = K := fun K => rfl
  have k4 : ∀ {T : Type} (K : Option T), ck (4 : Int32) 8 K = K := fun K => rfl
  have k5 : ∀ {T : Type} (K : Option T), ck (5 : Int32) 8 K = K := fun K => rfl
  have k6 : ∀ {T : Type} (K : Option T), ck (6 : Int32) 8 K = K := fun K => rfl
  have k7 : ∀ {T : Type} (K : Option T), ck (7 : Int32) 8 K = K := fun K => rfl
  have i0 : ix (0 : Int32) = 0 := rfl
  have i1 : ix (1 : Int32) = 1 := rfl
  have i2 : ix (2 : Int32) = 2 := rfl
  have i3 : ix (3 : Int32) = 3 := rfl
  have i4 : ix (4 : Int32) = 4 := rfl
  have i5 : ix (5 : Int32) = 5 := rfl
  have i6 : ix (6 : Int32) = 6 := rfl
  have i7 : ix (7 : Int32) = 7 := rfl
  by_cases q : nI p = gI m a 18
  · have q' : (nI p = gI m a 18) = True := eq_true q
    rcases ha with rfl | rfl | rfl <;>
    · unfold f_X3_namesOf
      simp only [bnd, some_bind, g_sI, gJ_sI, gI_sJ, gJ_sJ, Nat.reduceEqDiff, false_and, and_false, true_and, and_true, if_false, if_true, reduceIte, not_false_eq_true, not_true_eq_false, Nat.reduceAdd, cp, ct, ip, it, k0, k1, k2, k3, k4, k5, k6, k7, i0, i1, i2, i3, i4, i5, i6, i7, hc, q']
      refine ⟨_, rfl, ?_⟩
      simp only [g_sI, gJ_sI, gI_sJ, gJ_sJ, Nat.reduceEqDiff, false_and, and_false, true_and, and_true, if_false, if_true, reduceIte, not_false_eq_true, not_true_eq_false, Nat.reduceAdd]
  · have q' : (nI p = gI m a 18) = False := eq_false q
    rcases ha with rfl | rfl | rfl <;>
    · unfold f_X3_namesOf
      simp only [bnd, some_bind, g_sI, gJ_sI, gI_sJ, gJ_sJ, Nat.reduceEqDiff, false_and, and_false, true_and, and_true, if_false, if_true, reduceIte, not_false_eq_true, not_true_eq_false, Nat.reduceAdd, cp, ct, ip, it, k0, k1, k2, k3, k4, k5, k6, k7, i0, i1, i2, i3, i4, i5, i6, i7, hc, q']
      refine ⟨_, rfl, ?_⟩
      simp only [g_sI, gJ_sI, gI_sJ, gJ_sJ, Nat.reduceEqDiff, false_and, and_false, true_and, and_true, if_false, if_true, reduceIte, not_false_eq_true, not_true_eq_false, Nat.reduceAdd]
def WI (a k : Nat) (m m' : Mem) : Prop := ∀ p, p < k → gI m (a + 9) p = gI m' 98 p ∧ (Th m' p = false → gI m' 98 p = 0)
theorem weigh_v {a P T C V S t : Nat} (ha : MA a) (ht : t < T) : ∀ j k m m', k + j = P → RA a P T C V S m m' → WI a k m m' → ∃ n n', wh (f_X3_weigh_L2 a) (nI t, nI k, m) = some n ∧ wh f_X9_oneThing_L65 (nI t, nI k, m') = wh f_X9_oneThing_L65 (nI t, nI P, n') ∧ RA a P T C V S n n' ∧ WI a P n n' ∧ RAS a m n ∧ RAS' m' n' := by
  intro j
  induction j with
  | zero =>
    intro k m m' e h hw
    have ek : k = P := by omega
    subst ek
    refine ⟨m, m', wh_done ?_, rfl, h, hw, RAS.rf, RAS'.rf⟩
    obtain ⟨⟨⟨n1, n2, n3⟩, -⟩, -⟩ := h.1
    unfold f_X3_weigh_L2
    simp only [n1, nI_le (Nat.le_refl k) (show k < 2 ^ 31 by omega), if_true, up_some]
  | succ j ih =>
    intro k m m' e h hw
    have h0 := h
    obtain ⟨hB, hf, hpp, hkk, htt⟩ := h
    have hB0 := hB
    obtain ⟨⟨⟨n1, n2, n3⟩, ⟨n4, n5, n6⟩, -⟩, htp, hth, -, -, -, val, hL, hL'⟩ := hB
    have hk : k < P := by omega
    have nk : ¬ nI P ≤ nI k := nI_ge hk (by omega)
    have ck10 : ∀ {T : Type} (K : Option T), ck (nI k) 10 K = K := fun K => ck_in (by omega) (by decide)
    have ct6 : ∀ {T : Type} (K : Option T), ck (nI t) 6 K = K := fun K => ck_in (by omega) (by decide)
    have ik : ix (nI k) = k := ix_n (by omega)
    have it : ix (nI t) = t := ix_n (by omega)
    obtain ⟨b1, b2⟩ := there_v hB0 hf hk
    -- what both do: one wish more
    have go : ∀ (x : Int32) (q q' : Mem), Fr (l_X3_weigh a) m q → Fr [(96, none), (98, none), (85, some 20), (85, some 21), (85, some 22), (85, some 23), (85, some 24)] m' q' → (Th m' k = false → x = 0) → (∀ p, p < k → gI q (a + 9) p = gI m (a + 9) p ∧ gI q' 98 p = gI m' 98 p) → f_X3_weigh_L2 a (nI t, nI k, m) = some (.inl (nI t, nI (k + 1), sI q (a + 9) k x)) → f_X9_oneThing_L65 (nI t, nI k, m') = some (.inl (nI t, nI (k + 1), sI q' 98 k x)) → ∃ n n', wh (f_X3_weigh_L2 a) (nI t, nI k, m) = some n ∧ wh f_X9_oneThing_L65 (nI t, nI k, m') = wh f_X9_oneThing_L65 (nI t, nI P, n') ∧ RA a P T C V S n n' ∧ WI a P n n' ∧ RAS a m n ∧ RAS' m' n' := fun x q q' F F' hx hold e1 e2 => by
      have s1 := RAS_w ha (Fr_I (i := k) (x := x) F (show (a + 9, none) ∈ l_X3_weigh a by simp))
      have s2 := RAS_w' (Fr_I (i := k) (x := x) F' (show (98, none) ∈ _ by simp))
      obtain ⟨n, n', o1, o2, o3, o4, o5, o6⟩ := ih (k + 1) (sI q (a + 9) k x) (sI q' 98 k x) (by omega) (RA_cong h0 s1 s2) (fun p hp => by
        rw [Th_cong s2, g_sI, g_sI]
        by_cases c : p = k
        · rw [if_pos ⟨rfl, c⟩, if_pos ⟨rfl, c⟩]
          subst c
          exact ⟨rfl, hx⟩
        · rw [if_neg (fun z => c z.2), if_neg (fun z => c z.2), (hold p (by omega)).1, (hold p (by omega)).2]
          exact hw p (by omega))
      exact ⟨n, n', (wh_inl e1).trans o1, (wh_inl e2).trans o2, o3, o4, s1.tr o5, s2.tr o6⟩
    cases hT : Th m' k
    · refine go 0 m m' Fr.rf Fr.rf (fun _ => rfl) (fun p hp => ⟨rfl, rfl⟩) ?_ ?_
      · unfold f_X3_weigh_L2
        simp only [n1, nk, if_false, b1, hT, some_bind, show bi false = 0 from rfl, if_true, ck10, ik, bnd, nI_1]
      · unfold f_X9_oneThing_L65
        simp only [n2, nk, if_false, b2, hT, some_bind, show bi false = 0 from rfl, if_true, ck10, ik, bnd, nI_1]
    · obtain ⟨q4, x1, x2, x3, x4, x5, x6, x7, x8, x9⟩ := names_v ha (show k < 10 by omega) (show t < 6 by omega) m (unsaid_X hB0 hkk (show k < 10 by omega) (show t < 6 by omega))
      have F4 := fr_X3_namesOf x1
      have hag : a + 8 = 37 ∨ a + 8 = 49 ∨ a + 8 = 65 := by unfold MA at ha; omega
      have T4 : TS m q4 := TS_fr F4 (by rcases ha with rfl | rfl | rfl <;> rfl)
      obtain ⟨q5, v1⟩ := hL q4 (a + 8) hag T4.2.2
      have F5 := fr_X2_value v1
      obtain ⟨p1, -⟩ := htp k (by omega)
      obtain ⟨t1, -⟩ := hth t (by omega)
      obtain ⟨k1, k2⟩ := hpp k hk
      obtain ⟨y1, -⟩ := htt t ht
      obtain ⟨l1, -⟩ := hf.2.2.1
      have hu := unsaid_v hB0 (show k < 10 by omega) (show t < 6 by omega)
      obtain ⟨q7, v2⟩ := hL' m' k t (nI (fb_ct (fun z => Kn m' k t z && !Sd m' z) C)) (gI m' 97 k) (gI m' 102 t) (if nI k = gI m' 85 31 then 1 else 0) (by omega) (by omega) ⟨rfl, fun _ => rfl⟩ (fun j => gI q4 (a + 8) j) (by rw [x2, p1.1]) (by rw [x3, p1.2.1]) (by rw [x4, t1.2]) x5 (by rw [x6, k1]) (by rw [x7, y1]) x8 (by rw [x9, l1])
      have F7 := fr_X9_wishOf v2
      refine go (val fun j => gI q4 (a + 8) j) q5 q7 ?_ ?_ (fun q => by rw [hT] at q; cases q) (fun p hp => ⟨?_, ?_⟩) ?_ ?_
      · exact (F4.sub (fun q hq => by simp only [List.mem_cons, List.not_mem_nil, or_false] at hq ⊢; exact Or.inr (Or.inl hq))).trans (F5.sub (fun q hq => by simp only [List.mem_cons, List.not_mem_nil, or_false] at hq ⊢; exact Or.inl hq))
      · exact F7.sub (fun q hq => by simp only [List.mem_cons, List.not_mem_nil, or_false] at hq ⊢; rcases hq with h | h | h | h | h | h <;> simp [h])
      · have g1 : gI q5 (a + 9) p = gI q4 (a + 9) p := fr_c F5 (a + 9) p (fun q hq => by simp only [List.mem_cons, List.not_mem_nil, or_false] at hq; subst hq; unfold MA at ha; simp only; omega)
        have g2 : gI q4 (a + 9) p = gI m (a + 9) p := fr_c F4 (a + 9) p (fun q hq => by simp only [List.mem_cons, List.not_mem_nil, or_false] at hq; subst hq; simp only; omega)
        exact g1.trans g2
      · exact fr_c F7 98 p (fun q hq => by simp only [List.mem_cons, List.not_mem_nil, or_false] at hq; rcases hq with h | h | h | h | h | h <;> (subst h; decide))
      · unfold f_X3_weigh_L2
        simp only [n1, nk, if_false, b1, hT, some_bind, show ¬ (bi true = 0) by decide, x1, v1, ck10, ik, bnd, nI_1]
      · unfold f_X9_oneThing_L65
        simp only [n2, nk, if_false, b2, hT, some_bind, show ¬ (bi true = 0) by decide, hu, ck10, ct6, ik, it, bnd, nI_1]
        by_cases c : nI k = gI m' 85 31
        · rw [if_pos c] at v2
          rw [if_neg (fun z => z c), v2]
          rfl
        · rw [if_neg c] at v2
          rw [if_pos c, v2]
          rfl
