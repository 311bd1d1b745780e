/-! A MEETING: one thing -/
theorem RL_cong {a C P S : Nat} {m m' n n' : Mem} (h : RL a C P S m m') (hs : RAS a m n) (hs' : RAS' m' n') : RL a C P S n n' := by
  obtain ⟨h1, h2, h3⟩ := h
  obtain ⟨-, -, s3⟩ := hs
  obtain ⟨-, -, z3⟩ := hs'
  unfold RL Sd
  simp only [s3 1 (by decide), s3 5 (by decide), s3 6 (by decide), s3 7 (by decide), z3 100 (by decide), z3 104 (by decide), z3 105 (by decide), z3 106 (by decide), z3 107 (by decide), z3 108 (by decide), z3 109 (by decide), z3 110 (by decide)]
  exact ⟨h1, h2, h3⟩
theorem loop_v {a P T C V t : Nat} (ha : MA a) (ht : t < T) : ∀ j S m m' spk, S + j = 200 → ¬ spk < (0 : Int32) → RA a P T C V S m m' → RL a C P S m m' → ∃ n n' S', wh (f_X3_discuss_L44 a) (nI t, spk, nI S, m) = some n ∧ wh f_X9_oneThing_L38 (nI t, 1, m') = some n' ∧ RA a P T C V S' n n' ∧ RL a C P S' n n' ∧ (∀ k, k < C → Sd n' k = true → Sd m' k = true ∨ gI m' 91 k = nI t) ∧ TS' m' n' ∧ gI n' 85 26 = gI m' 85 26 := by
  intro j
  induction j with
  | zero =>
    intro S m m' spk e hs h hL
    have eS : S = 200 := by omega
    subst eS
    have f2 := h.2.1.1.2.1
    have n6 := h.1.1.2.1.2.2
    refine ⟨m, m', 200, wh_done ?_, wh_done ?_, h, hL, fun k _ q => Or.inl q, TS'.rf, rfl⟩
    · unfold f_X3_discuss_L44
      rw [if_pos (show (200 : Int32) ≤ nI 200 by decide)]; rfl
    · unfold f_X9_oneThing_L38
      simp only [show ¬ ((1 : Int32) = 0) by decide, if_false, f2, ck_in (show t < 6 by omega) (show 6 < 2 ^ 31 by decide), show (200 : Int32) ≤ nI 200 by decide, if_true, ite_self]
      rfl
  | succ j ih =>
    intro S m m' spk e hs h hL
    have h0 := h
    obtain ⟨hB, hf, hpp, hk, htt⟩ := h
    obtain ⟨⟨⟨n1, n2, n3⟩, ⟨n4, n5, n6⟩, ⟨n7, n8, n9⟩, n0⟩, -⟩ := hB
    have f2 := hf.1.2.1
    have ct : ∀ {T : Type} (K : Option T), ck (nI t) 6 K = K := fun K => ck_in (by omega) (by decide)
    have it : ix (nI t) = t := ix_n (by omega)
    have nS : ¬ (200 : Int32) ≤ nI S := nI_ge (a := S) (b := 200) (by omega) (by decide)
    have y1 := (htt t ht).1
    by_cases c60 : (60 : Int32) ≤ gI m' 102 t
    · refine ⟨m, m', S, wh_done ?_, wh_done ?_, h0, hL, fun k _ q => Or.inl q, TS'.rf, rfl⟩
      · unfold f_X3_discuss_L44
        simp only [nS, hs, if_false, ct, it, y1, c60, if_true]
        rfl
      · unfold f_X9_oneThing_L38
        simp only [show ¬ ((1 : Int32) = 0) by decide, if_false, ct, it, c60, if_true]
        rfl
    · obtain ⟨n1', n2', w1, w2, w3, w4, w5, w6⟩ := weigh_v ha ht P 0 m m' (by omega) h0 (fun p hp => absurd hp (Nat.not_lt_zero p))
      have w30 := w3
      obtain ⟨gB, gf, gpp, gk, gtt⟩ := w3
      have gB0 := gB
      obtain ⟨⟨⟨g1, g2, g3⟩, -⟩, gtp, -⟩ := gB
      have hNX : NX a P (Th n2') n1' n2' := ⟨⟨g1, g2, g3⟩, fun p hp => by
        obtain ⟨z1, z2⟩ := there_v gB0 gf hp
        exact ⟨(w4 p hp).1, z1, z2, (w4 p hp).2⟩, fun p hp => by
        obtain ⟨⟨z1, -⟩, z2, -⟩ := gtp p (by omega)
        exact ⟨z1, z2⟩, fun p hp => (gpp p hp).1, gf.2.2.1, gf.2.2.2.1⟩
      obtain ⟨v, v1, v2, v3⟩ := next_v hNX
      have hW : f_X3_weigh a (nI t) m = some n1' := w1
      have gL := RL_cong hL w5 w6
      have hSd : ∀ k, Sd n2' k = Sd m' k := fun k => Sd_cong (w6.2.2 100 (by decide) k)
      have h91 : ∀ k, gI n2' 91 k = gI m' 91 k := fun k => w6.1.1 91 (by decide) k
      have hR0 : f_X9_oneThing_L38 (nI t, 1, m') = wh f_X9_oneThing_L65 (nI t, nI P, n2') := by
        rw [← w2]
        unfold f_X9_oneThing_L38
        simp only [show ¬ ((1 : Int32) = 0) by decide, if_false, ct, it, c60, f2, nS]
        rfl
      have hP65 : f_X9_oneThing_L65 (nI t, nI P, n2') = up (if v < 0 then f_X9_oneThing_J148 (nI t) v 0 n2' else f_X9_oneThing_J148 (nI t) v 1 n2') := by
        unfold f_X9_oneThing_L65
        simp only [g2, nI_le (Nat.le_refl P) (show P < 2 ^ 31 by omega), if_true, v2, some_bind]
      rcases v3 with rfl | ⟨q, hq, rfl, hq0⟩
      · -- nobody
        refine ⟨n1', n2', S, (wh_inl (s' := (nI t, -1, nI (S + 1), n1')) ?_).trans (wh_done ?_), (wh_inl (s' := (nI t, 0, n2')) ?_).trans (wh_done ?_), w30, gL, fun k _ q => Or.inl (by rw [← hSd k]; exact q), w6.1, w6.2.1 26 (by decide) (by decide)⟩
        · unfold f_X3_discuss_L44
          simp only [nS, hs, if_false, ct, it, y1, c60, hW, v1, some_bind, show (-1 : Int32) < 0 by decide, if_true, bnd, nI_1]
        · unfold f_X3_discuss_L44
          simp only [show (-1 : Int32) < 0 by decide, if_true, ite_self]
          rfl
        · rw [hR0]
          refine wh_done ?_
          rw [hP65, if_pos (by decide)]
          rfl
        · unfold f_X9_oneThing_L38
          rw [if_pos rfl]; rfl
      · have hv0 : ¬ nI q < 0 := nn_lt0 (by omega)
        obtain ⟨n, n', s1, s2, s3, s4, s5⟩ := speak_v ha w30 gL w4 hq ht hq0 (show S < 200 by omega)
        have FY := fr_X9_speaks s2
        have t1 : TS' m' n' := w6.1.tr (TS'_fr FY rfl)
        have t2 : gI n' 85 26 = gI m' 85 26 := (fr_I FY 85 26 rfl).trans (w6.2.1 26 (by decide) (by decide))
        obtain ⟨r, r', S', z1, z2, z3, z4, z5, z6, z7⟩ := ih (S + 1) n n' (nI q) (by omega) hv0 s3 s4
        refine ⟨r, r', S', (wh_inl (s' := (nI t, nI q, nI (S + 1), n)) ?_).trans z1, (wh_inl (s' := (nI t, 1, n')) ?_).trans z2, z3, z4, fun k hk2 hs2 => ?_, t1.tr z6, z7.trans t2⟩
        · unfold f_X3_discuss_L44
          simp only [nS, hs, if_false, ct, it, y1, c60, hW, v1, some_bind, hv0, s1, bnd, nI_1]
        · rw [hR0]
          refine wh_done ?_
          rw [hP65, if_neg hv0]
          unfold f_X9_oneThing_J148
          rw [if_neg (show ¬ ((1 : Int32) = 0) by decide), s2]
          rfl
        · rcases z5 k hk2 hs2 with x | x
          · rcases s5 k hk2 x with x | x
            · exact Or.inl (by rw [← hSd k]; exact x)
            · exact Or.inr (by rw [← h91 k]; exact x)
          · exact Or.inr (by rw [← t1.1 91 (by decide) k]; exact x)
theorem fillI_v (ar n : Nat) (hn : n < 2 ^ 31) (v : Int32) (m : Mem) : ∃ q, f_J7_fill_53178 ar n v m = some q ∧ ∀ c i, gI q c i = if c = ar ∧ i < n then v else gI m c i := by
  refine ⟨itM (fun a k => sI a ar k v) m n, ?_, fun c i => it_I ar (fun _ _ => v) m n c i⟩
  unfold f_J7_fill_53178
  refine wh_it (fun a k => sI a ar k v) (fun a k => (v, nI k, nI n, a)) n _ m (fun k hk => ?_) ?_
  · unfold f_J7_fill_53178_L5
    rw [if_neg (nI_ge hk hn), ck_in hk hn]
    simp only [bnd, ix_n (show k < 2 ^ 31 by omega), nI_1]
  · unfold f_J7_fill_53178_L5
    rw [if_pos (nI_le (Nat.le_refl n) hn)]
    rfl
def RA0 (a P T C V S : Nat) (m m' : Mem) : Prop := TB P T C V m m' ∧ RF a P S m m' ∧ (∀ p, p < P → gI m (a + 11) p = gI m' 99 p) ∧ RK a C m m' ∧ RTh a T S m m'
theorem RA.to0 {a P T C V S : Nat} {m m' : Mem} (h : RA a P T C V S m m') : RA0 a P T C V S m m' := ⟨h.1, h.2.1, fun p hp => (h.2.2.1 p hp).2, h.2.2.2⟩
/-- before the first saying on a thing -/
theorem begin_v {a P T C V S t : Nat} {m m' : Mem} (ha : MA a) (h : RA0 a P T C V S m m') (hL : RL a C P S m m') (ht : t < T) (hun : ∀ k, k < C → gI m' 91 k = nI t → Sd m' k = false) : ∃ q r, f_X3_discuss a (nI t) m = wh (f_X3_discuss_L44 a) (nI t, 0, nI S, q) ∧ f_X9_oneThing (nI t) m' = wh f_X9_oneThing_L38 (nI t, 1, r) ∧ RA a P T C V S q r ∧ RL a C P S q r ∧ (∀ k, k < C → Sd r k = true → Sd m' k = true ∨ gI m' 91 k = nI t) ∧ TS' m' r ∧ gI r 85 26 = gI m' 85 26 := by
  have h0 := h
  obtain ⟨hB, hf, hpp, hk, htt⟩ := h
  have hB0 := hB
  have hf0 := hf
  obtain ⟨⟨⟨n1, n2, n3⟩, ⟨n4, n5, n6⟩, ⟨n7, n8, n9⟩, n0⟩, -, -, -, hb, -⟩ := hB
  obtain ⟨⟨f1, f2, f3⟩, ⟨U, u1, u2, u3⟩, ⟨l1, l2⟩, rr1, ⟨t1, t2⟩, b1⟩ := hf
  have ct : ∀ {T : Type} (K : Option T), ck (nI t) 6 K = K := fun K => ck_in (by omega) (by decide)
  have it : ix (nI t) = t := ix_n (by omega)
  have hma := ha
  unfold MA at hma
  obtain ⟨q1, x1, x2⟩ := fillI_v (a + 10) 10 (by decide) 0 m
  have Fq1 := fr_J7_fill_53178 x1
  have o1 : ∀ c i, c ≠ a + 10 → gI q1 c i = gI m c i := fun c i hc => by rw [x2, if_neg (fun z => hc z.1)]
  have T1 : TS m q1 := TS_fr Fq1 (by rcases ha with rfl | rfl | rfl <;> rfl)
  -- the reset of the reference's counts
  have reset : ∀ r1 : Mem, gI r1 85 6 = nI P → ∃ r, wh f_X9_oneThing_L15 (nI t, 0, r1) = wh f_X9_oneThing_L38 (nI t, 1, r) ∧ (∀ c i, gI r c i = if c = 97 ∧ i < P then 0 else gI r1 c i) ∧ Fr [(97, none)] r1 r := fun r1 h6 => by
    have hit : ∀ n c' i, gI (itM (fun a k => sI a 97 k (0 : Int32)) r1 n) c' i = if c' = 97 ∧ i < n then 0 else gI r1 c' i := fun n c' i => it_I 97 (fun _ _ => (0 : Int32)) r1 n c' i
    have h6' : ∀ n, gI (itM (fun a k => sI a 97 k (0 : Int32)) r1 n) 85 6 = nI P := fun n => by rw [hit, if_neg (fun z => absurd z.1 (by decide)), h6]
    refine ⟨itM (fun a k => sI a 97 k (0 : Int32)) r1 P, ?_, hit P, ?_⟩
    · have key : ∀ j k, k + j = P → wh f_X9_oneThing_L15 (nI t, nI k, itM (fun a k => sI a 97 k (0 : Int32)) r1 k) = wh f_X9_oneThing_L38 (nI t, 1, itM (fun a k => sI a 97 k (0 : Int32)) r1 P) := by
        intro j
        induction j with
        | zero =>
          intro k e
          have ek : k = P := by omega
          subst ek
          have e15 : f_X9_oneThing_L15 (nI t, nI k, itM (fun a k => sI a 97 k (0 : Int32)) r1 k) = up (wh f_X9_oneThing_L38 (nI t, 1, itM (fun a k => sI a 97 k (0 : Int32)) r1 k)) := by
            unfold f_X9_oneThing_L15
            simp only [h6', nI_le (Nat.le_refl k) (show k < 2 ^ 31 by omega), if_true]
          cases hx : wh f_X9_oneThing_L38 (nI t, 1, itM (fun a k => sI a 97 k (0 : Int32)) r1 k) with
          | some z => rw [hx] at e15; exact wh_done e15
          | none =>
            rw [hx] at e15
            cases hy : wh f_X9_oneThing_L15 (nI t, nI k, itM (fun a k => sI a 97 k (0 : Int32)) r1 k) with
            | none => rfl
            | some z =>
              obtain ⟨n, hn⟩ := wh_to hy
              cases n with
              | zero => cases hn
              | succ n => unfold itr at hn; rw [e15] at hn; cases hn
        | succ j ih =>
          intro k e
          have e15 : f_X9_oneThing_L15 (nI t, nI k, itM (fun a k => sI a 97 k (0 : Int32)) r1 k) = some (.inl (nI t, nI (k + 1), itM (fun a k => sI a 97 k (0 : Int32)) r1 (k + 1))) := by
            unfold f_X9_oneThing_L15
            simp only [h6', nI_ge (show k < P by omega) (show P < 2 ^ 31 by omega), if_false, ck_in (show k < 10 by omega) (show 10 < 2 ^ 31 by decide), ix_n (show k < 2 ^ 31 by omega), bnd, nI_1]
            rfl
          rw [wh_inl e15]
          exact ih (k + 1) (by omega)
      exact key P 0 (by omega)
    · refine ⟨fun c i hq => ⟨?_, ?_⟩, fun _ => ?_⟩
      · have hc : c ≠ 97 := fun e => hq (97, none) (by simp) e.symm (Or.inl rfl)
        have := hit P c i
        rw [if_neg (fun z => hc z.1)] at this
        exact this
      · have : ∀ n, (itM (fun a k => sI a 97 k (0 : Int32)) r1 n).2.1 = r1.2.1 := fun n => by
          induction n with
          | zero => rfl
          | succ n ih => exact ih
        rw [this]
      · have : ∀ n, (itM (fun a k => sI a 97 k (0 : Int32)) r1 n).2.2 = r1.2.2 := fun n => by
          induction n with
          | zero => rfl
          | succ n ih => exact ih
        exact this P
  -- both sides after the paper, with the set that was written
  have fin : ∀ (x : Int32) (q r1 r : Mem), (∀ i, i < 32 → bt x i = true → i < C ∧ Sd m' i = false ∧ gI m' 91 i = nI t) → TS m q → (∀ i, i ≠ 9 → gI q a i = gI m a i) → gI q a 9 = (gI m a 9 ||| x) → (∀ k, gI q (a + 3) k = (if k < C ∧ bt x k = true then -1 else gI m (a + 3) k) ∧ gI q (a + 4) k = if k < C ∧ bt x k = true then -1 else gI m (a + 4) k) → (∀ p, p < 10 → gI q (a + 10) p = 0) → (∀ j i, (j = 1 ∨ j = 2 ∨ j = 5 ∨ j = 6 ∨ j = 7 ∨ j = 11) → gI q (a + j) i = gI m (a + j) i) → TS' m' r1 → (∀ k, gI r1 100 k = (if k < C ∧ bt x k = true then -1 else gI m' 100 k) ∧ gI r1 101 k = if k < C ∧ bt x k = true then -1 else gI m' 101 k) → (∀ c i, (c = 85 ∧ 26 ≤ i ∧ i ≤ 31 ∨ c = 99 ∨ 102 ≤ c ∧ c ≤ 110) → gI r1 c i = gI m' c i) → (∀ c i, gI r c i = if c = 97 ∧ i < P then 0 else gI r1 c i) → Fr [(97, none)] r1 r → RA a P T C V S q r ∧ RL a C P S q r ∧ (∀ k, k < C → Sd r k = true → Sd m' k = true ∨ gI m' 91 k = nI t) ∧ TS' m' r ∧ gI r 85 26 = gI m' 85 26 := fun x q r1 r hx hTq hqa hq9 hq3 hq10 hqj hTr hr1 hrc hrr hFr => by
    have TR : TS' m' r := hTr.tr (TS'_fr hFr rfl)
    have rr : ∀ c i, c ≠ 97 → gI r c i = gI r1 c i := fun c i hc => by rw [hrr, if_neg (fun z => hc z.1)]
    have ra : ∀ i, 26 ≤ i → i ≤ 31 → gI r 85 i = gI m' 85 i := fun i h1 h2 => by rw [rr 85 i (by decide), hrc 85 i (Or.inl ⟨rfl, h1, h2⟩)]
    have rc : ∀ c i, (c = 99 ∨ 102 ≤ c ∧ c ≤ 110) → gI r c i = gI m' c i := fun c i hc => by rw [rr c i (by omega), hrc c i (Or.inr hc)]
    have hSr : ∀ k, k < C → Sd r k = (bt x k || Sd m' k) := fun k hk2 => by
      unfold Sd
      rw [rr 100 k (by decide), (hr1 k).1]
      by_cases c : bt x k = true
      · rw [if_pos ⟨hk2, c⟩, c, Bool.true_or, decide_eq_false (by decide)]; rfl
      · rw [if_neg (fun z => c z.2), show bt x k = false by simpa using c, Bool.false_or]
    refine ⟨⟨TB_cong hB0 hTq TR, ⟨⟨by rw [hqa 7 (by decide), f1], by rw [ra 30 (by decide) (by decide), f2], f3⟩, ⟨U, u1, by rw [hqa 8 (by decide), u2], by rw [ra 29 (by decide) (by decide), u3]⟩, ?_, ?_, ?_, ?_⟩, fun p hp => ⟨?_, ?_⟩, ⟨fun k hk2 => ⟨?_, ?_⟩, fun i hi => ?_⟩, fun u hu => ?_⟩, ⟨fun i hi => ?_, fun i hi => ?_, fun u hu => ?_⟩, fun k hk2 hs => ?_, TR, ra 26 (by decide) (by decide)⟩
    · rw [hqa 18 (by decide), ra 31 (by decide) (by decide)]; exact ⟨l1, l2⟩
    · rw [hqa 15 (by decide), ra 26 (by decide) (by decide)]; exact rr1
    · rw [hqa 16 (by decide), ra 27 (by decide) (by decide)]; exact ⟨t1, t2⟩
    · rw [hqa 17 (by decide), ra 28 (by decide) (by decide)]; exact b1
    · rw [hq10 p (by omega), hrr, if_pos ⟨rfl, hp⟩]
    · rw [hqj 11 p (by decide), rc 99 p (by decide)]; exact hpp p hp
    · rw [(hq3 k).1, rr 100 k (by decide), (hr1 k).1, (hk.1 k hk2).1]
    · rw [(hq3 k).2, rr 101 k (by decide), (hr1 k).2, (hk.1 k hk2).2]
    · rw [hq9, b_or, hk.2 i hi]
      by_cases c : i < C
      · rw [decide_eq_true c, Bool.true_and, Bool.true_and, hSr i c, Bool.or_comm]
      · rw [decide_eq_false c, Bool.false_and, Bool.false_or, Bool.false_and]
        cases d : bt x i
        · rfl
        · exact absurd (hx i hi d).1 c
    · rw [hqj 2 u (by decide), rc 102 u (by decide)]; exact htt u hu
    · rw [hqj 1 _ (by decide), hqj 1 _ (by decide), hqj 1 _ (by decide), hqj 1 _ (by decide), hqj 1 _ (by decide), hqj 1 _ (by decide), hqj 1 _ (by decide), rc 104 i (by decide), rc 105 i (by decide), rc 106 i (by decide), rc 107 i (by decide), rc 108 i (by decide), rc 109 i (by decide), rc 110 i (by decide)]
      exact hL.1 i hi
    · rw [rc 109 i (by decide)]
      rcases hL.2.1 i hi with z | ⟨k, z1, z2, z3⟩
      · exact Or.inl z
      · exact Or.inr ⟨k, z1, z2, by rw [hSr k z1, z3, Bool.or_true]⟩
    · have keep : ∀ y : Int32, (y = -2 ∨ ∃ k, k < C ∧ y = nI k ∧ Sd m' k = true) → (0 ≤ y ∧ 0 ≤ gI r 100 (ix y) ∧ ¬ gI r 100 (ix y) = nI u ↔ 0 ≤ y ∧ 0 ≤ gI m' 100 (ix y) ∧ ¬ gI m' 100 (ix y) = nI u) := fun y hy => by
        rcases hy with rfl | ⟨k, z1, rfl, z3⟩
        · exact ⟨fun z => absurd z.1 (by decide), fun z => absurd z.1 (by decide)⟩
        · rw [ix_n (by omega), rr 100 k (by decide), (hr1 k).1, if_neg (fun z => by
            have := (hx k (by omega) z.2).2.1
            rw [z3] at this
            cases this)]
      rw [hqj 7 u (by decide), hqj 5 u (by decide), hqj 6 u (by decide)]
      obtain ⟨s7, s5, s6⟩ := hL.2.2 u hu
      refine ⟨s7.trans (sm_cong (fun i hi => ?_)), s5.trans (sm_cong (fun i hi => ?_)), s6.trans (sm_cong (fun i hi => ?_))⟩
      · rw [rc 104 i (by decide), rc 107 i (by decide)]
      · rw [rc 110 i (by decide)]
      · rw [rc 104 i (by decide), rc 109 i (by decide)]
        simp only [keep _ (hL.2.1 i hi)]
    · rw [hSr k hk2] at hs
      cases d : bt x k
      · rw [d, Bool.false_or] at hs; exact Or.inl hs
      · exact Or.inr (hx k (by omega) d).2.2
  have hD : f_X3_discuss a (nI t) m = if ¬ (gI q1 a 15) = (5 : Int32) then wh (f_X3_discuss_L44 a) (nI t, 0, gI q1 a 7, q1) else (f_X3_writeDown a (nI t) q1).bind (fun q8 => wh (f_X3_discuss_L44 a) (nI t, 0, gI q8 a 7, q8)) := by
    unfold f_X3_discuss
    rw [if_neg (nn_lt0 (by omega)), n4, if_pos (nI_lt ht (by omega)), x1, some_bind]
    rfl
  have e15 : gI q1 a 15 = gI m' 85 26 := by rw [o1 a 15 (by omega), rr1]
  have e7 : gI q1 a 7 = nI S := by rw [o1 a 7 (by omega), f1]
  by_cases hp5 : gI m' 85 26 = 5
  · -- paper
    have hBq : TB P T C V q1 m' := TB_cong hB0 T1 TS'.rf
    have hfq : RF a P S q1 m' := by
      unfold RF
      rw [o1 a 7 (by omega), o1 a 8 (by omega), o1 a 18 (by omega), o1 a 15 (by omega), o1 a 16 (by omega), o1 a 17 (by omega)]
      exact hf0
    obtain ⟨y, y1, y2⟩ := cardsThere_v hBq hfq
    obtain ⟨q8, z1, z2, z3⟩ := sayFirst_v (C := C) ha (m := q1) (by rw [o1 1 15 (by omega), n7]) n9 (y &&& gI q1 13 t) (-1) (-1)
    have F8 := fr_X3_sayFirst z1
    have hwd : f_X3_writeDown a (nI t) q1 = some q8 := by
      unfold f_X3_writeDown
      simp only [y1, some_bind, ct, it, bnd, z1]
    have e15' : gI q1 a 15 = 5 := e15.trans hp5
    obtain ⟨r1', p1, p2⟩ := paper_v (t := t) n2 n3 n8 n9
    have FP := fr_X9_putsPaper p1
    obtain ⟨r, w1, w2, w3⟩ := reset r1' ((fr_I FP 85 6 rfl).trans n2)
    have hq7 : gI q8 a 7 = nI S := (fr_I F8 a 7 (by rcases ha with rfl | rfl | rfl <;> rfl)).trans e7
    have hb13 : ∀ i, i < 32 → bt (y &&& gI q1 13 t) i = (decide (i < C) && PW m' P t i) := fun i hi => by
      rw [b_and, y2 i hi, T1.1 13 (by decide) (by decide), hb.2 t (by omega) i hi]
      by_cases c : i < C
      · rw [decide_eq_true c, Bool.true_and, Bool.true_and, Bool.true_and]
        unfold PW
        have h8 := (hB0.2.2.2.1 i (by omega)).1.1
        rw [h8]
        by_cases d : gI m' 91 i = nI t
        · rw [decide_eq_true d, hun i c d]; simp
        · rw [decide_eq_false d]; simp
      · rw [decide_eq_false c]; rfl
    have hs8 : ∀ c i, c ≠ a + 3 → c ≠ a + 4 → c ≠ a → gI q8 c i = gI q1 c i := fun c i h1 h2 h3 => fr_c F8 c i (fun z hz => by
      simp only [List.mem_cons, List.not_mem_nil, or_false] at hz
      rcases hz with rfl | rfl | rfl
      · exact fun e => h1 e.symm
      · exact fun e => h2 e.symm
      · exact fun e => h3 e.symm)
    refine ⟨q8, r, ?_, ?_, fin (y &&& gI q1 13 t) q8 r1' r (fun i hi hbi => ?_) ?_ (fun i hi => ?_) ?_ (fun k => ?_) (fun p hp => ?_) (fun j i hj => ?_) (TS'_fr FP rfl) (fun k => ?_) (fun c i hc => ?_) w2 w3⟩
    · rw [hD, if_neg (fun z => z e15'), hwd, some_bind, hq7]
    · unfold f_X9_oneThing
      rw [if_neg (fun z => z hp5), p1, some_bind, w1]
    · rw [hb13 i hi] at hbi
      by_cases c : i < C
      · rw [decide_eq_true c, Bool.true_and] at hbi
        unfold PW at hbi
        cases d : decide (gI m' 91 i = nI t)
        · rw [d] at hbi; cases hbi
        · cases e : Sd m' i
          · exact ⟨c, rfl, of_decide_eq_true d⟩
          · rw [d, e] at hbi; cases hbi
      · rw [decide_eq_false c] at hbi; cases hbi
    · exact T1.tr (TS_fr F8 (by rcases ha with rfl | rfl | rfl <;> rfl))
    · have : gI q8 a i = gI q1 a i := (F8.1 a i (fun z h1 h2 h3 => by
        simp only [List.mem_cons, List.not_mem_nil, or_false] at h1
        rcases h1 with rfl | rfl | rfl
        · simp at h2
        · simp at h2
        · simp at h3; exact hi h3.symm)).1
      rw [this, o1 a i (by omega)]
    · rw [z2, o1 a 9 (by omega)]
    · rw [(z3 k).1, (z3 k).2, o1 _ _ (show a + 3 ≠ a + 10 by omega), o1 _ _ (show a + 4 ≠ a + 10 by omega)]
      exact ⟨rfl, rfl⟩
    · rw [hs8 _ _ (by omega) (by omega) (by omega), x2, if_pos ⟨rfl, hp⟩]
    · rw [hs8 _ _ (by omega) (by omega) (by omega), o1 _ _ (by omega)]
    · have hbk : (k < C ∧ bt (y &&& gI q1 13 t) k = true) ↔ (k < C ∧ PW m' P t k = true) := ⟨fun z => ⟨z.1, by have := z.2; rw [hb13 k (by omega), decide_eq_true z.1, Bool.true_and] at this; exact this⟩, fun z => ⟨z.1, by rw [hb13 k (by omega), decide_eq_true z.1, Bool.true_and]; exact z.2⟩⟩
      rw [(p2 k).1, (p2 k).2]
      simp only [hbk, and_self]
    · exact fr_c FP c i (fun z hz => by
        simp only [List.mem_cons, List.not_mem_nil, or_false] at hz
        rcases hz with rfl | rfl <;> (simp only; omega))
  · have e15' : ¬ gI q1 a 15 = 5 := fun z => hp5 (e15.symm.trans z)
    obtain ⟨r, w1, w2, w3⟩ := reset m' n2
    refine ⟨q1, r, ?_, ?_, fin 0 q1 m' r (fun i hi hbi => by rw [b_0] at hbi; cases hbi) T1 (fun i hi => o1 a i (by omega)) ?_ (fun k => ?_) (fun p hp => ?_) (fun j i hj => o1 _ _ (by omega)) TS'.rf (fun k => ?_) (fun c i hc => rfl) w2 w3⟩
    · rw [hD, if_pos e15', e7]
    · unfold f_X9_oneThing
      rw [if_pos hp5, w1]
    · rw [o1 a 9 (by omega), Int32.or_zero]
    · rw [b_0, if_neg (fun z => by cases z.2), if_neg (fun z => by cases z.2), o1 _ _ (by omega), o1 _ _ (by omega)]
      exact ⟨rfl, rfl⟩
    · rw [x2, if_pos ⟨rfl, hp⟩]
    · rw [b_0, if_neg (fun z => by cases z.2), if_neg (fun z => by cases z.2)]
      exact ⟨rfl, rfl⟩
theorem discuss_v {a P T C V S t : Nat} {m m' : Mem} (ha : MA a) (h : RA0 a P T C V S m m') (hL : RL a C P S m m') (ht : t < T) (hun : ∀ k, k < C → gI m' 91 k = nI t → Sd m' k = false) : ∃ n n' S', f_X3_discuss a (nI t) m = some n ∧ f_X9_oneThing (nI t) m' = some n' ∧ RA a P T C V S' n n' ∧ RL a C P S' n n' ∧ (∀ k, k < C → Sd n' k = true → Sd m' k = true ∨ gI m' 91 k = nI t) ∧ TS' m' n' := by
  obtain ⟨q, r, b1, b2, b3, b4, b5, b6, b7⟩ := begin_v ha h hL ht hun
  have hS := b3.2.1.1.2.2
  obtain ⟨n, n', S', c1, c2, c3, c4, c5, c6, -⟩ := loop_v ha ht (200 - S) S q r 0 (by omega) (by decide) b3 b4
  refine ⟨n, n', S', b1.trans c1, b2.trans c2, c3, c4, fun k hk hs => ?_, b6.tr c6⟩
  rcases c5 k hk hs with x | x
  · exact b5 k hk x
  · exact Or.inr (by rw [← b6.1 91 (by decide) k]; exact x)
