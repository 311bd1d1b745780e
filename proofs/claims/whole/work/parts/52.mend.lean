/-! CHANGES: a change kept -/
theorem g_cI (m : Mem) (a : Nat) {s d n : Nat} (hs : s < 2 ^ 31) (hd : d < 2 ^ 31) (hn : n < 2 ^ 31) (c i : Nat) : gI (cI m a (nI s) a (nI d) (nI n)) c i = if c = a ∧ d ≤ i ∧ i < d + n then gI m a (s + (i - d)) else gI m c i := by
  show (if c = a then va_cpy (m.1 a) (m.1 a) _ _ _ else m.1 c) i = _
  rw [nI_clamp hs, nI_clamp hd, nI_clamp hn]
  by_cases hc : c = a
  · subst hc
    rw [if_pos rfl]
    unfold va_cpy
    by_cases h : d ≤ i ∧ i < d + n
    · rw [if_pos h, if_pos ⟨rfl, h⟩]; rfl
    · rw [if_neg h, if_neg (fun q => h q.2)]; rfl
  · rw [if_neg hc, if_neg (fun q => hc q.1)]; rfl
theorem drop_c {m : Mem} : ∃ n, f_X1_dropOldest m = some n ∧ gI n 19 4 = nI 39 ∧ gI n 19 5 = gI m 19 5 ∧ ∀ c, (c = 20 ∨ c = 21 ∨ c = 22 ∨ c = 23) → ∀ i, i < 39 → gI n c i = gI m c (i + 1) := by
  have ec : ∀ {T : Type} (K : Option T), cpk 1 0 39 40 40 K = K := fun K => rfl
  have e1 : ∀ m a c i, gI (cI m a 1 a 0 39) c i = if c = a ∧ 0 ≤ i ∧ i < 0 + 39 then gI m a (1 + (i - 0)) else gI m c i := fun m a c i => g_cI m a (s := 1) (d := 0) (n := 39) (by decide) (by decide) (by decide) c i
  unfold f_X1_dropOldest
  refine ⟨_, by simp only [bnd, ec]; rfl, ?_, ?_, fun c hc i hi => ?_⟩
  · simp only [g_sI, gJ_sI, gI_sJ, gJ_sJ, Nat.reduceEqDiff, false_and, and_false, true_and, and_true, if_false, if_true, reduceIte, not_false_eq_true, not_true_eq_false, e1]; rfl
  · simp only [g_sI, gJ_sI, gI_sJ, gJ_sJ, Nat.reduceEqDiff, false_and, and_false, true_and, and_true, if_false, if_true, reduceIte, not_false_eq_true, not_true_eq_false, e1]
  · have h1 : 0 ≤ i ∧ i < 0 + 39 := ⟨Nat.zero_le _, by omega⟩
    have h2 : 1 + (i - 0) = i + 1 := by omega
    rcases hc with rfl | rfl | rfl | rfl <;> simp only [g_sI, gJ_sI, gI_sJ, gJ_sJ, Nat.reduceEqDiff, false_and, and_false, true_and, and_true, if_false, if_true, reduceIte, not_false_eq_true, not_true_eq_false, e1, h1, h2]
def dst (a : Mem) (j : Nat) : Mem := sI (sI (sI a 87 j (gI a 87 (j + 1))) 88 j (gI a 88 (j + 1))) 89 j (gI a 89 (j + 1))
theorem g_dst (a : Mem) (j c i : Nat) : gI (dst a j) c i = if (c = 87 ∨ c = 88 ∨ c = 89) ∧ i = j then gI a c (j + 1) else gI a c i := by
  unfold dst
  simp only [g_sI]
  by_cases hi : i = j
  · subst hi
    by_cases h1 : c = 87
    · subst h1; simp
    · by_cases h2 : c = 88
      · subst h2; simp
      · by_cases h3 : c = 89
        · subst h3; simp
        · simp [h1, h2, h3]
  · simp [hi]
theorem g_dsts (m : Mem) : ∀ n c i, gI (itM dst m n) c i = if (c = 87 ∨ c = 88 ∨ c = 89) ∧ i < n then gI m c (i + 1) else gI m c i := by
  intro n
  induction n with
  | zero => intro c i; rw [if_neg (by omega)]; rfl
  | succ n ih =>
    intro c i
    show gI (dst (itM dst m n) n) c i = _
    rw [g_dst]
    by_cases h : (c = 87 ∨ c = 88 ∨ c = 89) ∧ i = n
    · obtain ⟨h1, rfl⟩ := h
      rw [if_pos ⟨h1, rfl⟩, if_pos ⟨h1, by omega⟩, ih, if_neg (by omega)]
    · rw [if_neg h, ih]
      by_cases h2 : (c = 87 ∨ c = 88 ∨ c = 89) ∧ i < n
      · rw [if_pos h2, if_pos ⟨h2.1, by omega⟩]
      · rw [if_neg h2, if_neg (fun q => by
          have : i ≠ n := fun e => h ⟨q.1, e⟩
          exact h2 ⟨q.1, by omega⟩)]
theorem drop_R (a b y : Int32) (m : Mem) {t : Int32 × Mem} (h : f_X9_becomes_J97 a b y (sI (itM dst m 39) 85 5 (gI m 85 5 - 1)) = some t) : wh f_X9_becomes_L26 (a, b, y, (1 : Int32), m) = some t := by
  have := wh_it (body := f_X9_becomes_L26) dst (fun n j => (a, b, y, nI (j + 1), n)) 39 t m (fun k hk => ?_) ?_
  · exact this
  · unfold f_X9_becomes_L26
    have e1 : nI (k + 1) - 1 = nI k := nI_pred k
    have q : ¬ (40 : Int32) ≤ nI (k + 1) := Int32.not_le.mpr (lt_lit (n := 40) rfl (by decide) (by omega))
    have k1 : ∀ {T : Type} (K : Option T), ck (nI (k + 1)) 40 K = K := fun K => ck_in (by omega) (by decide)
    have k2 : ∀ {T : Type} (K : Option T), ck (nI k) 40 K = K := fun K => ck_in (by omega) (by decide)
    simp only [q, e1, k1, k2, bnd, some_bind, g_sI, gJ_sI, gI_sJ, gJ_sJ, Nat.reduceEqDiff, false_and, and_false, true_and, and_true, if_false, if_true, reduceIte, not_false_eq_true, not_true_eq_false, ix_n (show k < 2 ^ 31 by omega), ix_n (show k + 1 < 2 ^ 31 by omega), nI_1, dst]
  · unfold f_X9_becomes_L26
    have e : gI (itM dst m 39) 85 5 = gI m 85 5 := by rw [g_dsts]; rfl
    simp only [show (40 : Int32) ≤ nI (39 + 1) by decide, bnd, if_true, e, h, up]
    rfl
theorem note_v {D K w k : Nat} {m m' : Mem} (hc : IC2 D K m m') (hw : w < 5) (hk : k < chN w) {was v : Int32} (o1 : okv w was) (o2 : okv w v) (hne : ¬ was = v) (hwas : gI m' 86 (chB w + k) = was) : ∃ n n', f_X1_note (nI k) (nI w) was v m = some n ∧ f_X9_becomes (nI (chB w + k)) v m' = some (was, sI n' 86 (chB w + k) v) ∧ Fr l_X1_note m n ∧ Fr [(87, none), (88, none), (89, none), (85, some 4), (85, some 5)] m' n' ∧ ∃ D', IC2 D' D' n n' := by
  obtain ⟨⟨c1, c2⟩, ⟨c3, c4⟩, ⟨c5, c6⟩, c7⟩ := hc
  obtain ⟨l1, l2⟩ := chB_lt hw hk
  have ek2 : ∀ {T : Type} (K : Option T), ck (nI (chB w + k)) 42 K = K := fun K => ck_in l1 (by decide)
  have ei2 : ix (nI (chB w + k)) = chB w + k := ix_n (by omega)
  have J : ∀ (q : Mem) (E : Nat), E < 40 → gI q 19 4 = nI E → f_X1_note_J13 (nI k) (nI w) was v q = some (sI (sI (sI (sI (sI (sI q 20 E (nI k)) 21 E (nI w)) 22 E was) 23 E v) 19 4 (nI (E + 1))) 19 5 (nI (E + 1))) := fun q E hE h => by
    have ek : ∀ {T : Type} (K : Option T), ck (nI E) 40 K = K := fun K => ck_in hE (by decide)
    have ei : ix (nI E) = E := ix_n (by omega)
    unfold f_X1_note_J13
    simp only [bnd, some_bind, g_sI, gJ_sI, gI_sJ, gJ_sJ, Nat.reduceEqDiff, false_and, and_false, true_and, and_true, if_false, if_true, reduceIte, not_false_eq_true, not_true_eq_false, h, ek, ei, nI_1]
  have J' : ∀ (q : Mem) (E : Nat), E < 40 → gI q 85 5 = nI E → f_X9_becomes_J97 (nI (chB w + k)) v was q = some (was, sI (sI (sI (sI (sI (sI q 87 E (nI (chB w + k))) 88 E was) 89 E v) 85 5 (nI (E + 1))) 85 4 (nI (E + 1))) 86 (chB w + k) v) := fun q E hE h => by
    have ek : ∀ {T : Type} (K : Option T), ck (nI E) 40 K = K := fun K => ck_in hE (by decide)
    have ei : ix (nI E) = E := ix_n (by omega)
    unfold f_X9_becomes_J97
    simp only [bnd, some_bind, g_sI, gJ_sI, gI_sJ, gJ_sJ, Nat.reduceEqDiff, false_and, and_false, true_and, and_true, if_false, if_true, reduceIte, not_false_eq_true, not_true_eq_false, h, ek, ei, ek2, ei2, nI_1]
  have fin : ∀ (q q' : Mem) (E : Nat), E < 40 → (∀ i, i < E → ∃ w k, (w < 5 ∧ k < chN w) ∧ (gI q 20 i = nI k ∧ gI q 21 i = nI w ∧ gI q' 87 i = nI (chB w + k)) ∧ (gI q 22 i = gI q' 88 i ∧ gI q 23 i = gI q' 89 i) ∧ okv w (gI q 22 i) ∧ okv w (gI q 23 i)) → IC2 (E + 1) (E + 1) (sI (sI (sI (sI (sI (sI q 20 E (nI k)) 21 E (nI w)) 22 E was) 23 E v) 19 4 (nI (E + 1))) 19 5 (nI (E + 1))) (sI (sI (sI (sI (sI q' 87 E (nI (chB w + k))) 88 E was) 89 E v) 85 5 (nI (E + 1))) 85 4 (nI (E + 1))) := fun q q' E hE hq => by
    refine ⟨⟨?_, ?_⟩, ⟨?_, ?_⟩, ⟨by omega, by omega⟩, fun i hi => ?_⟩
    · simp only [g_sI, gJ_sI, gI_sJ, gJ_sJ, Nat.reduceEqDiff, false_and, and_false, true_and, and_true, if_false, if_true, reduceIte, not_false_eq_true, not_true_eq_false]
    · simp only [g_sI, gJ_sI, gI_sJ, gJ_sJ, Nat.reduceEqDiff, false_and, and_false, true_and, and_true, if_false, if_true, reduceIte, not_false_eq_true, not_true_eq_false]
    · simp only [g_sI, gJ_sI, gI_sJ, gJ_sJ, Nat.reduceEqDiff, false_and, and_false, true_and, and_true, if_false, if_true, reduceIte, not_false_eq_true, not_true_eq_false]
    · simp only [g_sI, gJ_sI, gI_sJ, gJ_sJ, Nat.reduceEqDiff, false_and, and_false, true_and, and_true, if_false, if_true, reduceIte, not_false_eq_true, not_true_eq_false]
    · by_cases hiE : i = E
      · subst hiE
        refine ⟨w, k, ⟨hw, hk⟩, ?_⟩
        simp only [g_sI, gJ_sI, gI_sJ, gJ_sJ, Nat.reduceEqDiff, false_and, and_false, true_and, and_true, if_false, if_true, reduceIte, not_false_eq_true, not_true_eq_false]
        exact ⟨o1, o2⟩
      · have := hq i (by omega)
        simp only [g_sI, gJ_sI, gI_sJ, gJ_sJ, Nat.reduceEqDiff, false_and, and_false, true_and, and_true, if_false, if_true, reduceIte, not_false_eq_true, not_true_eq_false, hiE]
        exact this
  have frR : ∀ (q q' : Mem) (E : Nat) (x y : Int32) , Fr [(87, none), (88, none), (89, none), (85, some 4), (85, some 5)] q q' → Fr [(87, none), (88, none), (89, none), (85, some 4), (85, some 5)] q (sI (sI (sI (sI (sI q' 87 E (nI (chB w + k))) 88 E was) 89 E v) 85 5 x) 85 4 y) := fun q q' E x y hF => by
    refine ⟨fun c i hq => ?_, hF.2⟩
    obtain ⟨h1, h2⟩ := hF.1 c i hq
    have a1 : ¬ c = 87 := fun e => hq (87, none) (by simp) e.symm (Or.inl rfl)
    have a2 : ¬ c = 88 := fun e => hq (88, none) (by simp) e.symm (Or.inl rfl)
    have a3 : ¬ c = 89 := fun e => hq (89, none) (by simp) e.symm (Or.inl rfl)
    have a4 : ¬ (c = 85 ∧ i = 5) := fun e => hq (85, some 5) (by simp) e.1.symm (Or.inr (by rw [e.2]))
    have a5 : ¬ (c = 85 ∧ i = 4) := fun e => hq (85, some 4) (by simp) e.1.symm (Or.inr (by rw [e.2]))
    refine ⟨?_, h2⟩
    show gI (sI (sI (sI (sI (sI q' 87 E (nI (chB w + k))) 88 E was) 89 E v) 85 5 x) 85 4 y) c i = _
    rw [g_sI, if_neg a5, g_sI, if_neg a4, g_sI, if_neg (fun e => a3 e.1), g_sI, if_neg (fun e => a2 e.1), g_sI, if_neg (fun e => a1 e.1)]
    exact h1
  have hY0 : f_X9_becomes (nI (chB w + k)) v m' = if ¬ nI D = 40 then f_X9_becomes_J97 (nI (chB w + k)) v was m' else wh f_X9_becomes_L26 (nI (chB w + k), v, was, (1 : Int32), m') := by
    unfold f_X9_becomes
    rw [ek2, c2]
    show (if ¬ gI m' 86 (ix (nI (chB w + k))) = v then _ else _) = _
    rw [ei2, hwas, if_pos hne]
  by_cases hD : D < 40
  · have hX0 : f_X1_note (nI k) (nI w) was v m = f_X1_note_J13 (nI k) (nI w) was v m := by
      unfold f_X1_note
      rw [c1, if_pos (lt_lit (c := 40) (n := 40) rfl (by decide) hD)]
    have hX := hX0.trans (J m D hD c1)
    rw [if_pos (fun q => by have := (eq_nn (b := 40) (by omega) (by decide)).mp q; omega), J' m' D hD c2] at hY0
    exact ⟨_, _, hX, hY0, fr_X1_note hX, frR _ _ _ _ _ Fr.rf, _, fin m m' D hD (fun i hi => c7 i (by omega))⟩
  · have e40 : D = 40 := by omega
    subst e40
    have eK : K = 40 := by omega
    subst eK
    obtain ⟨n, d1, d2, d3, d4⟩ := drop_c (m := m)
    have hX0 : f_X1_note (nI k) (nI w) was v m = f_X1_note_J13 (nI k) (nI w) was v n := by
      unfold f_X1_note
      rw [c1, if_neg (show ¬ nI 40 < 40 by decide), d1, some_bind]
    have hX := hX0.trans (J n 39 (by decide) d2)
    have hY1 := drop_R (nI (chB w + k)) v was m' (J' (sI (itM dst m' 39) 85 5 (gI m' 85 5 - 1)) 39 (by decide) (by simp only [g_sI, gJ_sI, gI_sJ, gJ_sJ, Nat.reduceEqDiff, false_and, and_false, true_and, and_true, if_false, if_true, reduceIte, not_false_eq_true, not_true_eq_false, c2]; rfl))
    rw [if_neg (fun q => q rfl), hY1] at hY0
    refine ⟨_, _, hX, hY0, fr_X1_note hX, frR _ _ _ _ _ ?_, _, fin n _ 39 (by decide) (fun i hi => ?_)⟩
    · refine ⟨fun c i hq => ⟨?_, ?_⟩, fun _ => ?_⟩
      · have a1 : ¬ c = 87 := fun e => hq (87, none) (by simp) e.symm (Or.inl rfl)
        have a2 : ¬ c = 88 := fun e => hq (88, none) (by simp) e.symm (Or.inl rfl)
        have a3 : ¬ c = 89 := fun e => hq (89, none) (by simp) e.symm (Or.inl rfl)
        have a4 : ¬ (c = 85 ∧ i = 5) := fun e => hq (85, some 5) (by simp) e.1.symm (Or.inr (by rw [e.2]))
        show gI (sI (itM dst m' 39) 85 5 (gI m' 85 5 - 1)) c i = _
        rw [g_sI, if_neg a4, g_dsts, if_neg (fun e => by rcases e.1 with q | q | q; exact a1 q; exact a2 q; exact a3 q)]
        rfl
      · have : ∀ n, (itM dst m' n).2.1 = m'.2.1 := fun n => by
          induction n with
          | zero => rfl
          | succ n ih => exact ih
        show (itM dst m' 39).2.1 c i = _
        rw [this]
      · have : ∀ n, (itM dst m' n).2.2 = m'.2.2 := fun n => by
          induction n with
          | zero => rfl
          | succ n ih => exact ih
        exact this 39
    · obtain ⟨w1, k1, q1, q2, q3, q4, q5⟩ := c7 (i + 1) (by omega)
      refine ⟨w1, k1, q1, ?_⟩
      rw [d4 20 (by omega) i hi, d4 21 (by omega) i hi, d4 22 (by omega) i hi, d4 23 (by omega) i hi]
      simp only [g_sI, gJ_sI, gI_sJ, gJ_sJ, Nat.reduceEqDiff, false_and, and_false, true_and, and_true, if_false, if_true, reduceIte, not_false_eq_true, not_true_eq_false, g_dsts, hi, true_or, or_true, or_false]
      exact ⟨q2, q3, q4, q5⟩
