/-! IN THOUGHT: a meeting tried -/
theorem dc_b (m' : Mem) (C : Nat) (sel : Nat → Bool) : ∀ T, T ≤ 20 → ∀ i, T ≤ i → i < 32 → bt (dc m' C sel T) i = false
  | 0, _, i, _, _ => b_0 i
  | T + 1, hT, i, h1, h2 => by
    rw [dc_succ, b_or, dc_b m' C sel T (by omega) i (by omega) h2, Bool.false_or]
    split
    · exact b_0 i
    · rw [b_one (by omega) h2, decide_eq_false (by omega)]
def BR (q : Nat) (m m' : Mem) : Prop := (gI m 55 (q * 3) = -2 ∧ gI m' 85 63 = -1) ∨ (gI m 55 (q * 3) = gI m' 85 63 ∧ 0 ≤ gI m' 85 63 ∧ gI m 55 (q * 3 + 1) = gI m' 85 64 ∧ gI m 55 (q * 3 + 2) = gI m' 85 65)
/-- what a try leaves as it was -/
def KT (m n : Mem) : Prop := TS m n ∧ (∀ i, gI n 54 i = gI m 54 i) ∧ gI n 1 16 = gI m 1 16
def KT' (m n : Mem) : Prop := TS' m n ∧ (∀ i, gI n 103 i = gI m 103 i) ∧ ∀ i, 26 ≤ i → i ≤ 28 → gI n 85 i = gI m 85 i
theorem KT.tr {m n q : Mem} (h : KT m n) (k : KT n q) : KT m q := ⟨h.1.tr k.1, fun i => (k.2.1 i).trans (h.2.1 i), k.2.2.trans h.2.2⟩
theorem KT'.tr {m n q : Mem} (h : KT' m n) (k : KT' n q) : KT' m q := ⟨h.1.tr k.1, fun i => (k.2.1 i).trans (h.2.1 i), fun i h1 h2 => (k.2.2 i h1 h2).trans (h.2.2 i h1 h2)⟩
theorem KT.rf {m : Mem} : KT m m := ⟨TS.rf, fun _ => rfl, rfl⟩
theorem KT'.rf {m : Mem} : KT' m m := ⟨TS'.rf, fun _ => rfl, fun _ _ _ => rfl⟩
theorem try_v {P T C V q x : Nat} {o : Nat → Nat} {u w : Mem} {tried : Int32} (hB : TB P T C V u w) (hO : OR 54 T o u w) (hx1 : 1 ≤ x) (hx9 : x ≤ 9) (hx : gI w 85 27 = nI x) (hn : gI w 85 28 = -1) (hq : q < 3) (ht : 0 ≤ tried) (hb : BR q u w) : ∃ n r r', f_X3_hold 57 54 (gI w 85 26) (gI w 85 27) (-1) u = some n ∧ f_X7_compare (nI q) tried n = some r ∧ f_X9_looksAt tried w = some r' ∧ BR q r r' ∧ gI r 55 (q * 3) = gI r' 85 63 ∧ 0 ≤ gI r' 85 63 ∧ KT u n ∧ KT n r ∧ KT' w r' ∧ OR 54 T o n w ∧ ∀ i, (i < q * 3 ∨ q * 3 + 3 ≤ i) → gI r 55 i = gI u 55 i := by
  have hB0 := hB
  obtain ⟨⟨⟨n1, n2, n3⟩, ⟨n4, n5, n6⟩, ⟨n7, n8, n9⟩, n0⟩, -⟩ := hB
  obtain ⟨n, n', S, c1, c2, c3, -, c5⟩ := hold_v (a := 57) (Or.inr (Or.inr rfl)) (Or.inr rfl) hB0 hO hx1 hx9 hx
  rw [hn] at c1
  have FX := fr_X3_hold c1
  have FY := fr_X9_meets c2
  have hn' : gI n' 85 28 = -1 := (fr_I FY 85 28 rfl).trans hn
  have hwr := wrong_X c3
  obtain ⟨co, o1, o2⟩ := cost_v c3 hn'
  have h20 : ∀ i, 20 ≤ i → i < 32 → bt (dc n' C (Sd n') T ^^^ dc n' C (Kw n' P) T) i = false := fun i h1 h2 => by
    rw [b_xor, dc_b n' C _ T (by omega) i (by omega) h2, dc_b n' C _ T (by omega) i (by omega) h2]; rfl
  have p6 := c3.1.1.1.2.1
  have p8 := c3.1.1.2.1.2.1
  have p9 := c3.1.1.2.2.1.2.1
  have hwm : f_X9_wrongMany n' = some (nI (fb_ct (bt (dc n' C (Sd n') T ^^^ dc n' C (Kw n' P) T)) 20), n') := by
    unfold f_X9_wrongMany
    rw [dec_R p8 n6 p9 n9, some_bind]
    show (f_X9_shouldBe n').bind _ = _
    rw [shouldBe_R p6 n3 p8 n6 p9 n9, some_bind]
    show (f_X9_bitsOf (dc n' C (Sd n') T ^^^ dc n' C (Kw n' P) T) n').bind _ = _
    rw [bitsOf_v h20, some_bind]
  have hpc := pop_v h20 n
  generalize nI (fb_ct (bt (dc n' C (Sd n') T ^^^ dc n' C (Kw n' P) T)) 20) = wr at hwm hpc
  have e3 : nI q * 3 = nI (q * 3) := nI_mul q 3
  have c90 : ∀ {T : Type} (K : Option T), ck (nI (q * 3)) 9 K = K := fun K => ck_in (by omega) (by decide)
  have c91 : ∀ {T : Type} (K : Option T), ck (nI (q * 3 + 1)) 9 K = K := fun K => ck_in (by omega) (by decide)
  have c92 : ∀ {T : Type} (K : Option T), ck (nI (q * 3 + 2)) 9 K = K := fun K => ck_in (by omega) (by decide)
  have i0 : ix (nI (q * 3)) = q * 3 := ix_n (by omega)
  have i1 : ix (nI (q * 3 + 1)) = q * 3 + 1 := ix_n (by omega)
  have i2 : ix (nI (q * 3 + 2)) = q * 3 + 2 := ix_n (by omega)
  have a1 : nI (q * 3) + 1 = nI (q * 3 + 1) := nI_1 _
  have a2 : nI (q * 3) + 2 = nI (q * 3 + 2) := nI_add _ 2
  have f55 : ∀ i, gI n 55 i = gI u 55 i := fun i => fr_I FX 55 i rfl
  have f63 : ∀ i, (i = 63 ∨ i = 64 ∨ i = 65) → gI n' 85 i = gI w 85 i := fun i hi => by
    rcases hi with rfl | rfl | rfl
    · exact fr_I FY 85 63 rfl
    · exact fr_I FY 85 64 rfl
    · exact fr_I FY 85 65 rfl
  have kx : KT u n := ⟨TS_fr FX rfl, fun i => fr_I FX 54 i rfl, fr_I FX 1 16 rfl⟩
  have ky : KT' w n' := ⟨TS'_fr FY rfl, fun i => fr_I FY 103 i rfl, fun i h1 h2 => (FY.1 85 i (fun q hq h3 h4 => by
    simp only [List.mem_cons, List.not_mem_nil, or_false] at hq
    rcases hq with rfl | rfl | rfl | rfl | rfl | rfl | rfl | rfl | rfl | rfl | rfl | rfl | rfl | rfl | rfl | rfl | rfl | rfl | rfl | rfl | rfl | rfl <;> simp at h3 h4 <;> omega)).1⟩
  -- better
  have J : f_X7_compare_J75 tried (nI (q * 3)) wr co n = some (sI (sI (sI n 55 (q * 3) tried) 55 (q * 3 + 1) wr) 55 (q * 3 + 2) co) := by
    unfold f_X7_compare_J75
    simp only [c90, c91, c92, i0, i1, i2, a1, a2, bnd]
  have J' : f_X9_looksAt_J45 tried wr co n' = some (sI (sI (sI n' 85 63 tried) 85 64 wr) 85 65 co) := by
    unfold f_X9_looksAt_J45
    simp only [bnd]
  have KX : KT n (sI (sI (sI n 55 (q * 3) tried) 55 (q * 3 + 1) wr) 55 (q * 3 + 2) co) := by
    have e : ∀ c i, c ≠ 55 → gI (sI (sI (sI n 55 (q * 3) tried) 55 (q * 3 + 1) wr) 55 (q * 3 + 2) co) c i = gI n c i := fun c i h => by rw [g_far _ _ h, g_far _ _ h, g_far _ _ h]
    exact ⟨⟨fun c h1 h2 i => e c i (by omega), fun i h1 h2 => e 1 i (by decide), e 14 5 (by decide), fun i => e 17 i (by decide), fun i => e 18 i (by decide), rfl⟩, fun i => e 54 i (by decide), e 1 16 (by decide)⟩
  have KY : KT' n' (sI (sI (sI n' 85 63 tried) 85 64 wr) 85 65 co) := by
    have e : ∀ c i, ¬ (c = 85 ∧ 63 ≤ i ∧ i ≤ 65) → gI (sI (sI (sI n' 85 63 tried) 85 64 wr) 85 65 co) c i = gI n' c i := fun c i h => by rw [g_sI, if_neg (by omega), g_sI, if_neg (by omega), g_sI, if_neg (by omega)]
    exact ⟨⟨fun c h1 i => e c i (by omega), fun i h1 => e 85 i (by omega), e 85 19 (by omega), fun i => e 95 i (by omega)⟩, fun i => e 103 i (by omega), fun i h1 h2 => e 85 i (by omega)⟩
  have hOn : OR 54 T o n w := ⟨fun i hi => by rw [kx.2.1 i]; exact hO.1 i hi, hO.2⟩
  have better : f_X7_compare (nI q) tried n = f_X7_compare_J75 tried (nI (q * 3)) wr co n → f_X9_looksAt tried w = f_X9_looksAt_J45 tried wr co n' → ∃ n r r', f_X3_hold 57 54 (gI w 85 26) (gI w 85 27) (-1) u = some n ∧ f_X7_compare (nI q) tried n = some r ∧ f_X9_looksAt tried w = some r' ∧ BR q r r' ∧ gI r 55 (q * 3) = gI r' 85 63 ∧ 0 ≤ gI r' 85 63 ∧ KT u n ∧ KT n r ∧ KT' w r' ∧ OR 54 T o n w ∧ ∀ i, (i < q * 3 ∨ q * 3 + 3 ≤ i) → gI r 55 i = gI u 55 i := fun h1 h2 => by
    have z1 : gI (sI (sI (sI n 55 (q * 3) tried) 55 (q * 3 + 1) wr) 55 (q * 3 + 2) co) 55 (q * 3) = tried := by rw [g_off _ _ (by omega), g_off _ _ (by omega), g_hit]
    have z2 : gI (sI (sI (sI n' 85 63 tried) 85 64 wr) 85 65 co) 85 63 = tried := by simp only [g_sI, gJ_sI, gI_sJ, gJ_sJ, Nat.reduceEqDiff, false_and, and_false, true_and, and_true, if_false, if_true, reduceIte, not_false_eq_true, not_true_eq_false]
    refine ⟨n, _, _, c1, h1.trans J, h2.trans J', Or.inr ⟨by rw [z1, z2], by rw [z2]; exact ht, ?_, ?_⟩, by rw [z1, z2], by rw [z2]; exact ht, kx, KX, ky.tr KY, hOn, fun i hi => ?_⟩
    · rw [g_off _ _ (by omega), g_hit]; simp only [g_sI, gJ_sI, gI_sJ, gJ_sJ, Nat.reduceEqDiff, false_and, and_false, true_and, and_true, if_false, if_true, reduceIte, not_false_eq_true, not_true_eq_false]
    · rw [g_hit]; simp only [g_sI, gJ_sI, gI_sJ, gJ_sJ, Nat.reduceEqDiff, false_and, and_false, true_and, and_true, if_false, if_true, reduceIte, not_false_eq_true, not_true_eq_false]
    · rw [g_off _ _ (by omega), g_off _ _ (by omega), g_off _ _ (by omega), f55]
  have hX : f_X7_compare (nI q) tried n = if gI u 55 (q * 3) = -2 then f_X7_compare_J75 tried (nI (q * 3)) wr co n else if wr < gI u 55 (q * 3 + 1) then f_X7_compare_J75 tried (nI (q * 3)) wr co n else if ¬ wr = gI u 55 (q * 3 + 1) then some n else if gI u 55 (q * 3 + 2) ≤ co then some n else f_X7_compare_J75 tried (nI (q * 3)) wr co n := by
    unfold f_X7_compare
    refine bn (bs (a := (dc n' C (Sd n') T ^^^ dc n' C (Kw n' P) T, n)) hwr (bs (a := (wr, n)) hpc (bs (a := (co, n)) o1 ?_)))
    dsimp only
    rw [e3]
    refine ckb c90 ?_
    rw [i0, a1, a2, c91, c91, c92, i1, i2, f55, f55, f55]
  have hY : f_X9_looksAt tried w = if gI w 85 63 < 0 then f_X9_looksAt_J45 tried wr co n' else if wr < gI w 85 64 then f_X9_looksAt_J45 tried wr co n' else if ¬ wr = gI w 85 64 then some n' else if gI w 85 65 ≤ co then some n' else f_X9_looksAt_J45 tried wr co n' := by
    unfold f_X9_looksAt
    simp only [c2, some_bind, hwm, o2, f63 63 (by decide), f63 64 (by decide), f63 65 (by decide)]
  rcases hb with ⟨b1, b2⟩ | ⟨b1, b2, b3, b4⟩
  · exact better (by rw [hX, if_pos b1]) (by rw [hY, b2, if_pos (by decide)])
  · have nb : ¬ gI u 55 (q * 3) = -2 := fun z => by rw [← b1, z] at b2; exact absurd b2 (by decide)
    rw [if_neg nb] at hX
    rw [if_neg (Int32.not_lt.mpr b2)] at hY
    rw [b3, b4] at hX
    have same : f_X7_compare (nI q) tried n = some n → f_X9_looksAt tried w = some n' → ∃ n r r', f_X3_hold 57 54 (gI w 85 26) (gI w 85 27) (-1) u = some n ∧ f_X7_compare (nI q) tried n = some r ∧ f_X9_looksAt tried w = some r' ∧ BR q r r' ∧ gI r 55 (q * 3) = gI r' 85 63 ∧ 0 ≤ gI r' 85 63 ∧ KT u n ∧ KT n r ∧ KT' w r' ∧ OR 54 T o n w ∧ ∀ i, (i < q * 3 ∨ q * 3 + 3 ≤ i) → gI r 55 i = gI u 55 i := fun h1 h2 => by
      have z1 : gI n 55 (q * 3) = gI n' 85 63 := by rw [f55, f63 63 (by decide), b1]
      have z2 : 0 ≤ gI n' 85 63 := by rw [f63 63 (by decide)]; exact b2
      exact ⟨n, n, n', c1, h1, h2, Or.inr ⟨z1, z2, by rw [f55, f63 64 (by decide), b3], by rw [f55, f63 65 (by decide), b4]⟩, z1, z2, kx, KT.rf, ky, hOn, fun i _ => f55 i⟩
    by_cases c1 : wr < gI w 85 64
    · exact better (by rw [hX, if_pos c1]) (by rw [hY, if_pos c1])
    · by_cases c2 : wr = gI w 85 64
      · by_cases c3 : gI w 85 65 ≤ co
        · exact same (by rw [hX, if_neg c1, if_neg (fun z => z c2), if_pos c3]) (by rw [hY, if_neg c1, if_neg (fun z => z c2), if_pos c3])
        · exact better (by rw [hX, if_neg c1, if_neg (fun z => z c2), if_neg c3]) (by rw [hY, if_neg c1, if_neg (fun z => z c2), if_neg c3])
      · exact same (by rw [hX, if_neg c1, if_pos c2]) (by rw [hY, if_neg c1, if_pos c2])
