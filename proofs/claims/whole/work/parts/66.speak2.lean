/-! A MEETING: one speaks, at the reference -/
theorem Kn_cong {m n : Mem} (h1 : ∀ i, gI n 91 i = gI m 91 i) (h2 : ∀ i, gI n 93 i = gI m 93 i) (p t i : Nat) : Kn n p t i = Kn m p t i := by
  unfold Kn
  rw [h1, h2]
theorem Sd_cong {m n : Mem} {i : Nat} (h : gI n 100 i = gI m 100 i) : Sd n i = Sd m i := by
  unfold Sd
  rw [h]
def AG (m' : Mem) (C p t : Nat) (y : Int32) : Int32 := if ¬ y = 0 then -2 else match fi (fun k => Kn m' p t k && Sd m' k) C 0 with | some k => nI k | none => -2
theorem J203_v {p t S : Nat} {q : Mem} (hp : p < 10) (ht : t < 6) (hS : gI q 85 30 = nI S) (hS2 : S < 200) (len by' again : Int32) : f_X9_speaks_J203 (nI p) (nI t) len by' again (nI S) q = some (sI (sI (sI (sI (sI (sI (sI q 109 S again) 110 S by') 85 30 (nI (S + 1))) 97 p (gI q 97 p + 1)) 85 31 (nI p)) 85 29 (gI q 85 29 + len)) 102 t (gI q 102 t + len)) := by
  have cp : ∀ {T : Type} (K : Option T), ck (nI p) 10 K = K := fun K => ck_in hp (by decide)
  have ct : ∀ {T : Type} (K : Option T), ck (nI t) 6 K = K := fun K => ck_in ht (by decide)
  have cS : ∀ {T : Type} (K : Option T), ck (nI S) 200 K = K := fun K => ck_in hS2 (by decide)
  have ip : ix (nI p) = p := ix_n (by omega)
  have it : ix (nI t) = t := ix_n (by omega)
  have iS : ix (nI S) = S := ix_n (by omega)
  unfold f_X9_speaks_J203
  simp only [bnd, some_bind, g_sI, gJ_sI, gI_sJ, gJ_sJ, Nat.reduceEqDiff, false_and, and_false, true_and, and_true, if_false, if_true, reduceIte, not_false_eq_true, not_true_eq_false, cp, ct, cS, ip, it, iS, hS, nI_1]
theorem J103_v {C p t S w : Nat} {m' : Mem} (hC : gI m' 85 9 = nI C) (hC2 : C ≤ 20) (hp : p < 10) (ht : t < 6) (hS : gI m' 85 30 = nI S) (hS2 : S < 200) (hw : w < 2 ^ 31) (len by' : Int32) : ∃ y n', f_X9_speaks_J103 (nI p) (nI t) len (nI w) by' m' = some n' ∧ (∀ i, i < 32 → bt y i = (decide (i < C) && ((Kn m' p t i && !Sd m' i) && decide (fb_ct (fun k => Kn m' p t k && !Sd m' k) i < w)))) ∧ (gI n' 85 30 = nI (S + 1) ∧ gI n' 85 29 = gI m' 85 29 + len ∧ gI n' 85 31 = nI p) ∧ (∀ u, gI n' 97 u = (if u = p then gI m' 97 u + 1 else gI m' 97 u) ∧ gI n' 99 u = (if u = p then by' else gI m' 99 u) ∧ gI n' 102 u = if u = t then gI m' 102 u + len else gI m' 102 u) ∧ (∀ k, gI n' 100 k = (if k < C ∧ bt y k = true then nI p else gI m' 100 k) ∧ gI n' 101 k = if k < C ∧ bt y k = true then nI S else gI m' 101 k) ∧ (gI n' 104 S = nI p ∧ gI n' 105 S = nI t ∧ gI n' 106 S = gI m' 85 29 ∧ gI n' 107 S = len ∧ gI n' 108 S = y ∧ gI n' 109 S = AG m' C p t y ∧ gI n' 110 S = by') ∧ ∀ c, 104 ≤ c → c ≤ 110 → ∀ i, ¬ i = S → gI n' c i = gI m' c i := by
  have cp : ∀ {T : Type} (K : Option T), ck (nI p) 10 K = K := fun K => ck_in hp (by decide)
  have cS : ∀ {T : Type} (K : Option T), ck (nI S) 200 K = K := fun K => ck_in hS2 (by decide)
  have ip : ix (nI p) = p := ix_n (by omega)
  have iS : ix (nI S) = S := ix_n (by omega)
  let m7 := sI (sI (sI (sI (sI m' 99 p by') 104 S (nI p)) 105 S (nI t)) 106 S (gI m' 85 29)) 107 S len
  have K7 : ∀ k, Kn m7 p t k = Kn m' p t k := fun k => Kn_cong (fun i => by simp only [m7, g_sI, gJ_sI, gI_sJ, gJ_sJ, Nat.reduceEqDiff, false_and, and_false, true_and, and_true, if_false, if_true, reduceIte, not_false_eq_true, not_true_eq_false]) (fun i => by simp only [m7, g_sI, gJ_sI, gI_sJ, gJ_sJ, Nat.reduceEqDiff, false_and, and_false, true_and, and_true, if_false, if_true, reduceIte, not_false_eq_true, not_true_eq_false]) p t k
  have S7 : ∀ k, Sd m7 k = Sd m' k := fun k => Sd_cong (by simp only [m7, g_sI, gJ_sI, gI_sJ, gJ_sJ, Nat.reduceEqDiff, false_and, and_false, true_and, and_true, if_false, if_true, reduceIte, not_false_eq_true, not_true_eq_false])
  have h9 : gI m7 85 9 = nI C := by simp only [m7, g_sI, gJ_sI, gI_sJ, gJ_sJ, Nat.reduceEqDiff, false_and, and_false, true_and, and_true, if_false, if_true, reduceIte, not_false_eq_true, not_true_eq_false, hC]
  have h30 : gI m7 85 30 = nI S := by simp only [m7, g_sI, gJ_sI, gI_sJ, gJ_sJ, Nat.reduceEqDiff, false_and, and_false, true_and, and_true, if_false, if_true, reduceIte, not_false_eq_true, not_true_eq_false, hS]
  obtain ⟨y, q8, x1, x2, x3⟩ := saysNew_v (w := w) h9 hC2 hp ht h30 hw
  simp only [K7, S7] at x2
  have F := fr_X9_saysNew x1
  have o8 : ∀ c i, c ≠ 100 → c ≠ 101 → gI q8 c i = gI m7 c i := fun c i h1 h2 => fr_c F c i (fun z hz => by
    simp only [List.mem_cons, List.not_mem_nil, or_false] at hz
    rcases hz with rfl | rfl
    · exact fun e => h1 e.symm
    · exact fun e => h2 e.symm)
  let m9 := sI q8 108 S y
  have e30 : gI m9 85 30 = nI S := by simp only [m9, g_sI, gJ_sI, gI_sJ, gJ_sJ, Nat.reduceEqDiff, false_and, and_false, true_and, and_true, if_false, if_true, reduceIte, not_false_eq_true, not_true_eq_false]; rw [o8 85 30 (by decide) (by decide), h30]
  have e108 : gI m9 108 S = y := by simp only [m9, g_sI, gJ_sI, gI_sJ, gJ_sJ, Nat.reduceEqDiff, false_and, and_false, true_and, and_true, if_false, if_true, reduceIte, not_false_eq_true, not_true_eq_false]
  have hag : f_X9_speaks_J103 (nI p) (nI t) len (nI w) by' m' = f_X9_speaks_J203 (nI p) (nI t) len by' (AG m' C p t y) (nI S) m9 := by
    have e : f_X9_speaks_J103 (nI p) (nI t) len (nI w) by' m' = if ¬ y = 0 then f_X9_speaks_J203 (nI p) (nI t) len by' (-2 : Int32) (nI S) m9 else (f_X9_saysAgain (nI p) (nI t) m9).bind (fun q17 => f_X9_speaks_J203 (nI p) (nI t) len by' q17.1 (nI S) q17.2) := by
      unfold f_X9_speaks_J103
      simp only [bnd, some_bind, g_sI, gJ_sI, gI_sJ, gJ_sJ, Nat.reduceEqDiff, false_and, and_false, true_and, and_true, if_false, if_true, reduceIte, not_false_eq_true, not_true_eq_false, cp, cS, ip, iS, hS]
      show (f_X9_saysNew (nI p) (nI t) (nI w) m7).bind _ = _
      rw [x1, some_bind]
      have q30 : gI q8 85 30 = nI S := by rw [o8 85 30 (by decide) (by decide), h30]
      simp only [bnd, some_bind, g_sI, gJ_sI, gI_sJ, gJ_sJ, Nat.reduceEqDiff, false_and, and_false, true_and, and_true, if_false, if_true, reduceIte, not_false_eq_true, not_true_eq_false, cS, iS, q30]
      rfl
    rw [e]
    unfold AG
    by_cases hy : y = 0
    · rw [if_neg (fun z => z hy), if_neg (fun z => z hy)]
      have h9' : gI m9 85 9 = nI C := by simp only [m9, g_sI, gJ_sI, gI_sJ, gJ_sJ, Nat.reduceEqDiff, false_and, and_false, true_and, and_true, if_false, if_true, reduceIte, not_false_eq_true, not_true_eq_false]; rw [o8 85 9 (by decide) (by decide), h9]
      rw [saysAgain_v h9' hC2 hp ht, some_bind]
      have hfi : fi (fun k => Kn m9 p t k && Sd m9 k) C 0 = fi (fun k => Kn m' p t k && Sd m' k) C 0 := fi_cong (fun i h1 h2 => by
        rw [Kn_cong (m := m7) (fun i => by simp only [m9, g_sI, gJ_sI, gI_sJ, gJ_sJ, Nat.reduceEqDiff, false_and, and_false, true_and, and_true, if_false, if_true, reduceIte, not_false_eq_true, not_true_eq_false]; exact o8 91 i (by decide) (by decide)) (fun i => by simp only [m9, g_sI, gJ_sI, gI_sJ, gJ_sJ, Nat.reduceEqDiff, false_and, and_false, true_and, and_true, if_false, if_true, reduceIte, not_false_eq_true, not_true_eq_false]; exact o8 93 i (by decide) (by decide)), K7]
        rw [Sd_cong (m := m7) (by simp only [m9, g_sI, gJ_sI, gI_sJ, gJ_sJ, Nat.reduceEqDiff, false_and, and_false, true_and, and_true, if_false, if_true, reduceIte, not_false_eq_true, not_true_eq_false]; rw [(x3 i).1, if_neg (fun z => by rw [hy, b_0] at z; cases z.2)]), S7])
      rw [hfi]
      rfl
    · rw [if_pos hy, if_pos hy]
  rw [J203_v hp ht e30 hS2] at hag
  refine ⟨y, _, hag, x2, ⟨?_, ?_, ?_⟩, fun u => ⟨?_, ?_, ?_⟩, fun k => ⟨?_, ?_⟩, ⟨?_, ?_, ?_, ?_, ?_, ?_, ?_⟩, fun c h1 h2 i hi => ?_⟩
  · simp only [g_sI, gJ_sI, gI_sJ, gJ_sJ, Nat.reduceEqDiff, false_and, and_false, true_and, and_true, if_false, if_true, reduceIte, not_false_eq_true, not_true_eq_false]
  · simp only [m9, g_sI, gJ_sI, gI_sJ, gJ_sJ, Nat.reduceEqDiff, false_and, and_false, true_and, and_true, if_false, if_true, reduceIte, not_false_eq_true, not_true_eq_false, o8 85 _ (by decide) (by decide)]
    simp only [m7, g_sI, gJ_sI, gI_sJ, gJ_sJ, Nat.reduceEqDiff, false_and, and_false, true_and, and_true, if_false, if_true, reduceIte, not_false_eq_true, not_true_eq_false]
  · simp only [g_sI, gJ_sI, gI_sJ, gJ_sJ, Nat.reduceEqDiff, false_and, and_false, true_and, and_true, if_false, if_true, reduceIte, not_false_eq_true, not_true_eq_false]
  · simp only [m9, g_sI, gJ_sI, gI_sJ, gJ_sJ, Nat.reduceEqDiff, false_and, and_false, true_and, and_true, if_false, if_true, reduceIte, not_false_eq_true, not_true_eq_false, o8 97 _ (by decide) (by decide)]
    simp only [m7, g_sI, gJ_sI, gI_sJ, gJ_sJ, Nat.reduceEqDiff, false_and, and_false, true_and, and_true, if_false, if_true, reduceIte, not_false_eq_true, not_true_eq_false]
    by_cases c : u = p
    · subst c; simp
    · simp [c]
  · simp only [m9, g_sI, gJ_sI, gI_sJ, gJ_sJ, Nat.reduceEqDiff, false_and, and_false, true_and, and_true, if_false, if_true, reduceIte, not_false_eq_true, not_true_eq_false, o8 99 _ (by decide) (by decide)]
    simp only [m7, g_sI, gJ_sI, gI_sJ, gJ_sJ, Nat.reduceEqDiff, false_and, and_false, true_and, and_true, if_false, if_true, reduceIte, not_false_eq_true, not_true_eq_false]
  · simp only [m9, g_sI, gJ_sI, gI_sJ, gJ_sJ, Nat.reduceEqDiff, false_and, and_false, true_and, and_true, if_false, if_true, reduceIte, not_false_eq_true, not_true_eq_false, o8 102 _ (by decide) (by decide)]
    simp only [m7, g_sI, gJ_sI, gI_sJ, gJ_sJ, Nat.reduceEqDiff, false_and, and_false, true_and, and_true, if_false, if_true, reduceIte, not_false_eq_true, not_true_eq_false]
    by_cases c : u = t
    · subst c; simp
    · simp [c]
  · simp only [m9, g_sI, gJ_sI, gI_sJ, gJ_sJ, Nat.reduceEqDiff, false_and, and_false, true_and, and_true, if_false, if_true, reduceIte, not_false_eq_true, not_true_eq_false, (x3 k).1]
    simp only [m7, g_sI, gJ_sI, gI_sJ, gJ_sJ, Nat.reduceEqDiff, false_and, and_false, true_and, and_true, if_false, if_true, reduceIte, not_false_eq_true, not_true_eq_false]
  · simp only [m9, g_sI, gJ_sI, gI_sJ, gJ_sJ, Nat.reduceEqDiff, false_and, and_false, true_and, and_true, if_false, if_true, reduceIte, not_false_eq_true, not_true_eq_false, (x3 k).2]
    simp only [m7, g_sI, gJ_sI, gI_sJ, gJ_sJ, Nat.reduceEqDiff, false_and, and_false, true_and, and_true, if_false, if_true, reduceIte, not_false_eq_true, not_true_eq_false]
  · simp only [m9, g_sI, gJ_sI, gI_sJ, gJ_sJ, Nat.reduceEqDiff, false_and, and_false, true_and, and_true, if_false, if_true, reduceIte, not_false_eq_true, not_true_eq_false, o8 104 _ (by decide) (by decide)]
    simp only [m7, g_sI, gJ_sI, gI_sJ, gJ_sJ, Nat.reduceEqDiff, false_and, and_false, true_and, and_true, if_false, if_true, reduceIte, not_false_eq_true, not_true_eq_false]
  · simp only [m9, g_sI, gJ_sI, gI_sJ, gJ_sJ, Nat.reduceEqDiff, false_and, and_false, true_and, and_true, if_false, if_true, reduceIte, not_false_eq_true, not_true_eq_false, o8 105 _ (by decide) (by decide)]
    simp only [m7, g_sI, gJ_sI, gI_sJ, gJ_sJ, Nat.reduceEqDiff, false_and, and_false, true_and, and_true, if_false, if_true, reduceIte, not_false_eq_true, not_true_eq_false]
  · simp only [m9, g_sI, gJ_sI, gI_sJ, gJ_sJ, Nat.reduceEqDiff, false_and, and_false, true_and, and_true, if_false, if_true, reduceIte, not_false_eq_true, not_true_eq_false, o8 106 _ (by decide) (by decide)]
    simp only [m7, g_sI, gJ_sI, gI_sJ, gJ_sJ, Nat.reduceEqDiff, false_and, and_false, true_and, and_true, if_false, if_true, reduceIte, not_false_eq_true, not_true_eq_false]
  · simp only [m9, g_sI, gJ_sI, gI_sJ, gJ_sJ, Nat.reduceEqDiff, false_and, and_false, true_and, and_true, if_false, if_true, reduceIte, not_false_eq_true, not_true_eq_false, o8 107 _ (by decide) (by decide)]
    simp only [m7, g_sI, gJ_sI, gI_sJ, gJ_sJ, Nat.reduceEqDiff, false_and, and_false, true_and, and_true, if_false, if_true, reduceIte, not_false_eq_true, not_true_eq_false]
  · simp only [m9, g_sI, gJ_sI, gI_sJ, gJ_sJ, Nat.reduceEqDiff, false_and, and_false, true_and, and_true, if_false, if_true, reduceIte, not_false_eq_true, not_true_eq_false]
  · simp only [g_sI, gJ_sI, gI_sJ, gJ_sJ, Nat.reduceEqDiff, false_and, and_false, true_and, and_true, if_false, if_true, reduceIte, not_false_eq_true, not_true_eq_false]
  · simp only [g_sI, gJ_sI, gI_sJ, gJ_sJ, Nat.reduceEqDiff, false_and, and_false, true_and, and_true, if_false, if_true, reduceIte, not_false_eq_true, not_true_eq_false]
  · simp only [m9, g_sI, hi, and_false, if_false]
    rw [if_neg (by omega), if_neg (by omega), if_neg (by omega), if_neg (by omega), if_neg (by omega), o8 c i (by omega) (by omega)]
    simp only [m7, g_sI, hi, and_false, if_false]
    rw [if_neg (by omega)]
