/-! THE LAW'S TEXT: what every reading keeps -/
def GR (L pos : Nat) (R : PR) : Prop := match R with
  | .inl e => e ≤ L
  | .inr (r, c, v) => pos + c.length ≤ r ∧ pos < r ∧ r ≤ L ∧ GC c v
def GP (L : Nat) (P : Nat → PR) : Prop := ∀ pos, pos ≤ L → GR L pos (P pos)
theorem bet_lt {L q : Nat} {τ : Nat → Nat} (h : bet L τ q ≠ 0) : q < L := by
  unfold bet at h
  by_cases c : q < L
  · exact c
  · rw [if_neg c] at h; exact absurd rfl h
theorem isO_nz {c : Nat} (h : isO c) : c ≠ 0 := by unfold isO at h; omega
theorem lp_G {L pos : Nat} {τ : Nat → Nat} {sub : Nat → PR} {ops : Nat → Bool} (hsub : GP L sub) (hops : ∀ c, ops c = true → isO c) : ∀ f q c v, pos + c.length ≤ q → pos < q → q ≤ L → GC c v → GR L pos (lpR sub ops (bet L τ) f q c v)
  | 0, q, c, v, h1, h2, h3, h4 => ⟨h1, h2, h3, h4⟩
  | f + 1, q, c, v, h1, h2, h3, h4 => by
    unfold lpR
    by_cases ho : ops (bet L τ q) = true
    · rw [if_pos ho]
      have hO := hops _ ho
      have hq := bet_lt (isO_nz hO)
      have hs := hsub (q + 1) (by omega)
      cases hR : sub (q + 1) with
      | inl e => rw [hR] at hs; exact hs
      | inr z =>
        obtain ⟨r, d, w⟩ := z
        rw [hR] at hs
        obtain ⟨s1, s2, s3, s4⟩ := hs
        refine lp_G hsub hops f r _ _ ?_ (by omega) s3 (GC_bin h4 s4 hO)
        rw [List.length_append, List.length_append]
        show pos + (c.length + (d.length + 1)) ≤ r
        omega
    · rw [if_neg ho]
      exact ⟨h1, h2, h3, h4⟩
theorem lv_G {L : Nat} {τ : Nat → Nat} {sub : Nat → PR} {ops : Nat → Bool} (hsub : GP L sub) (hops : ∀ c, ops c = true → isO c) (f : Nat) : GP L (lvR sub ops (bet L τ) f) := by
  intro pos hp
  unfold lvR
  have hs := hsub pos hp
  cases hR : sub pos with
  | inl e => rw [hR] at hs; exact hs
  | inr z =>
    obtain ⟨r, d, w⟩ := z
    rw [hR] at hs
    exact lp_G hsub hops f r d w hs.1 hs.2.1 hs.2.2.1 hs.2.2.2
theorem opP_O {c : Nat} (h : opP c = true) : isO c := by have := of_decide_eq_true h; unfold isO; omega
theorem opS_O {c : Nat} (h : opS c = true) : isO c := by have := of_decide_eq_true h; unfold isO; omega
theorem opC_O {c : Nat} (h : opC c = true) : isO c := by have := of_decide_eq_true h; unfold isO; omega
theorem opB_O {c : Nat} (h : opB c = true) : isO c := by have := of_decide_eq_true h; unfold isO; omega
theorem opE_O {c : Nat} (h : opE c = true) : isO c := by have := of_decide_eq_true h; unfold isO; omega
theorem ei_G {L : Nat} {τ : Nat → Nat} {one : Nat → PR} (h : GP L one) : GP L (eiR one (bet L τ)) := lv_G (lv_G (lv_G (lv_G (lv_G h (fun _ => opP_O) 120) (fun _ => opS_O) 120) (fun _ => opC_O) 1) (fun _ => opB_O) 120) (fun _ => opE_O) 120
theorem nu_G {L : Nat} {τ : Nat → Nat} : ∀ f q a, q ≤ L → q ≤ (nuR (bet L τ) f q a).1 ∧ (nuR (bet L τ) f q a).1 ≤ L ∧ (nuR (bet L τ) f q a).2 + 1 ≤ (a + 1) * 10 ^ f
  | 0, q, a, h => ⟨Nat.le_refl _, h, by show a + 1 ≤ (a + 1) * 1; omega⟩
  | f + 1, q, a, h => by
    unfold nuR
    by_cases c : 48 ≤ bet L τ q ∧ bet L τ q ≤ 57
    · rw [if_pos c]
      have hq := bet_lt (show bet L τ q ≠ 0 by omega)
      obtain ⟨h1, h2, h3⟩ := nu_G (L := L) (τ := τ) f (q + 1) (a * 10 + bet L τ q - 48) (by omega)
      refine ⟨by omega, h2, Nat.le_trans h3 ?_⟩
      rw [Nat.pow_succ, Nat.mul_comm (10 ^ f) 10, ← Nat.mul_assoc]
      exact Nat.mul_le_mul_right _ (by omega)
    · rw [if_neg c]
      have := Nat.one_le_two_pow (n := 0)
      refine ⟨Nat.le_refl _, h, ?_⟩
      have h10 : 1 ≤ 10 ^ (f + 1) := Nat.one_le_pow _ _ (by decide)
      have := Nat.mul_le_mul_left (a + 1) h10
      omega
theorem nu_1 {L q : Nat} {τ : Nat → Nat} (h : 48 ≤ bet L τ q ∧ bet L τ q ≤ 57) : q < (nuR (bet L τ) 4 q 0).1 ∧ (nuR (bet L τ) 4 q 0).1 ≤ L ∧ (nuR (bet L τ) 4 q 0).2 < 10000 := by
  have hq := bet_lt (show bet L τ q ≠ 0 by omega)
  have h4 := (nu_G (L := L) (τ := τ) 4 q 0 (by omega)).2.2
  have e : nuR (bet L τ) 4 q 0 = nuR (bet L τ) 3 (q + 1) (0 * 10 + bet L τ q - 48) := by
    show (if 48 ≤ bet L τ q ∧ bet L τ q ≤ 57 then nuR (bet L τ) 3 (q + 1) (0 * 10 + bet L τ q - 48) else (q, 0)) = _
    rw [if_pos h]
  obtain ⟨h1, h2, -⟩ := nu_G (L := L) (τ := τ) 3 (q + 1) (0 * 10 + bet L τ q - 48) (by omega)
  rw [← e] at h1 h2
  exact ⟨by omega, h2, by omega⟩
theorem nm_lt {c j : Nat} (h : nmP c = some j) : j < 8 ∧ c ≠ 0 ∧ c < 200 := by
  unfold nmP at h
  repeat' split at h
  all_goals first | (cases h; omega) | cases h
theorem lf_G {L pos : Nat} {τ : Nat → Nat} {els : PR} (hp : pos ≤ L) (he : GR L pos els) : GR L pos (lfR (bet L τ) pos els) := by
  unfold lfR
  by_cases c : 48 ≤ bet L τ pos ∧ bet L τ pos ≤ 57
  · rw [if_pos c]
    obtain ⟨h1, h2, h3⟩ := nu_1 c
    exact ⟨by show pos + 1 ≤ _; omega, h1, h2, GC_num h3⟩
  · rw [if_neg c]
    cases hn : nmP (bet L τ pos) with
    | none => exact he
    | some j =>
      obtain ⟨h1, h2, -⟩ := nm_lt hn
      have := bet_lt h2
      exact ⟨Nat.le_refl _, by omega, by omega, GC_name h1⟩
theorem op_G {L : Nat} {τ : Nat → Nat} : ∀ k, GP L (opR (bet L τ) k)
  | 0 => fun pos hp => lf_G hp hp
  | k + 1 => fun pos hp => by
    refine lf_G hp ?_
    by_cases c1 : bet L τ pos = 40
    · rw [if_pos c1]
      have hq := bet_lt (show bet L τ pos ≠ 0 by omega)
      have hs := ei_G (τ := τ) (op_G (L := L) (τ := τ) k) (pos + 1) (by omega)
      cases hR : eiR (opR (bet L τ) k) (bet L τ) (pos + 1) with
      | inl e => rw [hR] at hs; exact hs
      | inr z =>
        obtain ⟨r, d, w⟩ := z
        rw [hR] at hs
        obtain ⟨s1, s2, s3, s4⟩ := hs
        show GR L pos (if bet L τ r = 41 then .inr (r + 1, d, w) else .inl r)
        by_cases c2 : bet L τ r = 41
        · rw [if_pos c2]
          have := bet_lt (show bet L τ r ≠ 0 by omega)
          exact ⟨by omega, by omega, by omega, s4⟩
        · rw [if_neg c2]; exact s3
    · rw [if_neg c1]
      by_cases c2 : bet L τ pos = 33
      · rw [if_pos c2]
        have hq := bet_lt (show bet L τ pos ≠ 0 by omega)
        have hs := op_G (L := L) (τ := τ) k (pos + 1) (by omega)
        cases hR : opR (bet L τ) k (pos + 1) with
        | inl e => rw [hR] at hs; exact hs
        | inr z =>
          obtain ⟨r, d, w⟩ := z
          rw [hR] at hs
          obtain ⟨s1, s2, s3, s4⟩ := hs
          refine ⟨?_, by omega, s3, GC_not s4⟩
          rw [List.length_append]
          show pos + (d.length + 1) ≤ r
          omega
      · rw [if_neg c2]
        by_cases c3 : bet L τ pos = 45
        · rw [if_pos c3]
          have hq := bet_lt (show bet L τ pos ≠ 0 by omega)
          have hs := op_G (L := L) (τ := τ) k (pos + 1) (by omega)
          cases hR : opR (bet L τ) k (pos + 1) with
          | inl e => rw [hR] at hs; exact hs
          | inr z =>
            obtain ⟨r, d, w⟩ := z
            rw [hR] at hs
            obtain ⟨s1, s2, s3, s4⟩ := hs
            refine ⟨?_, by omega, s3, GC_neg s4⟩
            rw [List.length_append]
            show pos + (d.length + 1) ≤ r
            omega
        · rw [if_neg c3]; exact hp
