/-- THE TABLE: people, things, cards, settings, in both -/
def IT (m : Mem) : Prop := ∃ P T C : Nat, (gI m 1 13 = nI P ∧ gI m 85 6 = nI P ∧ P ≤ 10) ∧ (gI m 1 14 = nI T ∧ gI m 85 8 = nI T ∧ T ≤ 6) ∧ (gI m 1 15 = nI C ∧ gI m 85 9 = nI C ∧ C ≤ 20)
theorem addPerson_v {m : Mem} {P : Nat} (hP : gI m 1 13 = nI P) (h : P < 10) (rv wl : Int32) : f_X6_addPerson rv wl m = some (nI P, sI (sI (sI (sI (sI (sI m 2 P (rv / 10)) 3 P (rv - rv / 10 * 10)) 4 P (wl / 100)) 5 P (wl - wl / 100 * 100)) 1 16 (gI m 1 16 + 1)) 1 13 (nI (P + 1))) := by
  have e : ∀ {T : Type} (K : Option T), ck (nI P) 10 K = K := fun K => ck_in h (by decide)
  have ei : ix (nI P) = P := ix_n (by omega)
  simp only [f_X6_addPerson, bnd, hP, e, ei, g_sI, nI_1, Nat.reduceEqDiff, false_and, if_false, and_false, true_and, if_true, reduceIte]
