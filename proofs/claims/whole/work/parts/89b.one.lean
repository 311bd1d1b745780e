/-! THE LAW'S TEXT: the reference's upper levels and operands -/
theorem both_X {b : Bool} {L k : Nat} {τ : Nat → Nat} {N : Nat → Int32} (hL : L ≤ 120) (hτ : ∀ i, i < L → τ i ≤ 255) {one : Nat → PR} {rc : Mem → Option (Int32 × Mem)} (hs : XSp b L τ N k (f_X9_compared rc) (coR one (bet L τ))) (hG : GP L (coR one (bet L τ))) : XSp b L τ N k (f_X9_both rc) (boR one (bet L τ)) := by
  intro m q h
  have hg := hG q h.1.2.2
  obtain ⟨x, n, a1, a2, a3⟩ := hs m q h
  have hflt : ∀ (x : Int32) n p e, XF b L τ N n e → XP b L τ N n p → wh (f_X9_both_L5 rc) (x, n) = some (x, n) := fun x n p e hf hp => wh_up (by
    unfold f_X9_both_L5
    dsimp only
    rw [takes_f hL hf]; rfl)
  unfold f_X9_both boR lvR
  rw [a1, some_bind]
  cases hR : coR one (bet L τ) q with
  | inl e =>
    rw [hR] at a3
    obtain ⟨p, hp⟩ := (show XF b L τ N n e from a3).1
    exact ⟨x, n, hflt x n p e a3 hp, a2, a3⟩
  | inr z =>
    obtain ⟨r, c, v⟩ := z
    rw [hR] at a3 hg
    obtain ⟨b1, b2⟩ := (show XS b L τ N k n r ∧ x = v N from a3)
    have hlp := lp_X (S := Int32 × Mem) (body := f_X9_both_L5 rc) (mk := fun x _ n => (x, n)) hs hG (ops := opB) (fun _ => opB_O) hflt (fun x n q hx ho => wh_up (by
      have hno := of_decide_eq_false ho
      unfold f_X9_both_L5
      dsimp only
      rw [takes_n hL hτ hx (c := 38) (C := (38 : Int32)) rfl (by decide) (by omega)]; rfl)) (fun x n q y n1 p hx ho ha hp => by
      have hyes : bet L τ q = 38 := of_decide_eq_true ho
      unfold f_X9_both_L5
      dsimp only
      rw [takes_t hL hx (c := 38) (C := (38 : Int32)) rfl hyes, some_bind]
      rw [if_neg (show ¬ (1 : Int32) = 0 by decide)]
      refine bs ha ?_
      rw [hyes]
      show (if x = 0 then some (Sum.inl ((0 : Int32), n1)) else if y = 0 then some (Sum.inl ((0 : Int32), n1)) else some (Sum.inl ((1 : Int32), n1))) = some (Sum.inl ((if x = 0 then 0 else if y = 0 then 0 else 1), n1))
      split
      · rfl
      · split <;> rfl) 120 n r x c v (by omega) b1 b2
    obtain ⟨y, n1, c1, c2, c3⟩ := hlp
    exact ⟨y, n1, c1, a2.tr c2, c3⟩
theorem either_X {b : Bool} {L k : Nat} {τ : Nat → Nat} {N : Nat → Int32} (hL : L ≤ 120) (hτ : ∀ i, i < L → τ i ≤ 255) {one : Nat → PR} {rc : Mem → Option (Int32 × Mem)} (hr : XSp b L τ N k rc one) (hG0 : GP L one) : XSp b L τ N k (f_X9_either rc) (eiR one (bet L τ)) := by
  have g1 : GP L (prR one (bet L τ)) := lv_G hG0 (fun _ => opP_O) 120
  have g2 : GP L (suR one (bet L τ)) := lv_G g1 (fun _ => opS_O) 120
  have g3 : GP L (coR one (bet L τ)) := lv_G g2 (fun _ => opC_O) 1
  have hG : GP L (boR one (bet L τ)) := lv_G g3 (fun _ => opB_O) 120
  have hs := both_X hL hτ (compared_X hL hτ (sums_X hL hτ (product_X hL hτ hr hG0) g1) g2) g3
  intro m q h
  have hg := hG q h.1.2.2
  obtain ⟨x, n, a1, a2, a3⟩ := hs m q h
  have hflt : ∀ (x : Int32) n p e, XF b L τ N n e → XP b L τ N n p → wh (f_X9_either_L5 rc) (x, n) = some (x, n) := fun x n p e hf hp => wh_up (by
    unfold f_X9_either_L5
    dsimp only
    rw [takes_f hL hf]; rfl)
  unfold f_X9_either eiR lvR
  rw [a1, some_bind]
  cases hR : boR one (bet L τ) q with
  | inl e =>
    rw [hR] at a3
    obtain ⟨p, hp⟩ := (show XF b L τ N n e from a3).1
    exact ⟨x, n, hflt x n p e a3 hp, a2, a3⟩
  | inr z =>
    obtain ⟨r, c, v⟩ := z
    rw [hR] at a3 hg
    obtain ⟨b1, b2⟩ := (show XS b L τ N k n r ∧ x = v N from a3)
    have hlp := lp_X (S := Int32 × Mem) (body := f_X9_either_L5 rc) (mk := fun x _ n => (x, n)) hs hG (ops := opE) (fun _ => opE_O) hflt (fun x n q hx ho => wh_up (by
      have hno := of_decide_eq_false ho
      unfold f_X9_either_L5
      dsimp only
      rw [takes_n hL hτ hx (c := 124) (C := (124 : Int32)) rfl (by decide) (by omega)]; rfl)) (fun x n q y n1 p hx ho ha hp => by
      have hyes : bet L τ q = 124 := of_decide_eq_true ho
      unfold f_X9_either_L5
      dsimp only
      rw [takes_t hL hx (c := 124) (C := (124 : Int32)) rfl hyes, some_bind]
      rw [if_neg (show ¬ (1 : Int32) = 0 by decide)]
      refine bs ha ?_
      rw [hyes]
      show (if ¬ x = 0 then some (Sum.inl ((1 : Int32), n1)) else if y = 0 then some (Sum.inl ((0 : Int32), n1)) else some (Sum.inl ((1 : Int32), n1))) = some (Sum.inl ((if ¬ x = 0 then 1 else if y = 0 then 0 else 1), n1))
      split
      · rfl
      · split <;> rfl) 120 n r x c v (by omega) b1 b2
    obtain ⟨y, n1, c1, c2, c3⟩ := hlp
    exact ⟨y, n1, c1, a2.tr c2, c3⟩
def nm9 (p1 : Int32) : Option Int32 := sw p1 [((101 : Int32), some (2 : Int32)), (102, some (-1)), (103, some (-1)), (104, some (-1)), (105, some (-1)), (106, some (-1)), (107, some (-1)), (108, some 7), (109, some (-1)), (110, some 3), (111, some (-1)), (112, some 6), (113, some (-1)), (114, some 0), (115, some 4), (116, some 5), (117, some (-1)), (118, some 1)] (some (-1))
theorem sw_m {x : Int32} {m : Mem} {d : Int32} : ∀ {l : List (Int32 × Int32)}, sw x (l.map (fun q => (q.1, some (q.2, m)))) (some (d, m)) = (sw x (l.map (fun q => (q.1, some q.2))) (some d)).map (fun v => (v, m))
  | [] => rfl
  | q :: l => by
    show (if x = q.1 then some (q.2, m) else sw x (l.map (fun q => (q.1, some (q.2, m)))) (some (d, m))) = (if x = q.1 then some q.2 else sw x (l.map (fun q => (q.1, some q.2))) (some d)).map _
    by_cases c : x = q.1
    · rw [if_pos c, if_pos c]; rfl
    · rw [if_neg c, if_neg c]; exact sw_m
theorem nm9_all : ∀ x, x < 256 → nm9 (nI x) = some (match nmP x with | some j => nI j | none => -1) := by decide +kernel
theorem nameOf_v {x : Nat} (hx : x < 256) (m : Mem) : f_X9_nameOf (nI x) m = some (nmC x, m) := by
  have h := sw_m (x := nI x) (m := m) (d := (-1 : Int32)) (l := [(101, 2), (102, -1), (103, -1), (104, -1), (105, -1), (106, -1), (107, -1), (108, 7), (109, -1), (110, 3), (111, -1), (112, 6), (113, -1), (114, 0), (115, 4), (116, 5), (117, -1), (118, 1)])
  have h2 : f_X9_nameOf (nI x) m = (nm9 (nI x)).map (fun v => (v, m)) := h
  rw [h2, nm9_all x hx]
  rfl
/-- a number -/
theorem num_X {b : Bool} {L k : Nat} {τ : Nat → Nat} {N : Nat → Int32} (hL : L ≤ 120) (hτ : ∀ i, i < L → τ i ≤ 255) {rc : Mem → Option (Int32 × Mem)} : ∀ f i q a m, i + f = 4 → XS b L τ N k m q → (0 < i ∨ (48 ≤ bet L τ q ∧ bet L τ q ≤ 57)) → ∃ n, wh (f_X9_one_L176 rc) (nI a, nI i, m) = some (nI (nuR (bet L τ) f q a).2, n) ∧ XK m n ∧ XS b L τ N k n (nuR (bet L τ) f q a).1
  | 0, i, q, a, m, hi, h, h0 => by
    have : i = 4 := by omega
    subst this
    refine ⟨m, wh_up ?_, XK.rf, h⟩
    unfold f_X9_one_L176
    dsimp only
    rw [if_pos (show (4 : Int32) ≤ nI 4 by decide)]
    unfold f_X9_one_J229
    rw [if_pos (show ¬ nI 4 = 0 by decide)]
    rfl
  | f + 1, i, q, a, m, hi, h, h0 => by
    have hb := byteAt_v hL h.1
    have hle := bet_le (q := q) hτ
    have c4 : ¬ (4 : Int32) ≤ nI i := nI_ge (b := 4) (by omega) (by decide)
    unfold nuR
    by_cases c : 48 ≤ bet L τ q ∧ bet L τ q ≤ 57
    · rw [if_pos c]
      have hq := bet_lt (show bet L τ q ≠ 0 by omega)
      have hst : f_X9_one_L176 rc (nI a, nI i, m) = some (.inl (nI (a * 10 + bet L τ q - 48), nI (i + 1), sI m 85 21 (nI (q + 1)))) := by
        unfold f_X9_one_L176
        dsimp only
        rw [if_neg c4]
        refine bs hb ?_
        dsimp only
        rw [if_neg (show ¬ nI (bet L τ q) < (48 : Int32) from nI_nlt (a := bet L τ q) (b := 48) c.1 (by omega))]
        refine bs hb ?_
        dsimp only
        rw [if_neg (show ¬ (57 : Int32) < nI (bet L τ q) from nI_nlt (a := 57) (b := bet L τ q) c.2 (by decide))]
        refine bs hb ?_
        have e : ((10 : Int32) * nI a + nI (bet L τ q)) - 48 = nI (a * 10 + bet L τ q - 48) := by
          rw [show (10 : Int32) * nI a = nI (10 * a) from nI_mul 10 a, nI_add, Nat.mul_comm 10 a]
          exact nI_sub (b := 48) (by omega)
        rw [h.1.2.1]
        refine bn (bn (bn ?_))
        rw [e, nI_1, nI_1]
      obtain ⟨n, o1, o2, o3⟩ := num_X hL hτ f (i + 1) (q + 1) (a * 10 + bet L τ q - 48) _ (by omega) (h.p hq) (Or.inl (by omega))
      exact ⟨n, (wh_inl hst).trans o1, (XK_s (Or.inl rfl) _).tr o2, o3⟩
    · rw [if_neg c]
      have hi0 : 0 < i := by
        rcases h0 with h0 | h0
        · exact h0
        · exact absurd h0 c
      have hJ : f_X9_one_J229 rc (nI a) (nI i) m = some (nI a, m) := by
        unfold f_X9_one_J229
        rw [if_pos (show ¬ nI i = 0 from fun z => by have := (eq_nn (a := i) (b := 0) (by omega) (by decide)).mp z; omega)]
      refine ⟨m, wh_up ?_, XK.rf, h⟩
      unfold f_X9_one_L176
      dsimp only
      rw [if_neg c4]
      refine bs hb ?_
      dsimp only
      by_cases c1 : bet L τ q < 48
      · rw [if_pos (show nI (bet L τ q) < (48 : Int32) from nI_lt (b := 48) c1 (by decide)), hJ]
      · rw [if_neg (show ¬ nI (bet L τ q) < (48 : Int32) from nI_nlt (a := bet L τ q) (b := 48) (by omega) (by omega))]
        refine bs hb ?_
        dsimp only
        rw [if_pos (show (57 : Int32) < nI (bet L τ q) from nI_lt (a := 57) (by omega) (by omega)), hJ]

theorem one_X {b : Bool} {L : Nat} {τ : Nat → Nat} {N : Nat → Int32} (hL : L ≤ 120) (hτ : ∀ i, i < L → τ i ≤ 255) : ∀ k, k ≤ 6 → ∀ n, k + 1 ≤ n → XSp b L τ N k (f_X9_one n) (opR (bet L τ) k) := by
  intro k
  -- what all depths share: digits and names
  have leaf : ∀ k (rc : Mem → Option (Int32 × Mem)) m q els, XS b L τ N k m q → (nmP (bet L τ q) = none → ¬ (48 ≤ bet L τ q ∧ bet L τ q ≤ 57) → ∃ x n, f_X9_one_B rc m = some (x, n) ∧ XK m n ∧ XR b L τ N k n x els) → ∃ x n, f_X9_one_B rc m = some (x, n) ∧ XK m n ∧ XR b L τ N k n x (lfR (bet L τ) q els) := fun k rc m q els h hels => by
    have hb := byteAt_v hL h.1
    have hle := bet_le (q := q) hτ
    unfold lfR
    by_cases c : 48 ≤ bet L τ q ∧ bet L τ q ≤ 57
    · rw [if_pos c]
      have hn : nmP (bet L τ q) = none := by
        cases hn : nmP (bet L τ q) with
        | none => rfl
        | some j =>
          unfold nmP at hn
          repeat' split at hn
          all_goals first | omega | cases hn
      obtain ⟨n, o1, o2, o3⟩ := num_X (rc := rc) hL hτ 4 0 q 0 m rfl h (Or.inr c)
      refine ⟨_, n, ?_, o2, o3, rfl⟩
      unfold f_X9_one_B
      rw [if_pos (show gI m 85 23 < 0 by rw [h.2.1]; decide)]
      refine bs hb ?_
      dsimp only
      rw [if_neg (be_f (c := 33) (C := (33 : Int32)) hτ rfl (by decide) (by omega)), if_neg (be_f (c := 45) (C := (45 : Int32)) hτ rfl (by decide) (by omega)), if_pos (be_f (c := 40) (C := (40 : Int32)) hτ rfl (by decide) (by omega))]
      refine bs (nameOf_v (by omega) m) ?_
      dsimp only
      unfold nmC
      rw [hn]
      rw [if_pos (show (-1 : Int32) < 0 by decide)]
      exact o1
    · rw [if_neg c]
      cases hn : nmP (bet L τ q) with
      | none => exact hels hn c
      | some j =>
        obtain ⟨g1, g2, g3⟩ := nm_lt hn
        have hq := bet_lt g2
        have hne : bet L τ q ≠ 33 ∧ bet L τ q ≠ 45 ∧ bet L τ q ≠ 40 := by
          unfold nmP at hn
          refine ⟨fun e => ?_, fun e => ?_, fun e => ?_⟩ <;> (rw [e] at hn; cases hn)
        have hp := h.p hq
        refine ⟨N j, _, ?_, XK_s (Or.inl rfl) (nI (q + 1)), hp, rfl⟩
        unfold f_X9_one_B
        rw [if_pos (show gI m 85 23 < 0 by rw [h.2.1]; decide)]
        refine bs hb ?_
        dsimp only
        rw [if_neg (be_f (c := 33) (C := (33 : Int32)) hτ rfl (by decide) hne.1), if_neg (be_f (c := 45) (C := (45 : Int32)) hτ rfl (by decide) hne.2.1), if_pos (be_f (c := 40) (C := (40 : Int32)) hτ rfl (by decide) hne.2.2)]
        refine bs (nameOf_v (by omega) m) ?_
        dsimp only
        unfold nmC
        rw [hn]
        show (if nI j < 0 then _ else _) = _
        rw [if_neg (nn_lt0 (by omega)), h.1.2.1, nI_1]
        refine bn ?_
        rw [ck_in g1 (by decide), ix_n (by omega), hp.1.1.2.2.2 j]
  -- behind the leaf: ( ! - or nothing
  have sign : ∀ (rc : Mem → Option (Int32 × Mem)) m q k, XS b L τ N k m q → (bet L τ q = 40 ∨ bet L τ q = 33 ∨ bet L τ q = 45) → f_X9_one_B rc m = f_X9_one_J32 rc (nI (bet L τ q)) m := fun rc m q k h hc => by
    unfold f_X9_one_B
    rw [if_pos (show gI m 85 23 < 0 by rw [h.2.1]; decide)]
    refine bs (byteAt_v hL h.1) ?_
    dsimp only
    by_cases d0 : bet L τ q = 33
    · rw [if_pos (be_t (C := (33 : Int32)) rfl d0)]
    · rw [if_neg (be_f (c := 33) (C := (33 : Int32)) hτ rfl (by decide) d0)]
      by_cases d1 : bet L τ q = 45
      · rw [if_pos (be_t (C := (45 : Int32)) rfl d1)]
      · rw [if_neg (be_f (c := 45) (C := (45 : Int32)) hτ rfl (by decide) d1), if_neg (fun z => z (be_t (C := (40 : Int32)) rfl (show bet L τ q = 40 by omega)))]
  have nothing : ∀ (rc : Mem → Option (Int32 × Mem)) m q k, XS b L τ N k m q → bet L τ q ≠ 40 → bet L τ q ≠ 33 → bet L τ q ≠ 45 → nmP (bet L τ q) = none → ¬ (48 ≤ bet L τ q ∧ bet L τ q ≤ 57) → f_X9_one_B rc m = some (0, sI m 85 23 (nI q)) := fun rc m q k h c0 c1 c2 hn c => by
    have hle := bet_le (q := q) hτ
    have hb := byteAt_v hL h.1
    have hJ : f_X9_one_J229 rc 0 0 m = some (0, sI m 85 23 (nI q)) := by
      unfold f_X9_one_J229
      rw [if_neg (fun z => z rfl), (wrong_s h).1]; rfl
    unfold f_X9_one_B
    rw [if_pos (show gI m 85 23 < 0 by rw [h.2.1]; decide)]
    refine bs hb ?_
    dsimp only
    rw [if_neg (be_f (c := 33) (C := (33 : Int32)) hτ rfl (by decide) c1), if_neg (be_f (c := 45) (C := (45 : Int32)) hτ rfl (by decide) c2), if_pos (be_f (c := 40) (C := (40 : Int32)) hτ rfl (by decide) c0)]
    refine bs (nameOf_v (by omega) m) ?_
    dsimp only
    unfold nmC
    rw [hn]
    rw [if_pos (show (-1 : Int32) < 0 by decide)]
    refine wh_up ?_
    unfold f_X9_one_L176
    dsimp only
    rw [if_neg (show ¬ (4 : Int32) ≤ 0 by decide)]
    refine bs hb ?_
    dsimp only
    by_cases c1 : bet L τ q < 48
    · rw [if_pos (show nI (bet L τ q) < (48 : Int32) from nI_lt (b := 48) c1 (by decide)), hJ]
    · rw [if_neg (show ¬ nI (bet L τ q) < (48 : Int32) from nI_nlt (a := bet L τ q) (b := 48) (by omega) (by omega))]
      refine bs hb ?_
      dsimp only
      rw [if_pos (show (57 : Int32) < nI (bet L τ q) from nI_lt (a := 57) (by omega) (by omega)), hJ]
  induction k with
  | zero =>
    intro _ n hn m q h
    obtain ⟨n', rfl⟩ : ∃ n', n = n' + 1 := ⟨n - 1, by omega⟩
    refine leaf 0 (f_X9_one n') m q (.inl q) h (fun hn c => ?_)
    obtain ⟨w1, w2⟩ := wrong_s h
    refine ⟨0, _, ?_, XK_s (Or.inr (Or.inl rfl)) _, w2⟩
    by_cases d : bet L τ q = 40 ∨ bet L τ q = 33 ∨ bet L τ q = 45
    · rw [sign _ m q 0 h d]
      unfold f_X9_one_J32
      rw [h.2.2, if_neg (show ¬ ¬ nI (6 - 0) = (6 : Int32) by decide), w1]; rfl
    · exact nothing _ m q 0 h (by omega) (by omega) (by omega) hn c
  | succ k ih =>
    intro hk6 n hkn m q h
    obtain ⟨n', rfl⟩ : ∃ n', n = n' + 1 := ⟨n - 1, by omega⟩
    have ih' := ih (by omega) n' (by omega)
    have hG := op_G (L := L) (τ := τ) k
    have hE := either_X hL hτ ih' hG
    refine leaf (k + 1) (f_X9_one n') m q _ h (fun hn c => ?_)
    have h6 : ¬ nI (6 - (k + 1)) = (6 : Int32) := fun z => by
      have := (eq_nn (a := 6 - (k + 1)) (b := 6) (by omega) (by decide)).mp z
      omega
    have e6 : nI (6 - (k + 1)) + 1 = nI (6 - k) := by rw [nI_1]; congr 1; omega
    have e7 : nI (6 - k) - 1 = nI (6 - (k + 1)) := by
      obtain ⟨d, hd⟩ : ∃ d, 6 - k = d + 1 := ⟨5 - k, by omega⟩
      rw [hd, nI_pred]; congr 1; omega
    have hin : q < L → XS b L τ N k (sI (sI m 85 24 (nI (6 - k))) 85 21 (nI (q + 1))) (q + 1) := fun hq => ⟨⟨(h.1.1.k (XK_s (Or.inr (Or.inr rfl)) _)).k (XK_s (Or.inl rfl) _), g_hit _ _ _ _, hq⟩, by rw [g_off _ _ (by decide), g_off _ _ (by decide)]; exact h.2.1, by rw [g_off _ _ (by decide), g_hit]⟩
    have kin : XK m (sI (sI m 85 24 (nI (6 - k))) 85 21 (nI (q + 1))) := (XK_s (Or.inr (Or.inr rfl)) _).tr (XK_s (Or.inl rfl) _)
    have out : ∀ {n : Mem} {r : Nat}, XS b L τ N k n r → XS b L τ N (k + 1) (sI n 85 24 (gI n 85 24 - 1)) r := fun {n r} hx => ⟨⟨hx.1.1.k (XK_s (Or.inr (Or.inr rfl)) _), by rw [g_off _ _ (by decide)]; exact hx.1.2.1, hx.1.2.2⟩, by rw [g_off _ _ (by decide)]; exact hx.2.1, by rw [g_hit, hx.2.2, e7]⟩
    have outf : ∀ {n : Mem} {e : Nat}, XF b L τ N n e → XF b L τ N (sI n 85 24 (gI n 85 24 - 1)) e := fun {n e} hx => by
      obtain ⟨⟨p, p1, p2, p3⟩, x2, x3⟩ := hx
      exact ⟨⟨p, p1.k (XK_s (Or.inr (Or.inr rfl)) _), by rw [g_off _ _ (by decide)]; exact p2, p3⟩, by rw [g_off _ _ (by decide)]; exact x2, x3⟩
    -- ! and -
    have un : ∀ (c0 x : Nat) (f : Int32 → Int32), bet L τ q = c0 → (c0 = 33 ∨ c0 = 45) → (∀ (v : Int32) (n : Mem), f_X9_one_J104 (f_X9_one n') (nI c0) v n = some (f v, sI n 85 24 (gI n 85 24 - 1))) → ∃ y n, f_X9_one_B (f_X9_one n') m = some (y, n) ∧ XK m n ∧ XR b L τ N (k + 1) n y (match opR (bet L τ) k (q + 1) with | .inl e => .inl e | .inr (r, c, v) => .inr (r, c ++ [x], fun N => f (v N))) := fun c0 x f hc hc0 hf => by
      have hq := bet_lt (show bet L τ q ≠ 0 by omega)
      obtain ⟨y, n1, a1, a2, a3⟩ := ih' _ _ (hin hq)
      have hne : ¬ nI c0 = (40 : Int32) := fun z => by
        have := (eq_nn (a := c0) (b := 40) (by omega) (by decide)).mp z
        omega
      refine ⟨f y, sI n1 85 24 (gI n1 85 24 - 1), ?_, kin.tr (a2.tr (XK_s (Or.inr (Or.inr rfl)) _)), ?_⟩
      · rw [sign _ m q (k + 1) h (by omega), hc]
        unfold f_X9_one_J32
        rw [h.2.2, if_pos h6, e6]
        refine bn ?_
        rw [g_off _ _ (by decide), h.1.2.1, nI_1]
        refine bn ?_
        rw [if_pos hne]
        refine bs a1 ?_
        dsimp only
        unfold f_X9_one_J83
        rw [if_pos hne]
        exact hf y n1
      · cases hR : opR (bet L τ) k (q + 1) with
        | inl e => rw [hR] at a3; exact outf a3
        | inr z =>
          obtain ⟨r, c, v⟩ := z
          rw [hR] at a3
          obtain ⟨b1, b2⟩ := (show XS b L τ N k n1 r ∧ y = v N from a3)
          exact ⟨out b1, by rw [b2]⟩
    by_cases c0 : bet L τ q = 40
    · rw [if_pos c0]
      have hq := bet_lt (show bet L τ q ≠ 0 by omega)
      obtain ⟨y, n1, a1, a2, a3⟩ := hE _ _ (hin hq)
      have hgr := ei_G (τ := τ) hG (q + 1) (by omega)
      have go : ∀ z, f_X9_one_J83 (f_X9_one n') 40 y n1 = some z → f_X9_one_B (f_X9_one n') m = some z := fun z hz => by
        rw [sign _ m q (k + 1) h (Or.inl c0), c0]
        unfold f_X9_one_J32
        rw [h.2.2, if_pos h6, e6]
        refine bn ?_
        rw [g_off _ _ (by decide), h.1.2.1, nI_1]
        refine bn ?_
        rw [if_neg (show ¬ ¬ nI 40 = (40 : Int32) by decide)]
        exact bs a1 hz
      cases hR : eiR (opR (bet L τ) k) (bet L τ) (q + 1) with
      | inl e =>
        rw [hR] at a3
        have hf : XF b L τ N n1 e := a3
        obtain ⟨w1, w2⟩ := wrong_f hL hf
        refine ⟨0, _, go _ ?_, kin.tr (a2.tr (XK_s (Or.inr (Or.inl rfl)) _)), w2⟩
        unfold f_X9_one_J83
        rw [if_neg (fun z => z rfl), takes_f hL hf, some_bind, if_neg (fun z => z rfl), w1]; rfl
      | inr z =>
        obtain ⟨r, c, v⟩ := z
        rw [hR] at a3 hgr
        obtain ⟨b1, b2⟩ := (show XS b L τ N k n1 r ∧ y = v N from a3)
        show ∃ x n, _ ∧ XK m n ∧ XR b L τ N (k + 1) n x (if bet L τ r = 41 then .inr (r + 1, c, v) else .inl r)
        by_cases d : bet L τ r = 41
        · rw [if_pos d]
          have hr := bet_lt (show bet L τ r ≠ 0 by omega)
          refine ⟨y, _, go _ ?_, kin.tr (a2.tr ((XK_s (Or.inl rfl) (nI (r + 1))).tr (XK_s (Or.inr (Or.inr rfl)) _))), out (b1.p hr), b2⟩
          unfold f_X9_one_J83
          rw [if_neg (fun z => z rfl), takes_t hL b1 (c := 41) (C := (41 : Int32)) rfl d, some_bind, if_pos (show ¬ (1 : Int32) = 0 by decide)]
          unfold f_X9_one_J104
          refine bn ?_
          rw [if_neg (fun z => z rfl)]
        · rw [if_neg d]
          obtain ⟨w1, w2⟩ := wrong_s b1
          refine ⟨0, _, go _ ?_, kin.tr (a2.tr (XK_s (Or.inr (Or.inl rfl)) _)), w2⟩
          unfold f_X9_one_J83
          rw [if_neg (fun z => z rfl), takes_n hL hτ b1 (c := 41) (C := (41 : Int32)) rfl (by decide) d, some_bind, if_neg (fun z => z rfl), w1]; rfl
    · rw [if_neg c0]
      by_cases c1 : bet L τ q = 33
      · rw [if_pos c1]
        refine un 33 20033 nt c1 (Or.inl rfl) (fun v n => ?_)
        unfold f_X9_one_J104 nt
        refine bn ?_
        rw [if_pos (show ¬ nI 33 = (40 : Int32) by decide), if_pos (show ¬ nI 33 = (45 : Int32) by decide)]
        by_cases d : v = 0
        · rw [if_neg (fun z => z d), if_pos d]
        · rw [if_pos d, if_neg d]
      · rw [if_neg c1]
        by_cases c2 : bet L τ q = 45
        · rw [if_pos c2]
          refine un 45 20126 (fun x => -x) c2 (Or.inr rfl) (fun v n => ?_)
          unfold f_X9_one_J104
          refine bn ?_
          rw [if_pos (show ¬ nI 45 = (40 : Int32) by decide), if_neg (fun z => z rfl)]
        · rw [if_neg c2]
          obtain ⟨-, w2⟩ := wrong_s h
          exact ⟨0, _, nothing _ m q (k + 1) h c0 c1 c2 hn c, XK_s (Or.inr (Or.inl rfl)) _, w2⟩
