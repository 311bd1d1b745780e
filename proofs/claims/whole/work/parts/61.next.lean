/-! WHO SPEAKS NEXT -/
theorem wh_both {S T S' T' : Type} {b : S → Option (S ⊕ T)} {b' : S' → Option (S' ⊕ T')} (R : Nat → S → S' → Prop) (Q : T → T' → Prop) (n : Nat) (hs : ∀ k s s', k < n → R k s s' → (∃ t t', b s = some (.inl t) ∧ b' s' = some (.inl t') ∧ R (k + 1) t t') ∨ ∃ r r', b s = some (.inr r) ∧ b' s' = some (.inr r') ∧ Q r r') (he : ∀ s s', R n s s' → ∃ r r', b s = some (.inr r) ∧ b' s' = some (.inr r') ∧ Q r r') : ∀ k s s', k ≤ n → R k s s' → ∃ r r', wh b s = some r ∧ wh b' s' = some r' ∧ Q r r' := by
  intro k s s' hk
  obtain ⟨j, hj⟩ : ∃ j, n = k + j := ⟨n - k, by omega⟩
  induction j generalizing k s s' with
  | zero =>
    intro hi
    have e : k = n := by omega
    subst e
    obtain ⟨r, r', h1, h2, h3⟩ := he s s' hi
    exact ⟨r, r', wh_done h1, wh_done h2, h3⟩
  | succ j ih =>
    intro hi
    rcases hs k s s' (by omega) hi with ⟨t, t', h1, h2, h3⟩ | ⟨r, r', h1, h2, h3⟩
    · obtain ⟨r, r', h4, h5, h6⟩ := ih (k + 1) t t' (by omega) (by omega) h3
      exact ⟨r, r', wh_next h1 h4, wh_next h2 h5, h6⟩
    · exact ⟨r, r', wh_done h1, wh_done h2, h3⟩
def NX (a P : Nat) (th : Nat → Bool) (m m' : Mem) : Prop := (gI m 1 13 = nI P ∧ gI m' 85 6 = nI P ∧ P ≤ 10) ∧ (∀ p, p < P → gI m (a + 9) p = gI m' 98 p ∧ f_X3_isThere a (nI p) m = some (bi (th p), m) ∧ f_X9_isThere (nI p) m' = some (bi (th p), m') ∧ (th p = false → gI m' 98 p = 0)) ∧ (∀ p, p < P → gI m 2 p = gI m' 86 p ∧ ∃ r, r ≤ 9 ∧ gI m 2 p = nI r) ∧ (∀ p, p < P → gI m (a + 10) p = gI m' 97 p) ∧ (gI m a 18 = gI m' 85 31 ∧ (gI m a 18 = -1 ∨ ∃ q, q < P ∧ gI m a 18 = nI q)) ∧ gI m a 15 = gI m' 85 26
theorem wishes_v {a P : Nat} {th : Nat → Bool} {m m' : Mem} (h : NX a P th m m') {p : Nat} (hp : p < P) : f_X9_wishes (nI p) m' = some (bi (decide (¬ gI m' 98 p ≤ 0)), m') := by
  obtain ⟨⟨-, -, hP⟩, h2, -⟩ := h
  obtain ⟨-, -, e2, e3⟩ := h2 p hp
  unfold f_X9_wishes
  rw [e2, some_bind]
  cases ht : th p
  · have := e3 ht
    simp only [bi, if_true, this, bz_0]
    rfl
  · rw [show (bi true, m').1 = 1 from rfl, if_neg (show ¬ ((1 : Int32) = 0) by decide), ck_in (by omega) (by decide), ix_n (by omega)]
    by_cases q : gI m' 98 p ≤ 0
    · rw [if_pos q, bz_0, decide_eq_false (fun z => z q)]; rfl
    · rw [if_neg q, bz_1, decide_eq_true q]; rfl
def okw (P : Nat) (m' : Mem) (v : Int32) : Prop := v = -1 ∨ ∃ q, q < P ∧ v = nI q ∧ ¬ gI m' 98 q ≤ 0
theorem most_v {a P : Nat} {th : Nat → Bool} {m m' : Mem} (h : NX a P th m m') (below fl top : Int32) (hb : ∀ p, p < P → ¬ gI m' 98 p ≤ 0 → (gI m 2 p < below ↔ ¬ (fl = 0 ∧ top ≤ gI m 2 p))) : ∃ v, f_X3_whoWishesMost a below m = some (v, m) ∧ f_X9_mostWishing fl top m' = some (v, m') ∧ okw P m' v := by
  have h0 := h
  obtain ⟨⟨c1, c2, hP⟩, h2, h3, -⟩ := h
  have := wh_both (b := f_X3_whoWishesMost_L4 a) (b' := f_X9_mostWishing_L5) (fun k s s' => ∃ v, s = (below, v, nI k, m) ∧ s' = (fl, top, v, nI k, m') ∧ okw P m' v) (fun r r' => ∃ v, r = (v, m) ∧ r' = (v, m') ∧ okw P m' v) P (fun k s s' hk hR => ?_) (fun s s' hR => ?_) 0 (below, -1, 0, m) (fl, top, -1, 0, m') (Nat.zero_le _) ⟨-1, rfl, rfl, Or.inl rfl⟩
  · obtain ⟨r, r', q1, q2, v, rfl, rfl, q3⟩ := this
    exact ⟨v, q1, q2, q3⟩
  · obtain ⟨v, rfl, rfl, hv⟩ := hR
    left
    obtain ⟨e1, -⟩ := h2 k hk
    obtain ⟨e4, -⟩ := h3 k hk
    have nk : ¬ nI P ≤ nI k := nI_ge hk (by omega)
    have ck10 : ∀ {T : Type} (K : Option T), ck (nI k) 10 K = K := fun K => ck_in (by omega) (by decide)
    have ck42 : ∀ {T : Type} (K : Option T), ck (nI k) 42 K = K := fun K => ck_in (by omega) (by decide)
    have ik : ix (nI k) = k := ix_n (by omega)
    have hw := wishes_v h0 hk
    unfold f_X3_whoWishesMost_L4 f_X9_mostWishing_L5 f_X9_mostWishing_J38
    simp only [c1, c2, nk, if_false, ck10, ck42, ik, e1, hw, some_bind, bnd, nI_1]
    by_cases w0 : gI m' 98 k ≤ 0
    · refine ⟨_, _, by rw [if_pos w0], by rw [decide_eq_false (fun q => q w0), if_pos (show bi false = 0 from rfl)], v, rfl, rfl, hv⟩
    · have hbk := hb k hk w0
      rw [if_neg w0, decide_eq_true w0, if_neg (show ¬ (bi true = 0) by decide), ← e4]
      by_cases hr : gI m 2 k < below
      · have hr2 := hbk.mp hr
        rw [if_neg (Int32.not_le.mpr hr)]
        have hF : ∀ {T : Type} (A B C : T), (if ¬ fl = 0 then A else if top ≤ gI m 2 k then B else A) = A := fun A B C => by
          by_cases q : fl = 0
          · rw [if_neg (fun z => z q), if_neg (fun z => hr2 ⟨q, z⟩)]
          · rw [if_pos q]
        rw [hF _ _ (some (Sum.inr ((0 : Int32), m')))]
        rcases hv with rfl | ⟨q, hq, rfl, hq2⟩
        · refine ⟨_, _, by rw [if_pos (show (-1 : Int32) < 0 by decide)], by rw [if_pos (show (-1 : Int32) < 0 by decide)], nI k, rfl, rfl, Or.inr ⟨k, hk, rfl, w0⟩⟩
        · have iq : ix (nI q) = q := ix_n (by omega)
          have ckq : ∀ {T : Type} (K : Option T), ck (nI q) 10 K = K := fun K => ck_in (by omega) (by decide)
          obtain ⟨e1q, -⟩ := h2 q hq
          rw [if_neg (nn_lt0 (by omega)), if_neg (nn_lt0 (by omega)), ckq, ckq, iq, e1q]
          by_cases c : gI m' 98 k ≤ gI m' 98 q
          · exact ⟨_, _, by rw [if_pos c], by rw [if_pos c], nI q, rfl, rfl, Or.inr ⟨q, hq, rfl, hq2⟩⟩
          · exact ⟨_, _, by rw [if_neg c], by rw [if_neg c], nI k, rfl, rfl, Or.inr ⟨k, hk, rfl, w0⟩⟩
      · have hr2 : fl = 0 ∧ top ≤ gI m 2 k := Classical.byContradiction fun q => hr (hbk.mpr q)
        rw [if_pos (Int32.not_lt.mp hr), if_neg (fun z => z hr2.1), if_pos hr2.2]
        exact ⟨_, _, rfl, rfl, v, rfl, rfl, hv⟩
  · obtain ⟨v, rfl, rfl, hv⟩ := hR
    unfold f_X3_whoWishesMost_L4 f_X9_mostWishing_L5
    simp only [c1, c2, nI_le (Nat.le_refl P) (show P < 2 ^ 31 by omega), if_true, up_some]
    exact ⟨_, _, rfl, rfl, v, rfl, rfl, hv⟩
theorem most10_v {a P : Nat} {th : Nat → Bool} {m m' : Mem} (h : NX a P th m m') (top : Int32) : ∃ v, f_X3_whoWishesMost a 10 m = some (v, m) ∧ f_X9_mostWishing 1 top m' = some (v, m') ∧ okw P m' v := by
  refine most_v h 10 1 top (fun p hp _ => ?_)
  obtain ⟨-, -, h3, -⟩ := h
  obtain ⟨-, r, hr, er⟩ := h3 p hp
  exact ⟨fun _ q => absurd q.1 (by decide), fun _ => by rw [er]; exact lt_lit (n := 10) rfl (by decide) (by omega)⟩
theorem chief_v {a P : Nat} {th : Nat → Bool} {m m' : Mem} (h : NX a P th m m') : ∃ v, f_X3_chiefLast a m = some (v, m) ∧ f_X9_chiefLast m' = some (v, m') ∧ okw P m' v := by
  have h0 := h
  obtain ⟨⟨c1, c2, hP⟩, h2, h3, -⟩ := h
  have := wh_both (b := f_X3_chiefLast_L4 a) (b' := f_X9_chiefLast_L4) (fun k s s' => ∃ g top, s = (g, nI k, m) ∧ s' = (top, nI k, m') ∧ ((g = 0 ∧ top = -1 ∧ ∀ p, p < k → th p = false) ∨ (g = top ∧ 0 ≤ g))) (fun r r' => ∃ v, r = (v, m) ∧ r' = (v, m') ∧ okw P m' v) P (fun k s s' hk hR => ?_) (fun s s' hR => ?_) 0 (0, 0, m) (-1, 0, m') (Nat.zero_le _) ⟨0, -1, rfl, rfl, Or.inl ⟨rfl, rfl, fun p hp => absurd hp (Nat.not_lt_zero p)⟩⟩
  · obtain ⟨r, r', q1, q2, v, rfl, rfl, q3⟩ := this
    exact ⟨v, q1, q2, q3⟩
  · obtain ⟨g, top, rfl, rfl, hg⟩ := hR
    left
    obtain ⟨-, e1, e2, -⟩ := h2 k hk
    obtain ⟨e4, r, hr, er⟩ := h3 k hk
    have nk : ¬ nI P ≤ nI k := nI_ge hk (by omega)
    have ck10 : ∀ {T : Type} (K : Option T), ck (nI k) 10 K = K := fun K => ck_in (by omega) (by decide)
    have ck42 : ∀ {T : Type} (K : Option T), ck (nI k) 42 K = K := fun K => ck_in (by omega) (by decide)
    have ik : ix (nI k) = k := ix_n (by omega)
    unfold f_X3_chiefLast_L4 f_X9_chiefLast_L4
    simp only [c1, c2, nk, if_false, ck10, ck42, ik, e1, e2, some_bind, bnd, nI_1, ← e4]
    cases ht : th k
    · refine ⟨_, _, by rw [if_pos (show bi false = 0 from rfl)], by rw [if_pos (show bi false = 0 from rfl)], g, top, rfl, rfl, ?_⟩
      rcases hg with ⟨g1, g2, g3⟩ | hg
      · exact Or.inl ⟨g1, g2, fun p hp => by
          by_cases q : p = k
          · rw [q]; exact ht
          · exact g3 p (by omega)⟩
      · exact Or.inr hg
    · rw [if_neg (show ¬ (bi true = 0) by decide), if_neg (show ¬ (bi true = 0) by decide), er]
      rcases hg with ⟨rfl, rfl, g3⟩ | ⟨rfl, g0⟩
      · refine ⟨_, _, rfl, by rw [if_neg (Int32.not_le.mpr (Int32.lt_of_lt_of_le (b := 0) (by decide) (nn_0le (by omega))))], nI r, nI r, ?_, rfl, Or.inr ⟨rfl, nn_0le (by omega)⟩⟩
        unfold mxI
        by_cases q : (0 : Int32) < nI r
        · rw [if_pos q]
        · rw [if_neg q]
          congr 1
          exact Int32.le_antisymm (nn_0le (by omega)) (Int32.not_lt.mp q)
      · unfold mxI
        by_cases q : nI r ≤ g
        · exact ⟨_, _, by rw [if_neg (Int32.not_lt.mpr q)], by rw [if_pos q], g, g, rfl, rfl, Or.inr ⟨rfl, g0⟩⟩
        · exact ⟨_, _, by rw [if_pos (Int32.not_le.mp q)], by rw [if_neg q], nI r, nI r, rfl, rfl, Or.inr ⟨rfl, nn_0le (by omega)⟩⟩
  · obtain ⟨g, top, rfl, rfl, hg⟩ := hR
    unfold f_X3_chiefLast_L4 f_X9_chiefLast_L4
    simp only [c1, c2, nI_le (Nat.le_refl P) (show P < 2 ^ 31 by omega), if_true]
    obtain ⟨v, o1, o2, o3⟩ := most_v h0 g 0 top (fun p hp hw => by
      rcases hg with ⟨rfl, rfl, g3⟩ | ⟨rfl, g0⟩
      · have := (h2 p hp).2.2.2 (g3 p hp)
        exact absurd (by rw [this]; exact Int32.le_refl 0) hw
      · exact ⟨fun q z => absurd z.2 (Int32.not_le.mpr q), fun q => Int32.not_le.mp (fun z => q ⟨rfl, z⟩)⟩)
    obtain ⟨u, x1, x2, x3⟩ := most10_v h0 top
    rw [o1, o2, some_bind, some_bind]
    rcases o3 with rfl | ⟨q, hq, rfl, hq2⟩
    · rw [if_pos (show (-1 : Int32) < 0 by decide), if_neg (show ¬ (0 : Int32) ≤ -1 by decide)]
      simp only [x1, x2, some_bind, up_some]
      exact ⟨_, _, rfl, rfl, u, rfl, rfl, x3⟩
    · rw [if_neg (nn_lt0 (by omega)), if_pos (nn_0le (by omega)), up_some, up_some]
      exact ⟨_, _, rfl, rfl, nI q, rfl, rfl, Or.inr ⟨q, hq, rfl, hq2⟩⟩
theorem turns_v {a P : Nat} {th : Nat → Bool} {m m' : Mem} (h : NX a P th m m') : ∃ v, f_X3_byTurns a m = some (v, m) ∧ f_X9_byTurns m' = some (v, m') ∧ okw P m' v := by
  have h0 := h
  obtain ⟨⟨c1, c2, hP⟩, h2, h3, h4, ⟨h5, h6⟩, -⟩ := h
  obtain ⟨L, hL, a1, a2⟩ : ∃ L, L ≤ P ∧ (∀ i, (gI m a 18 + 1) + nI i = nI (L + i)) ∧ ∀ i, gI m' 85 31 + nI (i + 1) = nI (L + i) := by
    rw [← h5]
    rcases h6 with e | ⟨q, hq, e⟩
    · refine ⟨0, Nat.zero_le _, fun i => ?_, fun i => ?_⟩
      · rw [e, show (-1 : Int32) + 1 = nI 0 by decide, nI_add]
      · rw [e, Int32.add_comm, Nat.zero_add]
        have := nI_pred i
        rw [Int32.sub_eq_add_neg] at this
        exact this
    · refine ⟨q + 1, by omega, fun i => ?_, fun i => ?_⟩
      · rw [e, nI_1, nI_add]
      · rw [e, nI_add]; congr 1; omega
  have := wh_both (b := f_X3_byTurns_L2 a) (b' := f_X9_byTurns_L2) (fun k s s' => s = (nI k, m) ∧ s' = (nI (k + 1), m')) (fun r r' => ∃ v, r = (v, m) ∧ r' = (v, m') ∧ okw P m' v) P (fun k s s' hk hR => ?_) (fun s s' hR => ?_) 0 (0, m) (1, m') (Nat.zero_le _) ⟨rfl, rfl⟩
  · obtain ⟨r, r', q1, q2, v, rfl, rfl, q3⟩ := this
    exact ⟨v, q1, q2, q3⟩
  · obtain ⟨rfl, rfl⟩ := hR
    have nk : ¬ nI P ≤ nI k := nI_ge hk (by omega)
    have nk2 : ¬ nI P < nI (k + 1) := nI_nlt (by omega) (by omega)
    have hdv : ∀ {T : Type} (K : Option T), dv (nI P) K = K := fun K => if_neg (fun q => by have := (eq_nn (b := 0) (by omega) (by decide)).mp q; omega)
    have hx : (L + k) % P < P := Nat.mod_lt _ (by omega)
    have ek : ∀ {T : Type} (K : Option T), ck (nI ((L + k) % P)) 10 K = K := fun K => ck_in (by omega) (by decide)
    have ei : ix (nI ((L + k) % P)) = (L + k) % P := ix_n (by omega)
    obtain ⟨e1, -⟩ := h2 _ hx
    unfold f_X3_byTurns_L2 f_X9_byTurns_L2
    simp only [c1, c2, nk, nk2, if_false, hdv, a1, a2, bnd, nI_mod (show L + k < 2 ^ 31 by omega) (show P < 2 ^ 31 by omega) (show 0 < P by omega), ek, ei, e1, wishes_v h0 hx, some_bind, nI_1]
    by_cases w0 : gI m' 98 ((L + k) % P) ≤ 0
    · left
      exact ⟨_, _, by rw [if_pos w0], by rw [decide_eq_false (fun q => q w0), if_pos (show bi false = 0 from rfl)], rfl, rfl⟩
    · right
      exact ⟨_, _, by rw [if_neg w0, up_some], by rw [decide_eq_true w0, if_neg (show ¬ (bi true = 0) by decide), up_some], _, rfl, rfl, Or.inr ⟨_, hx, rfl, w0⟩⟩
  · obtain ⟨rfl, rfl⟩ := hR
    unfold f_X3_byTurns_L2 f_X9_byTurns_L2
    simp only [c1, c2, nI_le (Nat.le_refl P) (show P < 2 ^ 31 by omega), nI_lt (Nat.lt_succ_self P) (show P + 1 < 2 ^ 31 by omega), if_true, up_some]
    exact ⟨_, _, rfl, rfl, -1, rfl, rfl, Or.inl rfl⟩
theorem least_v {a P : Nat} {th : Nat → Bool} {m m' : Mem} (h : NX a P th m m') : ∃ v, f_X3_whoSpokeLeast a m = some (v, m) ∧ f_X9_leastSpoken m' = some (v, m') ∧ okw P m' v := by
  have h0 := h
  obtain ⟨⟨c1, c2, hP⟩, h2, h3, h4, -⟩ := h
  have := wh_both (b := f_X3_whoSpokeLeast_L4 a) (b' := f_X9_leastSpoken_L4) (fun k s s' => ∃ v, s = (v, nI k, m) ∧ s' = (v, nI k, m') ∧ okw P m' v) (fun r r' => ∃ v, r = (v, m) ∧ r' = (v, m') ∧ okw P m' v) P (fun k s s' hk hR => ?_) (fun s s' hR => ?_) 0 (-1, 0, m) (-1, 0, m') (Nat.zero_le _) ⟨-1, rfl, rfl, Or.inl rfl⟩
  · obtain ⟨r, r', q1, q2, v, rfl, rfl, q3⟩ := this
    exact ⟨v, q1, q2, q3⟩
  · obtain ⟨v, rfl, rfl, hv⟩ := hR
    left
    obtain ⟨e1, -⟩ := h2 k hk
    have e4 := h4 k hk
    have nk : ¬ nI P ≤ nI k := nI_ge hk (by omega)
    have ck10 : ∀ {T : Type} (K : Option T), ck (nI k) 10 K = K := fun K => ck_in (by omega) (by decide)
    have ik : ix (nI k) = k := ix_n (by omega)
    have hw := wishes_v h0 hk
    have t1 : ¬ (bi true = 0) := by decide
    have t0 : bi false = 0 := rfl
    unfold f_X3_whoSpokeLeast_L4 f_X9_leastSpoken_L4 f_X9_leastSpoken_J35 f_X9_leastSpoken_J36
    simp only [c1, c2, nk, if_false, ck10, ik, e1, e4, hw, some_bind, bnd, nI_1]
    by_cases w0 : gI m' 98 k ≤ 0
    · rw [if_pos w0, decide_eq_false (fun q => q w0)]
      simp only [t0, if_true]
      refine ⟨_, _, rfl, ?_, v, rfl, rfl, hv⟩
      rcases hv with rfl | ⟨q, hq, rfl, hq2⟩
      · rfl
      · have ckq : ∀ {T : Type} (K : Option T), ck (nI q) 10 K = K := fun K => ck_in (by omega) (by decide)
        simp only [ckq]
        split
        · rfl
        · split <;> rfl
    · rw [if_neg w0, decide_eq_true w0]
      simp only [t1, if_false]
      rcases hv with rfl | ⟨q, hq, rfl, hq2⟩
      · exact ⟨_, _, rfl, rfl, nI k, rfl, rfl, Or.inr ⟨k, hk, rfl, w0⟩⟩
      · have iq : ix (nI q) = q := ix_n (by omega)
        have ckq : ∀ {T : Type} (K : Option T), ck (nI q) 10 K = K := fun K => ck_in (by omega) (by decide)
        obtain ⟨e1q, -⟩ := h2 q hq
        have e4q := h4 q hq
        simp only [nn_lt0 (show q < 2 ^ 31 by omega), if_false, ckq, iq, e1q, e4q]
        have n10 : ¬ ((1 : Int32) = 0) := by decide
        by_cases x1 : gI m' 97 k < gI m' 97 q
        · have x2 : ¬ gI m' 97 k = gI m' 97 q := fun z => by rw [z] at x1; exact Int32.lt_irrefl x1
          simp only [x1, x2, if_true, not_false_eq_true]
          exact ⟨_, _, rfl, rfl, nI k, rfl, rfl, Or.inr ⟨k, hk, rfl, w0⟩⟩
        · by_cases x2 : gI m' 97 k = gI m' 97 q
          · simp only [x1, x2, if_true, if_false, not_true_eq_false, n10, Int32.lt_irrefl]
            by_cases x3 : gI m' 98 k ≤ gI m' 98 q
            · simp only [x3, if_true]
              exact ⟨_, _, rfl, rfl, nI q, rfl, rfl, Or.inr ⟨q, hq, rfl, hq2⟩⟩
            · simp only [x3, if_false]
              exact ⟨_, _, rfl, rfl, nI k, rfl, rfl, Or.inr ⟨k, hk, rfl, w0⟩⟩
          · simp only [x1, x2, if_true, if_false, not_false_eq_true]
            exact ⟨_, _, rfl, rfl, nI q, rfl, rfl, Or.inr ⟨q, hq, rfl, hq2⟩⟩
  · obtain ⟨v, rfl, rfl, hv⟩ := hR
    unfold f_X3_whoSpokeLeast_L4 f_X9_leastSpoken_L4
    simp only [c1, c2, nI_le (Nat.le_refl P) (show P < 2 ^ 31 by omega), if_true, up_some]
    exact ⟨_, _, rfl, rfl, v, rfl, rfl, hv⟩
theorem next_v {a P : Nat} {th : Nat → Bool} {m m' : Mem} (h : NX a P th m m') : ∃ v, f_X3_nextSpeaker a m = some (v, m) ∧ f_X9_nextSpeaker m' = some (v, m') ∧ okw P m' v := by
  have h0 := h
  obtain ⟨⟨c1, c2, hP⟩, h2, h3, h4, ⟨h5, h6⟩, h7⟩ := h
  obtain ⟨v1, a1, b1, d1⟩ := turns_v h0
  obtain ⟨v2, a2, b2, d2⟩ := least_v h0
  obtain ⟨v4, a4, b4, d4⟩ := chief_v h0
  obtain ⟨v0, a0, b0, d0⟩ := most10_v h0 0
  unfold f_X3_nextSpeaker f_X9_nextSpeaker
  rw [h7]
  generalize gI m' 85 26 = x
  unfold sw sw sw sw sw
  simp only [a0, b0, a1, b1, a2, b2, a4, b4, some_bind]
  by_cases x1 : x = 1
  · simp only [x1, if_true]; exact ⟨v1, rfl, rfl, d1⟩
  · by_cases x2 : x = 2
    · simp only [x1, x2, if_true, if_false, show ¬ ((2 : Int32) = 1) by decide]; exact ⟨v2, rfl, rfl, d2⟩
    · by_cases x3 : x = 3
      · simp only [x3, if_true, if_false, show ¬ ((3 : Int32) = 1) by decide, show ¬ ((3 : Int32) = 2) by decide]
        rw [← h5]
        rcases h6 with e | ⟨q, hq, e⟩
        · rw [e]; exact ⟨v1, rfl, rfl, d1⟩
        · rw [e, if_neg (nn_lt0 (by omega)), if_neg (nn_lt0 (by omega)), ck_in (by omega) (by decide), ix_n (by omega), (h2 q hq).1, wishes_v h0 hq, some_bind]
          by_cases w0 : gI m' 98 q ≤ 0
          · rw [if_pos w0, decide_eq_false (fun z => z w0), if_pos (show bi false = 0 from rfl)]
            simp only [b1, some_bind]
            exact ⟨v1, rfl, rfl, d1⟩
          · rw [if_neg w0, decide_eq_true w0, if_neg (show ¬ (bi true = 0) by decide)]
            refine ⟨nI q, rfl, ?_, Or.inr ⟨q, hq, rfl, w0⟩⟩
            rw [← h5, e]
      · by_cases x4 : x = 4
        · simp only [x4, if_true, if_false, show ¬ ((4 : Int32) = 1) by decide, show ¬ ((4 : Int32) = 2) by decide, show ¬ ((4 : Int32) = 3) by decide]; exact ⟨v4, rfl, rfl, d4⟩
        · simp only [x1, x2, x3, x4, if_false]; exact ⟨v0, rfl, rfl, d0⟩
