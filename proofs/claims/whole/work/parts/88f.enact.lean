/-! THE LAW'S TEXT: the class's lines -/
def CE (L : Nat) (τ : Nat → Nat) (m : Mem) (r d : Nat) : Prop := TP L τ m ∧ gI m 14 7 = nI r ∧ gI m 14 8 = -1 ∧ gI m 14 6 = nI d ∧ d ≤ r + 1 ∧ r ≤ L
def CL (L : Nat) (τ : Nat → Nat) (m n : Mem) (dl : Nat) (R : Nat ⊕ (Nat × List Nat)) : Prop := match R with
  | .inl e => CF L τ 126 n e
  | .inr (r, c) => CE L τ n r (dl + c.length) ∧ (∀ i, i < c.length → gI n (cD m.2.2) (dl + i) = nI (c.getD i 0)) ∧ ∀ i, i < dl → gI n (cD m.2.2) i = gI m (cD m.2.2) i
def lnA (R : Nat ⊕ (Nat × List Nat × Val × Val)) : Nat ⊕ (Nat × List Nat) := match R with
  | .inl e => .inl e
  | .inr (r, c, _, _) => .inr (r, c)
def txA (R : PR) : Nat ⊕ (Nat × List Nat) := match R with
  | .inl e => .inl e
  | .inr (r, c, _) => .inr (r, c)
/-- the line's last sign -/
theorem emit_l {L dl q : Nat} {τ : Nat → Nat} {m0 m : Mem} {c : List Nat} (hL : L ≤ 120) (h0 : m.2.2 = m0.2.2) (h : CS L τ m q (dl + c.length)) (hc : ∀ i, i < c.length → gI m (cD m0.2.2) (dl + i) = nI (c.getD i 0)) (hb : ∀ i, i < dl → gI m (cD m0.2.2) i = gI m0 (cD m0.2.2) i) (x : Nat) : ∃ n, f_X2_emit (nI x) m = some n ∧ CK m n ∧ CE L τ n q (dl + (c ++ [x]).length) ∧ (∀ i, i < (c ++ [x]).length → gI n (cD m0.2.2) (dl + i) = nI ((c ++ [x]).getD i 0)) ∧ ∀ i, i < dl → gI n (cD m0.2.2) i = gI m0 (cD m0.2.2) i := by
  obtain ⟨hT, h7, h8, h6, h9, h10⟩ := h
  obtain ⟨n, o1, o2, o3, o4, o5, o6, o7, o8⟩ := emit_v hT h6 (by omega) (nI x)
  rw [h0] at o7 o8
  have hl : (c ++ [x]).length = c.length + 1 := List.length_append
  refine ⟨n, o1, o2, ⟨o3, o5.trans h7, o6.trans h8, by rw [hl]; exact o4, by rw [hl]; omega, h10⟩, fun i hi => ?_, fun i hi => by rw [o8 i (by omega), hb i hi]⟩
  rw [hl] at hi
  rw [getD_app]
  by_cases e : i < c.length
  · rw [if_pos e, o8 _ (by omega), hc i e]
  · have : i = c.length := by omega
    subst this
    rw [if_neg e, Nat.sub_self, o7]
    rfl
theorem readLine_C {L : Nat} {τ : Nat → Nat} (hL : L ≤ 120) (hτ : ∀ i, i < L → τ i ≤ 255) {m : Mem} {pos dl : Nat} (h : CS L τ m pos dl) : ∃ n, f_X2_readLine m = some n ∧ CK m n ∧ CL L τ m n dl (lnA (lnR (opR (bet L τ) 6) (bet L τ) pos)) := by
  have hG := op_G (L := L) (τ := τ) 6
  have hE := either_C hL hτ (show 120 ≤ 126 by decide) (by decide) (opd_C hL hτ 6 (by decide) 8 (by decide)) hG
  have hEG := ei_G (τ := τ) hG
  have hg1 := hEG pos (by have := h.2.2.2.2.2; omega)
  have hD14 := (cD_v m.2.2).2.1
  obtain ⟨n1, a1, a2, a3⟩ := hE m pos dl h
  unfold f_X2_readLine lnR
  have a1' : f_X2_readEither (f_X2_readOpened 8) 0 m = some n1 := a1
  rw [a1', some_bind]
  cases hR : eiR (opR (bet L τ) 6) (bet L τ) pos with
  | inl e =>
    rw [hR] at a3
    have a3' : CF L τ 126 n1 e := a3
    obtain ⟨n2, b1, b2, b3⟩ := emit_f a3' 20059
    rw [if_pos (CF_t hL a3'), b1]
    exact ⟨n2, rfl, a2.tr b2, b3⟩
  | inr z =>
    obtain ⟨r, c, v⟩ := z
    rw [hR] at a3 hg1
    obtain ⟨c1, c2, c3⟩ := a3
    obtain ⟨g1, g2, g3, g4⟩ := hg1
    have hn := next_t hL c1.1 c1.2.1 (by omega)
    rw [if_neg (CS_f c1), hn, some_bind]
    show ∃ n, (if ¬ nx L τ r = (63 : Int32) then (f_X2_emit (20059 : Int32) n1).bind (fun q4 => some q4) else bnd (sI n1 14 7 ((gI n1 14 7) + (1 : Int32))) (fun m5 => (f_X2_emit (20063 : Int32) m5).bind (fun q6 => (f_X2_readEither (f_X2_readOpened 8) (0 : Int32) q6).bind (fun q7 => (f_X2_emit (20059 : Int32) q7).bind (fun q8 => some q8))))) = some n ∧ CK m n ∧ CL L τ m n dl (lnA (if bet L τ r = 63 then _ else _))
    by_cases q : bet L τ r = 63
    · rw [if_neg (fun z => z (nx_t hτ (c := 63) (by decide) (by decide) rfl q)), if_pos q]
      have hq := bet_lt (show bet L τ r ≠ 0 by omega)
      obtain ⟨cT, c7, c8, c6, c9, c10⟩ := c1
      have hs : CS L τ (sI n1 14 7 (nI (r + 1))) (r + 1) (dl + c.length) := ⟨TP_14 cT (by decide) _, g_hit _ _ _ _, by rw [g_off _ _ (by decide), c8], by rw [g_off _ _ (by decide), c6], by omega, by omega⟩
      obtain ⟨n2, d1, d2, d3, d4, d5⟩ := emit_c (pos0 := 0) (m0 := m) (dl := dl) (c := c) hL (show (sI n1 14 7 (nI (r + 1))).2.2 = m.2.2 from a2.1) hs (fun i hi => by rw [g_far _ _ hD14]; exact c2 i hi) (fun i hi => by rw [g_far _ _ hD14]; exact c3 i hi) (by omega) 20063 rfl
      have k2 : CK m n2 := a2.tr ((CK_14 (Or.inr (Or.inl rfl)) _).tr d2)
      have hg2 := hEG (r + 1) (by omega)
      obtain ⟨n3, e1, e2, e3⟩ := hE n2 (r + 1) _ d3
      have e1' : f_X2_readEither (f_X2_readOpened 8) 0 n2 = some n3 := e1
      have go : ∀ n, f_X2_emit 20059 n3 = some n → (bnd (sI n1 14 7 ((gI n1 14 7) + (1 : Int32))) (fun m5 => (f_X2_emit (20063 : Int32) m5).bind (fun q6 => (f_X2_readEither (f_X2_readOpened 8) (0 : Int32) q6).bind (fun q7 => (f_X2_emit (20059 : Int32) q7).bind (fun q8 => some q8))))) = some n := fun n hn => by
        rw [c7, nI_1]
        refine bn (bs d1 (bs e1' ?_))
        rw [hn]; rfl
      cases hR2 : eiR (opR (bet L τ) 6) (bet L τ) (r + 1) with
      | inl e =>
        rw [hR2] at e3
        obtain ⟨n4, b1, b2, b3⟩ := emit_f (show CF L τ 126 n3 e from e3) 20059
        exact ⟨n4, go n4 b1, k2.tr (e2.tr b2), b3⟩
      | inr z =>
        obtain ⟨r', d, w⟩ := z
        rw [hR2] at e3 hg2
        obtain ⟨e4, e5, e6⟩ := e3
        obtain ⟨k1, k2', k3, k4⟩ := hg2
        rw [show cD n2.2.2 = cD m.2.2 by rw [k2.1]] at e5 e6
        have hl : ((c ++ [20063]) ++ d).length = (c ++ [20063]).length + d.length := List.length_append
        obtain ⟨n4, b1, b2, b3, b4, b5⟩ := emit_l (m0 := m) (dl := dl) (c := (c ++ [20063]) ++ d) hL (e2.1.trans k2.1) (by rw [hl, ← Nat.add_assoc]; exact e4) (fun i hi => by
          rw [hl] at hi
          rw [getD_app]
          by_cases e : i < (c ++ [20063]).length
          · rw [if_pos e, e6 _ (by omega), d4 i e]
          · rw [if_neg e]
            have := e5 (i - (c ++ [20063]).length) (by omega)
            rw [show dl + (c ++ ([20063] : List Nat)).length + (i - (c ++ ([20063] : List Nat)).length) = dl + i by omega] at this
            exact this) (fun i hi => by rw [e6 _ (by omega), d5 i hi]) 20059
        exact ⟨n4, go n4 b1, k2.tr (e2.tr b2), b3, b4, b5⟩
    · rw [if_pos (nx_f hτ (c := 63) (C := (63 : Int32)) (by decide) (by decide) rfl q), if_neg q]
      obtain ⟨n4, b1, b2, b3, b4, b5⟩ := emit_l (m0 := m) (dl := dl) (c := c) hL a2.1 c1 c2 c3 20059
      refine ⟨n4, ?_, a2.tr b2, b3, b4, b5⟩
      rw [show f_X2_emit 20059 n1 = some n4 from b1]; rfl
theorem lines_C {L : Nat} {τ : Nat → Nat} (hL : L ≤ 120) (hτ : ∀ i, i < L → τ i ≤ 255) : ∀ f i m pos dl, CS L τ m pos dl → L + 1 ≤ pos + f → i ≤ pos → ∃ n, (f_X2_readLine m).bind (fun q => wh f_X2_enact_L21 (nI i, q)) = f_X2_enact_J63 n ∧ CK m n ∧ CL L τ m n dl (txA (txR (opR (bet L τ) 6) (bet L τ) f pos))
  | 0, i, m, pos, dl, h, h1, h2 => by have := h.2.2.2.2.2; omega
  | f + 1, i, m, pos, dl, h, h1, h2 => by
    have hpos := h.2.2.2.2.2
    have hg := ln_G (τ := τ) (op_G (L := L) (τ := τ) 6) hpos
    obtain ⟨n1, a1, a2, a3⟩ := readLine_C hL hτ h
    rw [a1, some_bind]
    unfold txR
    cases hR : lnR (opR (bet L τ) 6) (bet L τ) pos with
    | inl e =>
      rw [hR] at a3
      have a3' : CF L τ 126 n1 e := a3
      refine ⟨n1, wh_up ?_, a2, a3'⟩
      unfold f_X2_enact_L21
      dsimp only
      rw [if_pos (CF_t hL a3')]
      split <;> rfl
    | inr z =>
      obtain ⟨r, c, g, w⟩ := z
      rw [hR] at a3 hg
      obtain ⟨⟨cT, c7, c8, c6, c9, c10⟩, c2, c3⟩ := (show CE L τ n1 r (dl + c.length) ∧ _ ∧ _ from a3)
      obtain ⟨g1, g2, g3, g4⟩ := hg
      have hn := next_t hL cT c7 (by omega)
      have i1 : ¬ (120 : Int32) ≤ nI i := nI_ge (b := 120) (by omega) (by decide)
      have i2 : ¬ (0 : Int32) ≤ gI n1 14 8 := by rw [c8]; decide
      show ∃ n, _ ∧ CK m n ∧ CL L τ m n dl (txA (if bet L τ r = 59 then _ else _))
      by_cases q : bet L τ r = 59
      · rw [if_pos q]
        have hq := bet_lt (show bet L τ r ≠ 0 by omega)
        have hD14 := (cD_v m.2.2).2.1
        have hs : CS L τ (sI n1 14 7 (nI (r + 1))) (r + 1) (dl + c.length) := ⟨TP_14 cT (by decide) _, g_hit _ _ _ _, by rw [g_off _ _ (by decide), c8], by rw [g_off _ _ (by decide), c6], by omega, by omega⟩
        obtain ⟨n, o1, o2, o3⟩ := lines_C hL hτ f (i + 1) _ (r + 1) _ hs (by omega) (by omega)
        have ef : (sI n1 14 7 (nI (r + 1))).2.2 = m.2.2 := a2.1
        refine ⟨n, ?_, a2.tr ((CK_14 (Or.inr (Or.inl rfl)) _).tr o2), ?_⟩
        · have hb : f_X2_enact_L21 (nI i, n1) = (f_X2_readLine (sI n1 14 7 (nI (r + 1)))).bind (fun q11 => some (Sum.inl (nI (i + 1), q11))) := by
            unfold f_X2_enact_L21
            dsimp only
            rw [if_neg i1, if_neg i2]
            refine bs hn ?_
            dsimp only
            rw [if_neg (fun z => z (nx_t hτ (c := 59) (by decide) (by decide) rfl q)), c7, nI_1]
            refine bn ?_
            rw [nI_1]
            rfl
          cases hx : f_X2_readLine (sI n1 14 7 (nI (r + 1))) with
          | none =>
            obtain ⟨n9, z1, -⟩ := readLine_C hL hτ hs
            rw [z1] at hx; cases hx
          | some n9 =>
            rw [hx, some_bind] at hb
            rw [hx, some_bind] at o1
            exact (wh_inl hb).trans o1
        · cases hR2 : txR (opR (bet L τ) 6) (bet L τ) f (r + 1) with
          | inl e => rw [hR2] at o3; exact o3
          | inr z =>
            obtain ⟨r', d, u⟩ := z
            rw [hR2] at o3
            obtain ⟨p1, p2, p3⟩ := (show CE L τ n r' (dl + c.length + d.length) ∧ _ ∧ _ from o3)
            rw [show cD (sI n1 14 7 (nI (r + 1))).2.2 = cD m.2.2 by rw [ef]] at p2 p3
            have hl : (c ++ d).length = c.length + d.length := List.length_append
            refine ⟨by rw [hl, ← Nat.add_assoc]; exact p1, fun j hj => ?_, fun j hj => by rw [p3 j (by omega), g_far _ _ hD14, c3 j hj]⟩
            rw [hl] at hj
            rw [getD_app]
            by_cases e : j < c.length
            · rw [if_pos e, p3 _ (by omega), g_far _ _ hD14, c2 j e]
            · rw [if_neg e]
              have := p2 (j - c.length) (by omega)
              rw [show dl + c.length + (j - c.length) = dl + j by omega] at this
              exact this
      · rw [if_neg q]
        refine ⟨n1, wh_up ?_, a2, ⟨cT, c7, c8, c6, c9, c10⟩, c2, c3⟩
        unfold f_X2_enact_L21
        dsimp only
        rw [if_neg i1, if_neg i2]
        refine bs hn ?_
        dsimp only
        rw [if_pos (nx_f hτ (c := 59) (C := (59 : Int32)) (by decide) (by decide) rfl q)]
/-- what enacting gives -/
def EN (L : Nat) (R : PR) : Nat ⊕ (List Nat × Val) := match R with
  | .inl e => .inl e
  | .inr (r, c, v) => if r < L then .inl r else .inr (c, v)
theorem enact_C {L : Nat} {τ : Nat → Nat} (hL : L ≤ 120) (hτ : ∀ i, i < L → τ i ≤ 255) {m : Mem} (h : TP L τ m) : ∃ v n, f_X2_enact m = some (v, n) ∧ (∀ c i, c ≠ 14 → c ≠ 17 → c ≠ 18 → gI n c i = gI m c i) ∧ gI n 14 2 = 0 ∧ (∀ i, i ≠ 2 → i ≠ 5 → i ≠ 6 → i ≠ 7 → i ≠ 8 → gI n 14 i = gI m 14 i) ∧ match EN L (txR (opR (bet L τ) 6) (bet L τ) (L + 1) 0) with
    | .inl e => v = nI e ∧ e ≤ L ∧ gI n 14 5 = gI m 14 5 ∧ n.2.2 = m.2.2 ∧ ∀ i, gI n (cC m.2.2) i = gI m (cC m.2.2) i
    | .inr (c, _) => v = -1 ∧ gI n 14 5 = nI c.length ∧ 0 < c.length ∧ c.length ≤ 128 ∧ ∀ i, i < c.length → gI n (cC n.2.2) i = nI (c.getD i 0) := by
  have hs : CS L τ (sI (sI (sI m 14 7 0) 14 8 (-1)) 14 6 0) 0 0 := ⟨TP_14 (TP_14 (TP_14 h (by decide) _) (by decide) _) (by decide) _, by rw [g_off _ _ (by decide), g_off _ _ (by decide), g_hit]; rfl, by rw [g_off _ _ (by decide), g_hit], by rw [g_hit]; rfl, Nat.le_refl 0, Nat.zero_le _⟩
  obtain ⟨n, o1, o2, o3⟩ := lines_C hL hτ (L + 1) 0 _ 0 0 hs (by omega) (Nat.le_refl 0)
  have ck : CK m n := (CK_14 (Or.inr (Or.inl rfl)) _).tr ((CK_14 (Or.inr (Or.inr rfl)) _).tr ((CK_14 (Or.inl rfl) _).tr o2))
  have hg := tx_G (τ := τ) (op_G (L := L) (τ := τ) 6) (L + 1) 0 (Nat.zero_le L)
  have ho : f_X2_enact m = f_X2_enact_J63 n := by
    unfold f_X2_enact
    exact bn (bn (bn o1))
  have hD : cD m.2.2 = 17 ∨ cD m.2.2 = 18 := (cD_v m.2.2).1
  have hDC : cD m.2.2 ≠ cC m.2.2 := by cases m.2.2 <;> decide
  have hCC : cC (!m.2.2) = cD m.2.2 := by cases m.2.2 <;> decide
  have hC14 : cC m.2.2 ≠ 14 := (cC_ne _).2
  have e2 : (sI (sI (sI m 14 7 0) 14 8 (-1)) 14 6 0).2.2 = m.2.2 := rfl
  -- the end with a fault
  have bad : ∀ (e : Nat) (q : Mem), e ≤ L → gI q 14 8 = nI e → f_X2_enact_J78 q = some (nI e, sI q 14 2 0) := fun e q he hq => by
    unfold f_X2_enact_J78
    refine bn ?_
    rw [g_off _ _ (by decide), hq, if_pos (nn_0le (by omega))]
  have fo : ∀ c i, c ≠ 14 → c ≠ 17 → c ≠ 18 → gI n c i = gI m c i := fun c i h1 h2 h3 => ck.2.1 c i (by omega) h1
  cases hR : txR (opR (bet L τ) 6) (bet L τ) (L + 1) 0 with
  | inl e =>
    rw [hR] at o3 hg
    obtain ⟨fT, f8, fe, ⟨p, hp, f7⟩, d, hd, f6⟩ := (show CF L τ 126 n e from o3)
    refine ⟨nI e, sI n 14 2 0, ?_, fun c i h1 h2 h3 => by rw [g_far _ _ h1]; exact fo c i h1 h2 h3, g_hit _ _ _ _, fun i h1 h2 h3 h4 h5 => by rw [g_off _ _ h1]; exact ck.2.2 i h3 h4 h5, rfl, fe, by rw [g_off _ _ (by decide)]; exact ck.2.2 5 (by decide) (by decide) (by decide), ck.1, fun i => by rw [g_far _ _ hC14]; exact ck.2.1 _ i (fun z => hDC z.symm) hC14⟩
    rw [ho]
    unfold f_X2_enact_J63
    have hrf : f_X2_refuse n = some n := by
      unfold f_X2_refuse
      rw [f8, if_pos (nn_0le (by omega))]
    rw [hrf, some_bind, bad e n fe f8]
    split <;> rfl
  | inr z =>
    obtain ⟨r, c, v⟩ := z
    rw [hR] at o3 hg
    obtain ⟨⟨cT, c7, c8, c6, c9, c10⟩, c2, c3⟩ := (show CE L τ n r (0 + c.length) ∧ _ ∧ _ from o3)
    obtain ⟨g1, g2, g3, g4⟩ := hg
    rw [Nat.zero_add] at c6
    show ∃ v' n', _ ∧ _ ∧ _ ∧ _ ∧ match (if r < L then Sum.inl r else Sum.inr (c, v)) with | .inl e => _ | .inr (c, _) => _
    by_cases q : r < L
    · rw [if_pos q]
      refine ⟨nI r, sI (sI n 14 8 (nI r)) 14 2 0, ?_, fun c i h1 h2 h3 => by rw [g_far _ _ h1, g_far _ _ h1]; exact fo c i h1 h2 h3, g_hit _ _ _ _, fun i h1 h2 h3 h4 h5 => by rw [g_off _ _ h1, g_off _ _ h5]; exact ck.2.2 i h3 h4 h5, rfl, g3, by rw [g_off _ _ (by decide), g_off _ _ (by decide)]; exact ck.2.2 5 (by decide) (by decide) (by decide), ck.1, fun i => by rw [g_far _ _ hC14, g_far _ _ hC14]; exact ck.2.1 _ i (fun z => hDC z.symm) hC14⟩
      rw [ho]
      unfold f_X2_enact_J63
      have hrf : f_X2_refuse n = some (sI n 14 8 (nI r)) := by
        unfold f_X2_refuse
        rw [c8, if_neg (show ¬ (0 : Int32) ≤ -1 by decide), c7]
        rfl
      rw [cT.1, c7, if_neg (nI_ge q (by omega)), hrf, some_bind]
      exact bad r _ g3 (g_hit _ _ _ _)
    · rw [if_neg q]
      have e0 : (sB (sI n 14 2 0)).2.2 = !m.2.2 := by show (!n.2.2) = _; rw [ck.1]
      have gB : ∀ (x : Mem) c i, gI (sB x) c i = gI x c i := fun _ _ _ => rfl
      refine ⟨-1, sI (sB (sI n 14 2 0)) 14 5 (nI c.length), ?_, fun c i h1 h2 h3 => by rw [g_far _ _ h1, gB, g_far _ _ h1]; exact fo c i h1 h2 h3, by rw [g_off _ _ (by decide), gB, g_hit], fun i h1 h2 h3 h4 h5 => by rw [g_off _ _ h2, gB, g_off _ _ h1]; exact ck.2.2 i h3 h4 h5, rfl, g_hit _ _ _ _, g2, by omega, fun i hi => ?_⟩
      · rw [ho]
        unfold f_X2_enact_J63
        rw [cT.1, c7, if_pos (nI_le (by omega) (by omega))]
        unfold f_X2_enact_J78
        refine bn ?_
        rw [g_off _ _ (by decide), c8, if_neg (show ¬ (0 : Int32) ≤ -1 by decide)]
        refine bn (bn ?_)
        rw [g_off _ _ (by decide), gB, gB, g_off _ _ (by decide), g_off _ _ (by decide), c8, c6]
      · have := c2 i hi
        rw [Nat.zero_add] at this
        show gI (sI (sB (sI n 14 2 0)) 14 5 (nI c.length)) (cC (!n.2.2)) i = _
        rw [ck.1, hCC, g_far _ _ (cD_v _).2.1, gB, g_far _ _ (cD_v _).2.1]
        exact this
