/-! THE LAW'S TEXT: operands, at any depth -/
theorem either_C {L B : Nat} {τ : Nat → Nat} (hL : L ≤ 120) (hτ : ∀ i, i < L → τ i ≤ 255) (hB : 120 ≤ B) (hB2 : B ≤ 1000) {one : Nat → PR} {rc : Int32 → Int32 → Mem → Option Mem} {p1 : Int32} (hs : CSp L τ B (f_X2_readOperand rc p1) one) (hG : GP L one) : CSp L τ B (f_X2_readEither rc p1) (eiR one (bet L τ)) := by
  have g1 : GP L (prR one (bet L τ)) := lv_G hG (fun _ => opP_O) 120
  have g2 : GP L (suR one (bet L τ)) := lv_G g1 (fun _ => opS_O) 120
  have g3 : GP L (coR one (bet L τ)) := lv_G g2 (fun _ => opC_O) 1
  have g4 : GP L (boR one (bet L τ)) := lv_G g3 (fun _ => opB_O) 120
  exact readEither_C hL hτ hB (readBoth_C hL hτ hB (readCompared_C hL hτ hB hB2 (readSum_C hL hτ hB (readProduct_C hL hτ hB hs hG) g1) g2) g3) g4
theorem nm_all : ∀ x, x < 256 → nmIx (((nI x).toUInt32 % 65536).toInt32) = match nmP x with | some j => nI j | none => -1 := by decide +kernel
/-- the class's name of a byte -/
def nmC (x : Nat) : Int32 := match nmP x with | some j => nI j | none => -1
theorem operand_s {L q : Nat} {τ : Nat → Nat} (hL : L ≤ 120) (hτ : ∀ i, i < L → τ i ≤ 255) {rc : Int32 → Int32 → Mem → Option Mem} {p1 : Int32} {m : Mem} {dl : Nat} (h : CS L τ m q dl) : f_X2_readOperand rc p1 m = f_X2_readOperand_J20 rc p1 (nx L τ q) (nmC (bet L τ q)) m := by
  have hn := next_t hL h.1 h.2.1 (by have := h.2.2.2.2.2; omega)
  unfold f_X2_readOperand
  refine bs hn ?_
  dsimp only
  unfold nx bet nmC
  by_cases c : q < L
  · rw [if_pos c, if_pos c, if_pos (nn_0le (by have := hτ q c; omega)), nm_all (τ q) (by have := hτ q c; omega)]
  · rw [if_neg c, if_neg c, if_neg (show ¬ (0 : Int32) ≤ -1 by decide)]
    rfl
theorem lf_C {L B q dl : Nat} {τ : Nat → Nat} (hL : L ≤ 120) (hτ : ∀ i, i < L → τ i ≤ 255) {rc : Int32 → Int32 → Mem → Option Mem} {p1 : Int32} {m : Mem} {els : PR} (h : CS L τ m q dl) (E : Option Mem)
    (hE : f_X2_readOperand_J20 rc p1 (nx L τ q) (nmC (bet L τ q)) m = if decide (48 ≤ bet L τ q ∧ bet L τ q ≤ 57) = true then f_X2_readNumber m else (match nmP (bet L τ q) with | some j => f_X2_emit (nI (10000 + j)) (sI m 14 7 (nI (q + 1))) | none => E))
    (hels : nmP (bet L τ q) = none → ∃ n, E = some n ∧ CK m n ∧ CR L τ B m n dl els) : ∃ n, f_X2_readOperand rc p1 m = some n ∧ CK m n ∧ CR L τ B m n dl (lfR (bet L τ) q els) := by
  rw [operand_s hL hτ h, hE]
  unfold lfR
  have h' := h
  obtain ⟨hT, h7, h8, h6, h9, h10⟩ := h
  by_cases c : 48 ≤ bet L τ q ∧ bet L τ q ≤ 57
  · rw [decide_eq_true c, if_pos rfl, if_pos c]
    obtain ⟨g1, g2, g3⟩ := nu_1 c
    obtain ⟨n1, o1, o2, o3, o4⟩ := number_v hL hτ 4 0 q 0 m rfl h' (by decide)
    obtain ⟨n2, d1, d2, d3, d4, d5⟩ := emit_c (pos0 := 0) (m0 := m) (dl := dl) (c := []) hL o2.1 o1 (fun i hi => absurd hi (Nat.not_lt_zero i)) (fun i hi => o3 i) (by show dl + 0 + 1 ≤ _; omega) (nuR (bet L τ) 4 q 0).2 rfl
    exact ⟨n2, o4.trans d1, o2.tr d2, d3, d4, d5⟩
  · rw [decide_eq_false c, if_neg (by decide), if_neg c]
    cases hn : nmP (bet L τ q) with
    | none => exact hels hn
    | some j =>
      obtain ⟨g1, g2, g3⟩ := nm_lt hn
      have hq := bet_lt g2
      obtain ⟨n2, d1, d2, d3, d4, d5⟩ := emit_c (pos0 := 0) (m0 := m) (m := sI m 14 7 (nI (q + 1))) (q := q + 1) (dl := dl) (c := []) hL rfl ⟨TP_14 hT (by decide) _, g_hit _ _ _ _, by rw [g_off _ _ (by decide), h8], by rw [g_off _ _ (by decide)]; exact h6, by show dl + 0 ≤ q + 1; omega, by omega⟩ (fun i hi => absurd hi (Nat.not_lt_zero i)) (fun i hi => g_far _ _ (cD_v m.2.2).2.1) (by show dl + 0 + 1 ≤ _; omega) (10000 + j) rfl
      exact ⟨n2, d1, (CK_14 (Or.inr (Or.inl rfl)) _).tr d2, d3, d4, d5⟩
theorem J20_s {L q : Nat} {τ : Nat → Nat} (hτ : ∀ i, i < L → τ i ≤ 255) {rc : Int32 → Int32 → Mem → Option Mem} {p1 : Int32} {m : Mem} (h7 : gI m 14 7 = nI q) : f_X2_readOperand_J20 rc p1 (nx L τ q) (nmC (bet L τ q)) m = if decide (48 ≤ bet L τ q ∧ bet L τ q ≤ 57) = true then f_X2_readNumber m else (match nmP (bet L τ q) with | some j => f_X2_emit (nI (10000 + j)) (sI m 14 7 (nI (q + 1))) | none => (if (6 : Int32) ≤ p1 then f_X2_refuse m else if nx L τ q = (40 : Int32) then f_X2_readOperand_J85 rc p1 (nx L τ q) m else if nx L τ q = (33 : Int32) then f_X2_readOperand_J85 rc p1 (nx L τ q) m else if ¬ nx L τ q = (45 : Int32) then f_X2_refuse m else f_X2_readOperand_J85 rc p1 (nx L τ q) m)) := by
  unfold f_X2_readOperand_J20
  refine bs (digit_v (q := q) hτ m) ?_
  dsimp only
  by_cases c : 48 ≤ bet L τ q ∧ bet L τ q ≤ 57
  · rw [decide_eq_true c, if_neg (show ¬ bi true = 0 by decide), if_pos rfl, bind_id]
  · rw [decide_eq_false c, if_pos (show bi false = 0 from rfl), if_neg (show ¬ (false = true) by decide)]
    unfold nmC
    cases hn : nmP (bet L τ q) with
    | none =>
      show (if (-1 : Int32) < 0 then _ else _) = _
      rw [if_pos (show (-1 : Int32) < 0 by decide), bind_id]
    | some j =>
      obtain ⟨g1, g2, g3⟩ := nm_lt hn
      show (if nI j < 0 then _ else bnd (sI m 14 7 (gI m 14 7 + 1)) (fun m7 => (f_X2_emit ((10000 : Int32) + nI j) m7).bind (fun q8 => some q8))) = f_X2_emit (nI (10000 + j)) (sI m 14 7 (nI (q + 1)))
      rw [if_neg (nn_lt0 (by omega)), h7, nI_1, show (10000 : Int32) + nI j = nI (10000 + j) from nI_add 10000 j]
      refine bn ?_
      rw [bind_id]
theorem refuse_v {L q dl B : Nat} {τ : Nat → Nat} {m : Mem} (hL : L ≤ 120) (hB : 120 ≤ B) (h : CS L τ m q dl) : ∃ n, f_X2_refuse m = some n ∧ CK m n ∧ CF L τ B n q := by
  obtain ⟨hT, h7, h8, h6, h9, h10⟩ := h
  refine ⟨sI m 14 8 (nI q), ?_, CK_14 (Or.inr (Or.inr rfl)) _, TP_14 hT (by decide) _, g_hit _ _ _ _, h10, ⟨q, by omega, by rw [g_off _ _ (by decide), h7]⟩, dl, by omega, by rw [g_off _ _ (by decide), h6]⟩
  unfold f_X2_refuse
  rw [h8, if_neg (show ¬ (0 : Int32) ≤ -1 by decide), h7]
  rfl
theorem opd_C {L : Nat} {τ : Nat → Nat} (hL : L ≤ 120) (hτ : ∀ i, i < L → τ i ≤ 255) : ∀ k, k ≤ 6 → ∀ n, k ≤ n → CSp L τ (120 + k) (f_X2_readOperand (f_X2_readOpened n) (nI (6 - k))) (opR (bet L τ) k) := by
  intro k
  induction k with
  | zero =>
    intro _ n _ m q dl h
    refine lf_C hL hτ h _ (J20_s hτ h.2.1) (fun hn => ?_)
    rw [if_pos (show (6 : Int32) ≤ nI (6 - 0) by decide)]
    obtain ⟨n1, o1, o2, o3⟩ := refuse_v hL (Nat.le_refl 120) h
    exact ⟨n1, o1, o2, o3⟩
  | succ k ih =>
    intro hk6 n hkn m q dl h
    obtain ⟨n', rfl⟩ : ∃ n', n = n' + 1 := ⟨n - 1, by omega⟩
    have ih' := ih (by omega) n' (by omega)
    have hG := op_G (L := L) (τ := τ) k
    have hE := either_C hL hτ (show 120 ≤ 120 + k by omega) (by omega) ih' hG
    refine lf_C hL hτ h _ (J20_s hτ h.2.1) (fun hn => ?_)
    have h6' : ¬ (6 : Int32) ≤ nI (6 - (k + 1)) := nI_ge (b := 6) (by omega) (by decide)
    have hp1 : nI (6 - (k + 1)) + 1 = nI (6 - k) := by rw [nI_1]; congr 1; omega
    have h' := h
    obtain ⟨hT, h7, h8, h6, h9, h10⟩ := h
    rw [if_neg h6']
    -- one step in
    have hJ : bet L τ q ≠ 0 → f_X2_readOperand_J85 (f_X2_readOpened (n' + 1)) (nI (6 - (k + 1))) (nx L τ q) m = f_X2_readOpened_B (f_X2_readOpened n') (nI (bet L τ q)) (nI (6 - k)) (sI m 14 7 (nI (q + 1))) := fun hb => by
      unfold f_X2_readOperand_J85
      rw [h7, nI_1, hp1, nx_op hb]
      refine bn ?_
      rw [bind_id]
      rfl
    have hin : bet L τ q ≠ 0 → CS L τ (sI m 14 7 (nI (q + 1))) (q + 1) dl := fun hb => by
      have := bet_lt hb
      exact ⟨TP_14 hT (by decide) _, g_hit _ _ _ _, by rw [g_off _ _ (by decide), h8], by rw [g_off _ _ (by decide), h6], by omega, by omega⟩
    have ck1 : CK m (sI m 14 7 (nI (q + 1))) := CK_14 (Or.inr (Or.inl rfl)) _
    have hD14 := (cD_v m.2.2).2.1
    -- ! and -
    have un : ∀ (b : Nat) (x : Nat) (f : Val → Val), bet L τ q = b → b ≠ 0 → ¬ nI b = (40 : Int32) → (∀ q6 : Mem, (if ¬ nI b = (33 : Int32) then (f_X2_emit (20126 : Int32) q6).bind (fun q7 => some q7) else (f_X2_emit (20033 : Int32) q6).bind (fun q8 => some q8)) = f_X2_emit (nI x) q6) → ∃ n, f_X2_readOperand_J85 (f_X2_readOpened (n' + 1)) (nI (6 - (k + 1))) (nx L τ q) m = some n ∧ CK m n ∧ CR L τ (120 + (k + 1)) m n dl (match opR (bet L τ) k (q + 1) with | .inl e => .inl e | .inr (r, c, v) => .inr (r, c ++ [x], f v)) := fun b x f hb hb0 h40 hem => by
      have hb1 : bet L τ q ≠ 0 := by rw [hb]; exact hb0
      have hq := bet_lt hb1
      rw [hJ hb1, hb]
      obtain ⟨n1, a1, a2, a3⟩ := ih' (sI m 14 7 (nI (q + 1))) (q + 1) dl (hin hb1)
      have hgr := hG (q + 1) (by omega)
      unfold f_X2_readOpened_B
      rw [if_neg h40, a1, some_bind, hem]
      cases hR : opR (bet L τ) k (q + 1) with
      | inl e =>
        rw [hR] at a3
        obtain ⟨n2, b1, b2, b3⟩ := emit_f (show CF L τ (120 + k) n1 e from a3) (nI x)
        exact ⟨n2, b1, ck1.tr (a2.tr b2), CF_le b3 (by omega)⟩
      | inr z =>
        obtain ⟨r, c, v⟩ := z
        rw [hR] at a3 hgr
        obtain ⟨c1, c2, c3⟩ := a3
        obtain ⟨g1, g2, g3, g4⟩ := hgr
        obtain ⟨n2, d1, d2, d3, d4, d5⟩ := emit_c (pos0 := 0) (m0 := m) (dl := dl) (c := c) hL a2.1 c1 c2 (fun j hj => by rw [show cD m.2.2 = cD (sI m 14 7 (nI (q + 1))).2.2 from rfl, c3 j hj]; exact g_far _ _ hD14) (by omega) x rfl
        exact ⟨n2, d1, ck1.tr (a2.tr d2), d3, d4, d5⟩
    show ∃ n, _ ∧ _ ∧ CR L τ (120 + (k + 1)) m n dl (if bet L τ q = 40 then (match eiR (opR (bet L τ) k) (bet L τ) (q + 1) with | .inl e => .inl e | .inr (r, c, v) => if bet L τ r = 41 then .inr (r + 1, c, v) else .inl r) else if bet L τ q = 33 then (match opR (bet L τ) k (q + 1) with | .inl e => .inl e | .inr (r, c, v) => .inr (r, c ++ [20033], fun N => nt (v N))) else if bet L τ q = 45 then (match opR (bet L τ) k (q + 1) with | .inl e => .inl e | .inr (r, c, v) => .inr (r, c ++ [20126], fun N => -(v N))) else .inl q)
    by_cases d0 : bet L τ q = 40
    · rw [if_pos (nx_t hτ (q := q) (c := 40) (C := (40 : Int32)) (by decide) (by decide) rfl d0), if_pos d0]
      have hb1 : bet L τ q ≠ 0 := by omega
      have hq := bet_lt hb1
      rw [hJ hb1, d0]
      obtain ⟨n1, a1, a2, a3⟩ := hE (sI m 14 7 (nI (q + 1))) (q + 1) dl (hin hb1)
      have hgr := ei_G (L := L) (τ := τ) hG (q + 1) (by omega)
      unfold f_X2_readOpened_B
      rw [if_pos (show nI 40 = (40 : Int32) from rfl), a1, some_bind]
      cases hR : eiR (opR (bet L τ) k) (bet L τ) (q + 1) with
      | inl e =>
        rw [hR] at a3
        have a3' : CF L τ (120 + k) n1 e := a3
        obtain ⟨fT, f8, fe, ⟨p, hp, f7⟩, d, hd, f6⟩ := a3'
        have hn1 := next_t hL fT f7 (by omega)
        have hfin : CF L τ (120 + (k + 1)) (sI n1 14 7 (nI (p + 1))) e := ⟨TP_14 fT (by decide) _, by rw [g_off _ _ (by decide), f8], fe, ⟨p + 1, by omega, g_hit _ _ _ _⟩, d, hd, by rw [g_off _ _ (by decide), f6]⟩
        refine ⟨sI n1 14 7 (nI (p + 1)), bs hn1 ?_, ck1.tr (a2.tr (CK_14 (Or.inr (Or.inl rfl)) _)), hfin⟩
        dsimp only
        by_cases d1 : nx L τ p = 41
        · rw [if_pos d1, f7, nI_1]; rfl
        · rw [if_neg d1]
          have hrf : f_X2_refuse n1 = some n1 := by
            unfold f_X2_refuse
            rw [if_pos (CF_t hL (show CF L τ (120 + k) n1 e from a3))]
          rw [hrf, some_bind, f7, nI_1]; rfl
      | inr z =>
        obtain ⟨r, c, v⟩ := z
        rw [hR] at a3 hgr
        obtain ⟨c1, c2, c3⟩ := a3
        obtain ⟨g1, g2, g3, g4⟩ := hgr
        have hn1 := next_t hL c1.1 c1.2.1 (by omega)
        have c1' := c1
        obtain ⟨rT, r7, r8, r6, r9, r10⟩ := c1
        have c3' : ∀ j, j < dl → gI n1 (cD m.2.2) j = gI m (cD m.2.2) j := fun j hj => by
          rw [show cD m.2.2 = cD (sI m 14 7 (nI (q + 1))).2.2 from rfl, c3 j hj]; exact g_far _ _ hD14
        show ∃ n, _ ∧ _ ∧ CR L τ (120 + (k + 1)) m n dl (if bet L τ r = 41 then .inr (r + 1, c, v) else .inl r)
        by_cases d1 : bet L τ r = 41
        · rw [if_pos d1]
          have hr := bet_lt (show bet L τ r ≠ 0 by omega)
          refine ⟨sI n1 14 7 (nI (r + 1)), bs hn1 ?_, ck1.tr (a2.tr (CK_14 (Or.inr (Or.inl rfl)) _)), ⟨TP_14 rT (by decide) _, g_hit _ _ _ _, by rw [g_off _ _ (by decide), r8], by rw [g_off _ _ (by decide), r6], by omega, by omega⟩, fun i hi => by rw [g_far _ _ hD14]; exact c2 i hi, fun j hj => by rw [g_far _ _ hD14]; exact c3' j hj⟩
          dsimp only
          rw [if_pos (nx_t hτ (q := r) (c := 41) (C := (41 : Int32)) (by decide) (by decide) rfl d1), r7, nI_1]
          rfl
        · rw [if_neg d1]
          obtain ⟨n2, o1, o2, o3⟩ := refuse_v hL (show 120 ≤ 120 + k by omega) c1'
          obtain ⟨fT, f8, fe, -, d, hd, f6⟩ := o3
          have f7 : gI n2 14 7 = nI r := by
            unfold f_X2_refuse at o1
            rw [r8, if_neg (show ¬ (0 : Int32) ≤ -1 by decide)] at o1
            have : sI n1 14 8 (gI n1 14 7) = n2 := Option.some.inj o1
            rw [← this, g_off _ _ (by decide), r7]
          refine ⟨sI n2 14 7 (nI (r + 1)), bs hn1 ?_, ck1.tr (a2.tr (o2.tr (CK_14 (Or.inr (Or.inl rfl)) _))), TP_14 fT (by decide) _, by rw [g_off _ _ (by decide), f8], fe, ⟨r + 1, by omega, g_hit _ _ _ _⟩, d, hd, by rw [g_off _ _ (by decide), f6]⟩
          dsimp only
          rw [if_neg (nx_f hτ (q := r) (c := 41) (C := (41 : Int32)) (by decide) (by decide) rfl d1), o1, some_bind, f7, nI_1]
          rfl
    · rw [if_neg (nx_f hτ (q := q) (c := 40) (C := (40 : Int32)) (by decide) (by decide) rfl d0), if_neg d0]
      by_cases d1 : bet L τ q = 33
      · rw [if_pos (nx_t hτ (q := q) (c := 33) (C := (33 : Int32)) (by decide) (by decide) rfl d1), if_pos d1]
        exact un 33 20033 (fun v N => nt (v N)) d1 (by decide) (by decide) (fun q6 => by rw [if_neg (fun z => z rfl), bind_id]; rfl)
      · rw [if_neg (nx_f hτ (q := q) (c := 33) (C := (33 : Int32)) (by decide) (by decide) rfl d1), if_neg d1]
        by_cases d2 : bet L τ q = 45
        · rw [if_neg (fun z => z (nx_t hτ (q := q) (c := 45) (C := (45 : Int32)) (by decide) (by decide) rfl d2)), if_pos d2]
          exact un 45 20126 (fun v N => -(v N)) d2 (by decide) (by decide) (fun q6 => by rw [if_pos (by decide), bind_id]; rfl)
        · rw [if_pos (nx_f hτ (q := q) (c := 45) (C := (45 : Int32)) (by decide) (by decide) rfl d2), if_neg d2]
          obtain ⟨n1, o1, o2, o3⟩ := refuse_v hL (show 120 ≤ 120 + (k + 1) by omega) h'
          exact ⟨n1, o1, o2, o3⟩
