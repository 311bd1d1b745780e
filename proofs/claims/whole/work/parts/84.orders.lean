/-! IN THOUGHT: all orders -/
def gx (g : Nat → List (List Nat)) : Nat → List (List Nat)
  | 0 => []
  | t + 1 => gx g t ++ g t
def gl (T : Nat) : Nat → List Nat → List (List Nat)
  | 0, p => [p]
  | f + 1, p => gx (fun t => if p.contains t then [] else gl T f (p ++ [t])) T
def dg (p : List Nat) : Nat := p.foldl (fun d t => 10 * d + t + 1) 0
def atL (p : List Nat) (i : Nat) : Nat := p.getD i 0
/-- the next order of each order, and what its digits come to -/
def okT (T : Nat) : Bool := (List.range (gl T T []).length).all (fun k =>
  match (gl T T [])[k]? with
  | none => false
  | some p => (match nxP T (atL p), (gl T T [])[k + 1]? with
    | none, none => true
    | some B, some q => (List.range T).all (fun i => B i == atL q i)
    | _, _ => false) && p.length == T && decide (dg p < 100000) && (List.range T).all (fun i => decide (atL p i < T) && (List.range T).all (fun j => i == j || !(atL p i == atL p j))))
theorem okT_all : ∀ T, T < 6 → okT T = true ∧ (gl T T []).length ≤ 120 := by decide +kernel
theorem ok_at {T k : Nat} {p : List Nat} (hT : T < 6) (h : (gl T T [])[k]? = some p) : (match nxP T (atL p), (gl T T [])[k + 1]? with | none, none => True | some B, some q => ∀ i, i < T → B i = atL q i | _, _ => False) ∧ p.length = T ∧ dg p < 100000 ∧ (∀ i, i < T → atL p i < T) ∧ ∀ i j, i < T → j < T → atL p i = atL p j → i = j := by
  have hk : k < (gl T T []).length := by
    rw [List.getElem?_eq_some_iff] at h
    exact h.1
  have h1 := List.all_eq_true.mp (okT_all T hT).1 k (List.mem_range.mpr hk)
  rw [h] at h1
  simp only [Bool.and_eq_true, beq_iff_eq, decide_eq_true_eq, List.all_eq_true, List.mem_range, Bool.or_eq_true, Bool.not_eq_true', beq_eq_false_iff_ne] at h1
  obtain ⟨⟨⟨a1, a2⟩, a3⟩, a4⟩ := h1
  refine ⟨?_, a2, a3, fun i hi => (a4 i hi).1, fun i j hi hj e => ?_⟩
  · cases h2 : nxP T (atL p) with
    | none =>
      rw [h2] at a1
      cases h3 : (gl T T [])[k + 1]? with
      | none => trivial
      | some q => rw [h3] at a1; exact absurd a1 (by simp)
    | some B =>
      rw [h2] at a1
      cases h3 : (gl T T [])[k + 1]? with
      | none => rw [h3] at a1; exact absurd a1 (by simp)
      | some q =>
        rw [h3] at a1
        intro i hi
        simpa using List.all_eq_true.mp a1 i (List.mem_range.mpr hi)
  · rcases (a4 i hi).2 j hj with z | z
    · exact z
    · exact absurd e z
theorem gx_idx (g : Nat → List (List Nat)) {t : Nat} : ∀ {T : Nat}, t < T → ∀ i, i < (g t).length → (gx g T)[(gx g t).length + i]? = (g t)[i]?
  | 0, h, _, _ => absurd h (Nat.not_lt_zero t)
  | T + 1, h, i, hi => by
    show (gx g T ++ g T)[(gx g t).length + i]? = _
    by_cases c : t = T
    · subst c
      rw [List.getElem?_append_right (by omega)]
      congr 1
      omega
    · have hlt : (gx g t).length + i < (gx g T).length := by
        have key : ∀ T, t < T → (gx g t).length + (g t).length ≤ (gx g T).length := by
          intro T
          induction T with
          | zero => intro h; exact absurd h (Nat.not_lt_zero t)
          | succ T ih =>
            intro h
            show _ ≤ (gx g T ++ g T).length
            rw [List.length_append]
            by_cases d : t = T
            · subst d; exact Nat.le_refl _
            · have := ih (by omega); omega
        have := key T (by omega)
        omega
      rw [List.getElem?_append_left hlt]
      exact gx_idx g (by omega) i hi
theorem gx_succ (g : Nat → List (List Nat)) (t : Nat) : (gx g (t + 1)).length = (gx g t).length + (g t).length := List.length_append
theorem digits_v {T : Nat} {p : List Nat} {u : Mem} (h14 : gI u 1 14 = nI T) (hT : T ≤ 6) (hp : p.length = T) (h54 : ∀ i, i < T → gI u 54 i = nI (atL p i)) : f_X7_digits u = some (nI (dg p), u) := by
  have hw := wh_inv (body := f_X7_digits_L4) (fun k s => s = (nI (dg (p.take k)), nI k, u)) (fun r => r = (nI (dg p), u)) T (fun k s hk hs => ?_) (fun s hs => ?_) 0 (0, 0, u) (Nat.zero_le _) (by rw [List.take_zero]; rfl)
  · obtain ⟨r, h1, h2⟩ := hw
    unfold f_X7_digits
    rw [h1, h2]
  · subst hs
    left
    refine ⟨_, ?_, rfl⟩
    have e1 : dg (p.take (k + 1)) = 10 * dg (p.take k) + atL p k + 1 := by
      unfold dg atL
      rw [List.take_add_one, List.foldl_append, List.getD_eq_getElem?_getD]
      cases h : p[k]? with
      | none =>
        have := List.getElem?_eq_none_iff.mp h
        omega
      | some v => rfl
    have e2 : nI (dg (p.take k)) * 10 + nI (atL p k) + 1 = nI (dg (p.take (k + 1))) := by
      rw [e1, show nI (dg (p.take k)) * 10 = nI (dg (p.take k) * 10) from nI_mul _ 10, nI_add, nI_1, Nat.mul_comm]
    unfold f_X7_digits_L4
    simp only [h14, nI_ge hk (show T < 2 ^ 31 by omega), if_false, ck_in (show k < 6 by omega) (show 6 < 2 ^ 31 by decide), ix_n (show k < 2 ^ 31 by omega), h54 k hk, bnd, nI_1, e2]
  · subst hs
    refine ⟨_, ?_, rfl⟩
    unfold f_X7_digits_L4
    simp only [h14, nI_le (Nat.le_refl T) (show T < 2 ^ 31 by omega), if_true]
    rw [List.take_of_length_le (by omega)]
    rfl
/-- class and reference before the k-th order -/
def JI (P T C V x k : Nat) (u w : Mem) : Prop := TB P T C V u w ∧ (gI u 11 2 = nI x ∧ gI w 85 27 = gI u 11 2 ∧ gI w 85 26 = gI u 11 0 ∧ gI w 85 28 = -1) ∧ BR 1 u w ∧ (0 < k → gI u 55 3 = gI w 85 63 ∧ 0 ≤ gI w 85 63) ∧ ∀ l, (gl T T [])[k]? = some l → ∀ i, i < T → gI u 54 i = nI (atL l i)
def flN (T k : Nat) : Int32 := if k < (gl T T []).length then 1 else 0
theorem leaf_v {P T C V x k : Nat} {p : List Nat} {u w : Mem} (hT : T < 6) (hT0 : 0 < T) (hx1 : 1 ≤ x) (hx9 : x ≤ 9) (h : JI P T C V x k u w) (hp : (gl T T [])[k]? = some p) (h103 : ∀ i, i < T → gI w 103 i = nI (atL p i)) : ∃ u' w', f_X9_looksAt (nI (dg p)) w = some w' ∧ wh f_X7_tryOrders_L4 (flN T k, nI k, u) = wh f_X7_tryOrders_L4 (flN T (k + 1), nI (k + 1), u') ∧ JI P T C V x (k + 1) u' w' ∧ (∀ i, gI w' 103 i = gI w 103 i) ∧ ∀ i, (i < 3 ∨ 6 ≤ i) → gI u' 55 i = gI u 55 i := by
  obtain ⟨hB, ⟨hx, h27, h26, h28⟩, hb, -, h54⟩ := h
  obtain ⟨o1, o2, o3, o4, o5⟩ := ok_at hT hp
  have hk : k < (gl T T []).length := (List.getElem?_eq_some_iff.mp hp).1
  have hN := (okT_all T hT).2
  have hO : OR 54 T (atL p) u w := ⟨fun i hi => ⟨o4 i hi, h54 p hp i hi, h103 i hi⟩, o5⟩
  obtain ⟨n, r, r', c1, c2, c3, c4, c5, c6, c7, c8, c9, c10, c11⟩ := try_v (q := 1) (tried := nI (dg p)) hB hO hx1 hx9 (h27.trans hx) h28 (by decide) (nn_0le (by omega)) hb
  rw [h26, h27] at c1
  have kt := c7.tr c8
  have h14 : gI n 1 14 = nI T := (c7.1.2.1 14 (by decide) (by decide)).trans hB.1.2.1.1
  have hdg := digits_v (p := p) h14 (by omega) o2 (fun i hi => by rw [c7.2.1 i, h54 p hp i hi])
  have hA : agA T (atL p) r := fun i hi => ⟨by have := o4 i hi; omega, by rw [kt.2.1 i, h54 p hp i hi]⟩
  obtain ⟨fl, r2, d1, d2, d3⟩ := next_o (by omega) hT0 ((c8.1.2.1 14 (by decide) (by decide)).trans h14) hA
  have k2 : TS r r2 := ⟨fun c h1 h2 i => d2 c i (by omega), fun i h1 h2 => d2 1 i (by decide), d2 14 5 (by decide), fun i => d2 17 i (by decide), fun i => d2 18 i (by decide), (fr_X7_nextOrder d1).2 (by decide)⟩
  have hfl : fl = flN T (k + 1) ∧ ∀ l, (gl T T [])[k + 1]? = some l → ∀ i, i < T → gI r2 54 i = nI (atL l i) := by
    unfold flN
    cases hn : nxP T (atL p) with
    | none =>
      rw [hn] at d3 o1
      cases hq : (gl T T [])[k + 1]? with
      | none =>
        have := List.getElem?_eq_none_iff.mp hq
        rw [if_neg (by omega)]
        exact ⟨d3, fun l hl => by cases hl⟩
      | some q => rw [hq] at o1; exact absurd o1 (by simp)
    | some B =>
      rw [hn] at d3 o1
      cases hq : (gl T T [])[k + 1]? with
      | none => rw [hq] at o1; exact absurd o1 (by simp)
      | some q =>
        rw [hq] at o1
        have hk1 := (List.getElem?_eq_some_iff.mp hq).1
        rw [if_pos hk1]
        refine ⟨d3.1, fun l hl i hi => ?_⟩
        cases hl
        rw [(d3.2 i hi).2, o1 i hi]
  refine ⟨r2, r', c3, ?_, ⟨TB_cong hB (kt.1.tr k2) c9.1, ⟨?_, ?_, ?_, ?_⟩, ?_, fun _ => ⟨?_, c6⟩, hfl.2⟩, c9.2.1, fun i hi => ?_⟩
  · refine wh_inl ?_
    unfold flN
    rw [if_pos hk]
    have ck2 : ∀ {T : Type} (K : Option T), ck (2 : Int32) 3 K = K := fun K => rfl
    have ck0 : ∀ {T : Type} (K : Option T), ck (0 : Int32) 3 K = K := fun K => rfl
    have j2 : ix (2 : Int32) = 2 := rfl
    have j0 : ix (0 : Int32) = 0 := rfl
    have n120 : ¬ (120 : Int32) ≤ nI k := nI_ge (a := k) (b := 120) (by omega) (by decide)
    have hc2 : f_X7_compare (1 : Int32) (nI (dg p)) n = some r := c2
    have hf2 := hfl.1
    unfold flN at hf2
    unfold f_X7_tryOrders_L4
    simp only [n120, if_false, show ¬ ((1 : Int32) = 0) by decide, ck0, ck2, j0, j2, c1, some_bind, hdg, hc2, d1, bnd, nI_1]
    rw [hf2]
  · rw [k2.1 11 (by decide) (by decide), kt.1.1 11 (by decide) (by decide), hx]
  · rw [c9.2.2 27 (by decide) (by decide), h27, k2.1 11 (by decide) (by decide), kt.1.1 11 (by decide) (by decide)]
  · rw [c9.2.2 26 (by decide) (by decide), h26, k2.1 11 (by decide) (by decide), kt.1.1 11 (by decide) (by decide)]
  · rw [c9.2.2 28 (by decide) (by decide), h28]
  · unfold BR
    rw [d2 55 _ (by decide), d2 55 _ (by decide), d2 55 _ (by decide)]
    exact c4
  · rw [d2 55 _ (by decide)]; exact c5
  · rw [d2 55 _ (by decide)]; exact c11 i (by omega)
theorem JI_103 {P T C V x k : Nat} {u w : Mem} (h : JI P T C V x k u w) (i : Nat) (y : Int32) : JI P T C V x k u (sI w 103 i y) := by
  obtain ⟨hB, ⟨hx, h27, h26, h28⟩, hb, hz, h54⟩ := h
  have e : ∀ j, gI (sI w 103 i y) 85 j = gI w 85 j := fun j => g_far _ _ (by decide)
  refine ⟨TB_cong hB TS.rf ⟨fun c hc j => g_far _ _ (by omega), fun j _ => e j, e 19, fun j => g_far _ _ (by decide)⟩, ⟨hx, by rw [e]; exact h27, by rw [e]; exact h26, by rw [e]; exact h28⟩, ?_, fun hk => by rw [e]; exact hz hk, h54⟩
  unfold BR
  rw [e, e, e]
  exact hb
theorem orders_sub {P T C V x : Nat} (hT : T < 6) (hT0 : 0 < T) (hx1 : 1 ≤ x) (hx9 : x ≤ 9) : ∀ f e p k used u w, p.length + f = T → (∀ i, i < (gl T f p).length → (gl T T [])[k + i]? = (gl T f p)[i]?) → JI P T C V x k u w → (∀ i, i < p.length → gI w 103 i = nI (atL p i)) → (∀ t, t < T → bt used t = p.contains t) → ∃ u' w', f_X9_goesOrders (f + 1 + e) (nI p.length) used (nI (dg p)) w = some w' ∧ wh f_X7_tryOrders_L4 (flN T k, nI k, u) = wh f_X7_tryOrders_L4 (flN T (k + (gl T f p).length), nI (k + (gl T f p).length), u') ∧ JI P T C V x (k + (gl T f p).length) u' w' ∧ (∀ i, i < p.length → gI w' 103 i = gI w 103 i) ∧ ∀ i, (i < 3 ∨ 6 ≤ i) → gI u' 55 i = gI u 55 i := by
  intro f
  induction f with
  | zero =>
    intro e p k used u w hl hidx h h103 hus
    have hpT : p.length = T := by omega
    have hp : (gl T T [])[k]? = some p := hidx 0 (by show 0 < 1; decide)
    obtain ⟨u', w', z1, z2, z3, z4, z5⟩ := leaf_v hT hT0 hx1 hx9 h hp (fun i hi => h103 i (by omega))
    refine ⟨u', w', ?_, z2, z3, fun i _ => z4 i, z5⟩
    rw [show 0 + 1 + e = e + 1 by omega]
    show f_X9_goesOrders_B (f_X9_goesOrders e) (nI p.length) used (nI (dg p)) w = _
    unfold f_X9_goesOrders_B
    have h8 : gI w 85 8 = nI T := h.1.1.2.1.2.1
    rw [h8, hpT, if_neg (fun z => z rfl), z1]
    rfl
  | succ f ih =>
    intro e p k used u w hl hidx h h103 hus
    have hlT : p.length < T := by omega
    have key : ∀ j t u1 w1, t + j = T → JI P T C V x (k + (gx (fun t => if p.contains t then [] else gl T f (p ++ [t])) t).length) u1 w1 → wh f_X7_tryOrders_L4 (flN T k, nI k, u) = wh f_X7_tryOrders_L4 (flN T (k + (gx (fun t => if p.contains t then [] else gl T f (p ++ [t])) t).length), nI (k + (gx (fun t => if p.contains t then [] else gl T f (p ++ [t])) t).length), u1) → (∀ i, i < p.length → gI w1 103 i = gI w 103 i) → (∀ i, (i < 3 ∨ 6 ≤ i) → gI u1 55 i = gI u 55 i) → ∃ u' w', wh (f_X9_goesOrders_L17 (f_X9_goesOrders (f + 1 + e))) (nI p.length, used, nI (dg p), nI t, w1) = some w' ∧ wh f_X7_tryOrders_L4 (flN T k, nI k, u) = wh f_X7_tryOrders_L4 (flN T (k + (gl T (f + 1) p).length), nI (k + (gl T (f + 1) p).length), u') ∧ JI P T C V x (k + (gl T (f + 1) p).length) u' w' ∧ (∀ i, i < p.length → gI w' 103 i = gI w 103 i) ∧ ∀ i, (i < 3 ∨ 6 ≤ i) → gI u' 55 i = gI u 55 i := by
      intro j
      induction j with
      | zero =>
        intro t u1 w1 et hJ hw h3 h5
        have e2 : t = T := by omega
        subst e2
        refine ⟨u1, w1, wh_done ?_, hw, hJ, h3, h5⟩
        unfold f_X9_goesOrders_L17
        have h8 : gI w1 85 8 = nI t := hJ.1.1.2.1.2.1
        simp only [h8, nI_le (Nat.le_refl t) (show t < 2 ^ 31 by omega), if_true, up_some]
      | succ j ihj =>
        intro t u1 w1 et hJ hw h3 h5
        have ht : t < T := by omega
        have h8 : gI w1 85 8 = nI T := hJ.1.1.2.1.2.1
        have nt : ¬ nI T ≤ nI t := nI_ge ht (by omega)
        have hg := gx_succ (fun t => if p.contains t then [] else gl T f (p ++ [t])) t
        cases hc : p.contains t
        · -- a thing not yet taken
          have hg2 : (gx (fun t => if p.contains t then [] else gl T f (p ++ [t])) (t + 1)).length = (gx (fun t => if p.contains t then [] else gl T f (p ++ [t])) t).length + (gl T f (p ++ [t])).length := by
            rw [hg]
            show _ + (if p.contains t then [] else gl T f (p ++ [t])).length = _
            rw [hc]
            rfl
          have hlen : (p ++ [t]).length = p.length + 1 := by simp
          have hdg : dg (p ++ [t]) = 10 * dg p + t + 1 := by
            unfold dg
            rw [List.foldl_append]
            rfl
          obtain ⟨u2, w2, z1, z2, z3, z4, z5⟩ := ih e (p ++ [t]) (k + (gx (fun t => if p.contains t then [] else gl T f (p ++ [t])) t).length) (used ||| ((1 : Int32) <<< (nI t &&& 31))) u1 (sI w1 103 p.length (nI t)) (by rw [hlen]; omega) (fun i hi => by
            have h1 := gx_idx (fun t => if p.contains t then [] else gl T f (p ++ [t])) ht i (by
              show i < (if p.contains t then [] else gl T f (p ++ [t])).length
              rw [hc]
              exact hi)
            have h2 := hidx ((gx (fun t => if p.contains t then [] else gl T f (p ++ [t])) t).length + i) (by
              show _ < (gx (fun t => if p.contains t then [] else gl T f (p ++ [t])) T).length
              by_cases q : (gx (fun t => if p.contains t then [] else gl T f (p ++ [t])) t).length + i < (gx (fun t => if p.contains t then [] else gl T f (p ++ [t])) T).length
              · exact q
              · have h3 := List.getElem?_eq_none_iff.mpr (Nat.not_lt.mp q)
                rw [h1] at h3
                have h4 : (gl T f (p ++ [t]))[i]? = none := by
                  have : (if p.contains t then [] else gl T f (p ++ [t]))[i]? = none := h3
                  rw [hc] at this
                  exact this
                have := List.getElem?_eq_none_iff.mp h4
                omega)
            rw [Nat.add_assoc, h2]
            show (gx (fun t => if p.contains t then [] else gl T f (p ++ [t])) T)[_]? = _
            rw [h1]
            show (if p.contains t then [] else gl T f (p ++ [t]))[i]? = _
            rw [hc]
            rfl) (JI_103 hJ _ _) (fun i hi => by
            rw [hlen] at hi
            by_cases c : i = p.length
            · subst c
              rw [g_hit]
              unfold atL
              simp
            · rw [g_off _ _ c, h3 i (by omega), h103 i (by omega)]
              unfold atL
              rw [List.getD_eq_getElem?_getD, List.getD_eq_getElem?_getD, List.getElem?_append_left (by omega)]) (fun s hs => by
            rw [b_or, b_one (by omega) (by omega), hus s hs, List.contains_eq_mem, List.contains_eq_mem]
            by_cases c : s = t
            · subst c; simp
            · simp [c])
          obtain ⟨u', w', y1, y2, y3, y4, y5⟩ := ihj (t + 1) u2 w2 (by omega) (by rw [hg2, ← Nat.add_assoc]; exact z3) (by rw [hg2, ← Nat.add_assoc]; exact hw.trans z2) (fun i hi => by rw [z4 i (by rw [hlen]; omega), g_off _ _ (by omega), h3 i hi]) (fun i hi => (z5 i hi).trans (h5 i hi))
          refine ⟨u', w', (wh_inl ?_).trans y1, y2, y3, y4, y5⟩
          unfold f_X9_goesOrders_L17
          have eb := and1_bit (show t < 31 by omega) used
          rw [hus t ht, hc] at eb
          have c6 : ∀ {T : Type} (K : Option T), ck (nI p.length) 6 K = K := fun K => ck_in (by omega) (by decide)
          have j6 : ix (nI p.length) = p.length := ix_n (by omega)
          have ed : (10 : Int32) * nI (dg p) + nI t + 1 = nI (dg (p ++ [t])) := by
            rw [hdg, show (10 : Int32) * nI (dg p) = nI (10 * dg p) from nI_mul 10 _, nI_add, nI_1]
          have el : nI (p.length + 1) = nI (p ++ [t]).length := by rw [hlen]
          simp only [h8, nt, if_false, eb, show ¬ ¬ (bi false = 0) by decide, c6, j6, bnd, nI_1, ed, el, z1, some_bind]
        · have hg2 : (gx (fun t => if p.contains t then [] else gl T f (p ++ [t])) (t + 1)).length = (gx (fun t => if p.contains t then [] else gl T f (p ++ [t])) t).length := by
            rw [hg]
            show _ + (if p.contains t then [] else gl T f (p ++ [t])).length = _
            rw [hc]
            rfl
          obtain ⟨u', w', y1, y2, y3, y4, y5⟩ := ihj (t + 1) u1 w1 (by omega) (by rw [hg2]; exact hJ) (by rw [hg2]; exact hw) h3 h5
          refine ⟨u', w', (wh_inl ?_).trans y1, y2, y3, y4, y5⟩
          unfold f_X9_goesOrders_L17
          have eb := and1_bit (show t < 31 by omega) used
          rw [hus t ht, hc] at eb
          simp only [h8, nt, if_false, eb, show ¬ (bi true = 0) by decide, not_false_eq_true, if_true, bnd, nI_1]
    obtain ⟨u', w', y1, y2, y3, y4, y5⟩ := key T 0 u w (by omega) h rfl (fun _ _ => rfl) (fun _ _ => rfl)
    refine ⟨u', w', ?_, y2, y3, y4, y5⟩
    rw [show f + 1 + 1 + e = (f + 1 + e) + 1 by omega]
    show f_X9_goesOrders_B (f_X9_goesOrders (f + 1 + e)) (nI p.length) used (nI (dg p)) w = _
    unfold f_X9_goesOrders_B
    have h8 : gI w 85 8 = nI T := h.1.1.2.1.2.1
    rw [h8, if_pos (fun z => by have := (eq_nn (by omega) (by omega)).mp z; omega)]
    exact y1
