/-! rule(), order(), times() -/
theorem orders_v {P T C V x : Nat} {u w0 : Mem} (hB : TB P T C V u w0) (hP : 0 < P) (hT : 0 < T) (hT5 : T ≤ 5) (h54 : ∀ i, i < 6 → gI u 54 i = nI i) (h55 : gI u 55 (1 * 3) = -2) {k : Nat} (hk : k < 3) : ∃ r r', f_X7_tryOrders u = some r ∧ f_X9_order (nI k) w0 = some (gI r 55 (1 * 3 + k), r') ∧ ∀ i, (i < 1 * 3 ∨ 1 * 3 + 3 ≤ i) → gI r 55 i = gI u 55 i := by
  have hB0 := hB
  obtain ⟨⟨⟨n1, n2, n3⟩, ⟨n4, n5, n6⟩, ⟨n7, n8, n9⟩, n0⟩, -, -, -, -, ⟨⟨s0, -⟩, -, s2, x, x1, x9, hx⟩, -⟩ := hB
  obtain ⟨w, p1, p2, p3, p4, p5, p6, p7⟩ := plain_v n5 n6
  have t63 : TS' w (sI w 85 63 (-1)) := ⟨fun c hc i => g_far _ _ (by omega), fun i hi => g_off _ _ (by omega), g_off _ _ (by decide), fun i => g_far _ _ (by decide)⟩
  have first : ∀ T, T < 6 → ∀ l, (gl T T [])[0]? = some l → ∀ i, i < T → atL l i = i := by
    intro T hT l hl i hi
    have key : ∀ T, T < 6 → ∀ i, i < T → atL ((gl T T [])[0]?.getD []) i = i := by decide +kernel
    have := key T hT i hi
    rw [hl] at this
    exact this
  have hJ : JI P T C V x 0 u (sI w 85 63 (-1)) := ⟨TB_cong hB0 TS.rf (p6.tr t63), ⟨hx, by rw [g_off _ _ (by decide), p3, s2], by rw [g_off _ _ (by decide), p2, s0], by rw [g_off _ _ (by decide), p4]⟩, Or.inl ⟨h55, g_hit _ _ _ _⟩, fun z => absurd z (Nat.lt_irrefl 0), fun l hl i hi => by rw [first T (by omega) l hl i hi]; exact h54 i (by omega)⟩
  obtain ⟨u', w', z1, z2, z3, z4, z5⟩ := orders_sub (show T < 6 by omega) hT x1 x9 T (6 - T) [] 0 0 u (sI w 85 63 (-1)) (by simp) (fun i hi => by rw [Nat.zero_add]) hJ (fun i hi => absurd hi (Nat.not_lt_zero i)) (fun t ht => by rw [b_0]; rfl)
  have hN : 0 < (gl T T []).length := by
    have key : ∀ T, T < 6 → 0 < (gl T T []).length := by decide +kernel
    exact key T (by omega)
  have hend : wh f_X7_tryOrders_L4 (flN T (0 + (gl T T []).length), nI (0 + (gl T T []).length), u') = some u' := by
    refine wh_done ?_
    have e0 : flN T (0 + (gl T T []).length) = 0 := by
      unfold flN
      rw [if_neg (by omega)]
    unfold f_X7_tryOrders_L4
    rw [e0]
    simp only [if_true, ite_self, up_some]
  have e7 : T + 1 + (6 - T) = 7 := by omega
  rw [e7] at z1
  have hX : f_X7_tryOrders u = some u' := by
    unfold f_X7_tryOrders
    have e1 : flN T 0 = 1 := by
      unfold flN
      rw [if_pos hN]
    rw [e1] at z2
    exact z2.trans hend
  obtain ⟨-, -, hb, hz, -⟩ := z3
  obtain ⟨q1, q2⟩ := hz (by omega)
  have hbr : gI u' 55 3 = gI w' 85 63 ∧ gI u' 55 4 = gI w' 85 64 ∧ gI u' 55 5 = gI w' 85 65 := by
    rcases hb with ⟨-, b2⟩ | ⟨b1, -, b3, b4⟩
    · rw [b2] at q2; exact absurd q2 (by decide)
    · exact ⟨b1, b3, b4⟩
  refine ⟨u', w', hX, ?_, fun i hi => z5 i (by omega)⟩
  unfold f_X9_order
  rw [wi_ok (n := 2) (H := 2) rfl (by decide) (by omega), some_bind, if_pos (show ¬ ((1 : Int32), w0).1 = 0 from (by decide : ¬ ((1 : Int32) = 0)))]
  show (f_X9_isTable w0).bind _ = _
  rw [isTable_y n2 n3 n5 n6, some_bind, decide_eq_true ⟨hP, hT⟩, if_neg (show ¬ (bi true, w0).1 = 0 from (by decide : ¬ (bi true = 0)))]
  show (if gI w0 85 8 ≤ (5 : Int32) then (f_X9_plain w0).bind _ else _) = _
  rw [n5, if_pos (show nI T ≤ (5 : Int32) from nI_le (b := 5) hT5 (by decide)), p1, some_bind]
  show (f_X9_goesOrders 7 0 0 0 (sI w 85 63 (-1))).bind _ = _
  rw [show f_X9_goesOrders 7 0 0 0 (sI w 85 63 (-1)) = some w' from z1, some_bind]
  unfold f_X9_bestTold
  have : k = 0 ∨ k = 1 ∨ k = 2 := by omega
  rcases this with rfl | rfl | rfl
  · show some (gI w' 85 63, w') = some (gI u' 55 3, w')
    rw [hbr.1]
  · show some (gI w' 85 64, w') = some (gI u' 55 4, w')
    rw [hbr.2.1]
  · show some (gI w' 85 65, w') = some (gI u' 55 5, w')
    rw [hbr.2.2]
noncomputable def refQ (q : Nat) : Int32 → Mem → Option (Int32 × Mem) := if q = 0 then f_X9_rule else if q = 1 then f_X9_order else f_X9_times
noncomputable def tryQ (q : Nat) : Mem → Option Mem := if q = 0 then f_X7_tryRules else if q = 1 then f_X7_tryOrders else f_X7_tryTimers
theorem tryQ_v {P T C V q : Nat} (hq : q < 3) {u w0 : Mem} (hB : TB P T C V u w0) (hP : 0 < P) (hT : 0 < T) (hT5 : q = 1 → T ≤ 5) (h54 : ∀ i, i < 6 → gI u 54 i = nI i) (h55 : gI u 55 (q * 3) = -2) {k : Nat} (hk : k < 3) : ∃ r r', tryQ q u = some r ∧ refQ q (nI k) w0 = some (gI r 55 (q * 3 + k), r') ∧ ∀ i, (i < q * 3 ∨ q * 3 + 3 ≤ i) → gI r 55 i = gI u 55 i := by
  have : q = 0 ∨ q = 1 ∨ q = 2 := by omega
  rcases this with rfl | rfl | rfl
  · exact rules_v (x := 0) hB hP hT h54 h55 hk
  · exact orders_v (x := 0) hB hP hT (hT5 rfl) h54 h55 hk
  · exact timers_v (x := 0) hB hP hT h54 h55 hk
def VAL (q : Nat) (m m' : Mem) : Prop := ∀ w, TS' m' w → ∀ k, k < 3 → ∃ r', refQ q (nI k) w = some (gI m 55 (q * 3 + k), r')
/-- what was thought out before -/
def IH (P T V : Nat) (m m' : Mem) : Prop := ∀ q, q < 3 → (gI m 56 q = -1 ∨ ∃ z, z ≤ V ∧ gI m 56 q = nI z) ∧ (gI m 56 q = nI V → 0 < P → 0 < T → (q = 1 → T ≤ 5) → VAL q m m')
theorem refQ_bad {P T C V q : Nat} (hq : q < 3) {m m' : Mem} (hB : TB P T C V m m') (x : Int32) : ((x < 0 ∨ nI 2 < x) → refQ q x m' = some (-1, m')) ∧ (¬ (x < 0 ∨ nI 2 < x) → (¬ (0 < P ∧ 0 < T) ∨ (q = 1 ∧ 5 < T)) → refQ q x m' = some (-5, m')) := by
  obtain ⟨⟨⟨n1, n2, n3⟩, ⟨n4, n5, n6⟩, -⟩, -⟩ := hB
  have hit := isTable_y n2 n3 n5 n6
  have n10 : ¬ ((1 : Int32) = 0) := by decide
  refine ⟨fun h => ?_, fun h1 h2 => ?_⟩
  · have hw := wi_bad (n := 2) (H := 2) rfl h m'
    have : q = 0 ∨ q = 1 ∨ q = 2 := by omega
    rcases this with rfl | rfl | rfl
    · show f_X9_rule x m' = _
      unfold f_X9_rule
      rw [hw]; rfl
    · show f_X9_order x m' = _
      unfold f_X9_order
      rw [hw]; rfl
    · show f_X9_times x m' = _
      unfold f_X9_times
      rw [hw]; rfl
  · obtain ⟨k, hk, rfl⟩ : ∃ k, k ≤ 2 ∧ x = nI k := by
      rcases nn_cases 2 (by decide) x with h | h
      · exact h
      · exact absurd h h1
    have hw := wi_ok (n := 2) (H := 2) rfl (by decide) hk m'
    by_cases c : 0 < P ∧ 0 < T
    · have h3 : q = 1 ∧ 5 < T := h2.resolve_left (fun z => z c)
      obtain ⟨rfl, h5⟩ := h3
      show f_X9_order (nI k) m' = _
      unfold f_X9_order
      rw [hw, some_bind, if_pos (show ¬ ((1 : Int32), m').1 = 0 from n10)]
      show (f_X9_isTable m').bind _ = _
      rw [hit, some_bind, decide_eq_true c, if_neg (show ¬ (bi true, m').1 = 0 from (by decide : ¬ (bi true = 0)))]
      show (if gI m' 85 8 ≤ (5 : Int32) then _ else _) = _
      rw [n5, if_neg (show ¬ nI T ≤ (5 : Int32) from nI_ge (a := 5) h5 (by omega))]
    · rw [decide_eq_false c] at hit
      have : q = 0 ∨ q = 1 ∨ q = 2 := by omega
      rcases this with rfl | rfl | rfl
      · show f_X9_rule (nI k) m' = _
        unfold f_X9_rule
        rw [hw, some_bind, if_pos (show ¬ ((1 : Int32), m').1 = 0 from n10)]
        show (f_X9_isTable m').bind _ = _
        rw [hit]; rfl
      · show f_X9_order (nI k) m' = _
        unfold f_X9_order
        rw [hw, some_bind, if_pos (show ¬ ((1 : Int32), m').1 = 0 from n10)]
        show (f_X9_isTable m').bind _ = _
        rw [hit]; rfl
      · show f_X9_times (nI k) m' = _
        unfold f_X9_times
        rw [hw, some_bind, if_pos (show ¬ ((1 : Int32), m').1 = 0 from n10)]
        show (f_X9_isTable m').bind _ = _
        rw [hit]; rfl
theorem op_answer {P T C V q : Nat} (hq : q < 3) (hV : V < 2 ^ 31) {m m' : Mem} (hB : TB P T C V m m') (hH : IH P T V m m') (x : Int32) : ∃ v n n', f_X7_answer (nI q) x m = some (v, n) ∧ refQ q x m' = some (v, n') ∧ (TS' m' n' → IH P T V n n') := by
  have hB0 := hB
  obtain ⟨⟨⟨n1, n2, n3⟩, ⟨n4, n5, n6⟩, -, n0⟩, -⟩ := hB
  obtain ⟨rb1, rb2⟩ := refQ_bad hq hB0 x
  have keep : TS' m' m' → IH P T V m m' := fun _ => hH
  by_cases hx : x < 0 ∨ nI 2 < x
  · refine ⟨-1, m, m', ?_, rb1 hx, keep⟩
    unfold f_X7_answer
    by_cases c : x < 0
    · rw [if_pos c]
    · have b : ¬ x < (3 : Int32) := far_ge (n := 2) (by decide) hx c
      rw [if_neg c, if_neg b]
  · obtain ⟨k, hk, rfl⟩ : ∃ k, k ≤ 2 ∧ x = nI k := by
      rcases nn_cases 2 (by decide) x with h | h
      · exact h
      · exact absurd h hx
    have hbare := isBare_y n1 n3 n4 n6
    have e1 : (nI q = 1) = (q = 1) := propext ⟨fun z => (eq_nn (b := 1) (by omega) (by decide)).mp z, fun z => by rw [z]; rfl⟩
    have hA0 : f_X7_answer (nI q) (nI k) m = if 0 < P ∧ 0 < T then (if ¬ q = 1 then f_X7_answer_J40 (nI q) (nI k) m else if nI T ≤ (5 : Int32) then f_X7_answer_J40 (nI q) (nI k) m else some (-5, m)) else some (-5, m) := by
      unfold f_X7_answer
      rw [if_neg (nn_lt0 (by omega)), if_pos (lt_lit (n := 3) (c := 3) rfl (by decide) (by omega)), hbare, some_bind]
      by_cases c : 0 < P ∧ 0 < T
      · rw [decide_eq_true c, if_pos c, if_neg (show ¬ ¬ bi (!true) = 0 by decide)]
        show (if ¬ nI q = 1 then f_X7_answer_J40 (nI q) (nI k) m else if gI m 1 14 ≤ (5 : Int32) then f_X7_answer_J40 (nI q) (nI k) m else some (-5, m)) = _
        rw [n4]
        simp only [e1]
      · rw [decide_eq_false c, if_neg c, if_pos (show ¬ bi (!false) = 0 by decide)]
    by_cases c : (0 < P ∧ 0 < T) ∧ (q = 1 → T ≤ 5)
    · obtain ⟨⟨hP, hT⟩, hT5⟩ := c
      have hA1 : f_X7_answer (nI q) (nI k) m = f_X7_answer_J40 (nI q) (nI k) m := by
        rw [hA0, if_pos ⟨hP, hT⟩]
        by_cases d : q = 1
        · rw [if_neg (fun z => z d), if_pos (show nI T ≤ (5 : Int32) from nI_le (b := 5) (hT5 d) (by decide))]
        · rw [if_pos d]
      have c3 : ∀ {T : Type} (K : Option T), ck (nI q) 3 K = K := fun K => ck_in (by omega) (by decide)
      have jq : ix (nI q) = q := ix_n (by omega)
      have eq3 : nI q * 3 = nI (q * 3) := nI_mul q 3
      have c9 : ∀ {T : Type} (K : Option T), ck (nI (q * 3)) 9 K = K := fun K => ck_in (by omega) (by decide)
      have j9 : ix (nI (q * 3)) = q * 3 := ix_n (by omega)
      have J131 : ∀ n, f_X7_answer_J131 (nI q) (nI k) n = some (gI n 55 (q * 3 + k), n) := fun n => by
        unfold f_X7_answer_J131
        rw [eq3, nI_add, ck_in (by omega) (by decide), ix_n (by omega)]
      obtain ⟨hz, hval⟩ := hH q hq
      by_cases hc : gI m 56 q = nI V
      · obtain ⟨r', hr⟩ := hval hc hP hT hT5 m' ⟨fun _ _ _ => rfl, fun _ _ => rfl, rfl, fun _ => rfl⟩ k (by omega)
        refine ⟨gI m 55 (q * 3 + k), m, r', ?_, hr, fun ht q' hq' => ⟨(hH q' hq').1, fun h1 h2 h3 h4 w hw => (hH q' hq').2 h1 h2 h3 h4 w (ht.tr hw)⟩⟩
        rw [hA1]
        unfold f_X7_answer_J40
        rw [c3, jq, hc, n0, if_pos rfl, J131]
      · -- thought out anew
        obtain ⟨u, u1, u2⟩ := came_v 54 (sI m 55 (q * 3) (-2))
        have Fu := fr_X8_asTheyCame u1
        have TU : TS m u := ⟨fun c h1 h2 i => by rw [u2, if_neg (by omega), g_far _ _ (by omega)], fun i h1 h2 => by rw [u2, if_neg (by omega), g_far _ _ (by decide)], by rw [u2, if_neg (by decide), g_far _ _ (by decide)], fun i => by rw [u2, if_neg (by omega), g_far _ _ (by decide)], fun i => by rw [u2, if_neg (by omega), g_far _ _ (by decide)], (Fu.2 (by decide)).trans rfl⟩
        have hBu := TB_cong hB0 TU TS'.rf
        have h54 : ∀ i, i < 6 → gI u 54 i = nI i := fun i hi => by rw [u2, if_pos ⟨rfl, hi⟩]
        have h55 : gI u 55 (q * 3) = -2 := by rw [u2, if_neg (by omega), g_hit]
        obtain ⟨r, r', t1, t2, t3⟩ := tryQ_v hq hBu hP hT hT5 h54 h55 (show k < 3 by omega)
        have fr : gI r 1 16 = nI V ∧ ∀ i, gI r 56 i = gI m 56 i := by
          have h16 : gI u 1 16 = nI V := hBu.1.2.2.2
          have h56 : ∀ i, gI u 56 i = gI m 56 i := fun i => by rw [u2, if_neg (by omega), g_far _ _ (by decide)]
          have : q = 0 ∨ q = 1 ∨ q = 2 := by omega
          rcases this with rfl | rfl | rfl
          · have F := fr_X7_tryRules (show f_X7_tryRules u = some r from t1)
            exact ⟨(fr_I F 1 16 rfl).trans h16, fun i => (fr_I F 56 i rfl).trans (h56 i)⟩
          · have F := fr_X7_tryOrders (show f_X7_tryOrders u = some r from t1)
            exact ⟨(fr_I F 1 16 rfl).trans h16, fun i => (fr_I F 56 i rfl).trans (h56 i)⟩
          · have F := fr_X7_tryTimers (show f_X7_tryTimers u = some r from t1)
            exact ⟨(fr_I F 1 16 rfl).trans h16, fun i => (fr_I F 56 i rfl).trans (h56 i)⟩
        have J118 : f_X7_answer_J118 (nI q) (nI k) r = some (gI r 55 (q * 3 + k), sI r 56 q (nI V)) := by
          unfold f_X7_answer_J118
          rw [c3, jq, fr.1]
          show f_X7_answer_J131 (nI q) (nI k) (sI r 56 q (nI V)) = _
          rw [J131, g_far _ _ (by decide)]
        refine ⟨gI r 55 (q * 3 + k), sI r 56 q (nI V), r', ?_, t2, fun ht q' hq' => ?_⟩
        · rw [hA1]
          unfold f_X7_answer_J40
          rw [c3, jq, n0, if_neg hc, eq3, c9, j9]
          show (f_X8_asTheyCame 54 (sI m 55 (q * 3) (-2))).bind _ = _
          rw [u1, some_bind]
          have : q = 0 ∨ q = 1 ∨ q = 2 := by omega
          rcases this with rfl | rfl | rfl
          · show (f_X7_tryRules u).bind _ = _
            rw [show f_X7_tryRules u = some r from t1, some_bind]
            exact J118
          · show (f_X7_tryOrders u).bind _ = _
            rw [show f_X7_tryOrders u = some r from t1, some_bind]
            exact J118
          · show (f_X7_tryTimers u).bind _ = _
            rw [show f_X7_tryTimers u = some r from t1, some_bind]
            exact J118
        · by_cases d : q' = q
          · subst d
            refine ⟨Or.inr ⟨V, Nat.le_refl V, g_hit _ _ _ _⟩, fun _ _ _ _ w hw k' hk' => ?_⟩
            obtain ⟨r2, r2', y1, y2, -⟩ := tryQ_v hq (TB_cong hBu TS.rf (ht.tr hw)) hP hT hT5 h54 h55 hk'
            have e2 : r2 = r := Option.some.inj (y1.symm.trans t1)
            subst e2
            exact ⟨r2', by rw [y2, g_far _ _ (by decide)]⟩
          · have e56 : gI (sI r 56 q (nI V)) 56 q' = gI m 56 q' := by rw [g_off _ _ d, fr.2]
            rw [e56]
            refine ⟨(hH q' hq').1, fun h1 h2 h3 h4 w hw k' hk' => ?_⟩
            obtain ⟨r2, y⟩ := (hH q' hq').2 h1 h2 h3 h4 w (ht.tr hw) k' hk'
            refine ⟨r2, ?_⟩
            rw [y, g_far _ _ (by decide), t3 _ (by omega), u2, if_neg (by omega), g_off _ _ (by omega)]
    · have h5 : ¬ (0 < P ∧ 0 < T) ∨ (q = 1 ∧ 5 < T) := by
        by_cases d : 0 < P ∧ 0 < T
        · right
          by_cases e : q = 1
          · exact ⟨e, Nat.not_le.mp (fun z => c ⟨d, fun _ => z⟩)⟩
          · exact absurd ⟨d, fun z => absurd z e⟩ c
        · exact Or.inl d
      refine ⟨-5, m, m', ?_, rb2 hx h5, keep⟩
      rw [hA0]
      rcases h5 with d | ⟨d1, d2⟩
      · rw [if_neg d]
      · by_cases d : 0 < P ∧ 0 < T
        · rw [if_pos d, if_neg (fun z => z d1), if_neg (show ¬ nI T ≤ (5 : Int32) from nI_ge (a := 5) d2 (by omega))]
        · rw [if_neg d]
