/-! THE LAW'S TEXT: a line, and the lines -/
def lnR (one : Nat → PR) (β : Nat → Nat) (pos : Nat) : Nat ⊕ (Nat × List Nat × Val × Val) := match eiR one β pos with
  | .inl e => .inl e
  | .inr (r, c, v) => if β r = 63 then (match eiR one β (r + 1) with | .inl e => .inl e | .inr (r', d, w) => .inr (r', ((c ++ [20063]) ++ d) ++ [20059], v, w)) else .inr (r, c ++ [20059], fun _ => 1, v)
def txR (one : Nat → PR) (β : Nat → Nat) : Nat → Nat → PR
  | 0, pos => .inl pos
  | f + 1, pos => match lnR one β pos with
    | .inl e => .inl e
    | .inr (r, c, g, w) => if β r = 59 then (match txR one β f (r + 1) with | .inl e => .inl e | .inr (r', d, u) => .inr (r', c ++ d, fun N => if g N = 0 then u N else w N)) else .inr (r, c, fun N => if g N = 0 then 0 else w N)
/-- a row of lines, run to its end -/
def RTx (c : List Nat) (v : Val) : Prop := (∀ N N' : Nat → Int32, (∀ j, j < 8 → N j = N' j) → v N = v N') ∧ ∀ (ag : Nat) (m : Mem) (k CL : Nat), agn ag → k + c.length = CL → CL ≤ 128 → gI m 14 5 = nI CL → (∀ i, i < c.length → gI m (cC m.2.2) (k + i) = nI (c.getD i 0)) → ∃ m', wh (f_X2_value_L35 ag) (0, 0, nI k, m) = some (v (fun j => gI m ag j), m')
def GL (c : List Nat) (g w : Val) : Prop := 0 < c.length ∧ ∀ d u, RTx d u → RTx (c ++ d) (fun N => if g N = 0 then u N else w N)
theorem RTx_nil : RTx [] (fun _ => 0) := by
  refine ⟨fun _ _ _ => rfl, fun ag m k CL hag h1 h2 h3 h4 => ⟨m, wh_done ?_⟩⟩
  have : k = CL := h1
  subst this
  unfold f_X2_value_L35
  dsimp only
  rw [h3, if_pos (nI_le (Nat.le_refl k) (by omega))]
  rfl
theorem end_s {ag top k CL : Nat} {m : Mem} (h1 : k < CL) (h2 : CL ≤ 128) (h0 : top < 128) (h14 : gI m 14 5 = nI CL) (hk : gI m (cC m.2.2) k = nI 20059) : f_X2_value_L35 ag (nI (top + 1), 0, nI k, m) = some (.inr (gI m 16 top, m)) := by
  have v1 : (1 : Int32) ≤ nI (top + 1) := nI_le (a := 1) (by omega) (by omega)
  have et : nI (top + 1) - 1 = nI top := nI_pred top
  rw [L35_s h14 h1 h2 hk (show (20000 : Int32) ≤ nI 20059 by decide)]
  unfold f_X2_value_J122
  rw [if_pos v1, if_neg (show ¬ ¬ nI 20059 = (20059 : Int32) by decide), et, ck_in h0 (by decide), ix_n (by omega)]
  rfl
theorem if_s {ag top k CL : Nat} {m : Mem} (h1 : k < CL) (h2 : CL ≤ 128) (h0 : top < 128) (h14 : gI m 14 5 = nI CL) (hk : gI m (cC m.2.2) k = nI 20063) : f_X2_value_L35 ag (nI (top + 1), 0, nI k, m) = some (.inl (nI top, (if gI m 16 top = 0 then 1 else 0), nI (k + 1), m)) := by
  have v1 : (1 : Int32) ≤ nI (top + 1) := nI_le (a := 1) (by omega) (by omega)
  have et : nI (top + 1) + -1 = nI top := by
    rw [← Int32.sub_eq_add_neg]; exact nI_pred top
  rw [L35_s h14 h1 h2 hk (show (20000 : Int32) ≤ nI 20063 by decide)]
  unfold f_X2_value_J122
  rw [if_pos v1, if_pos (show ¬ nI 20063 = (20059 : Int32) by decide), if_neg (show ¬ ¬ nI 20063 = (20063 : Int32) by decide), et]
  refine bn ?_
  rw [ck_in h0 (by decide), ix_n (by omega)]
  by_cases q : gI m 16 top = 0
  · rw [if_neg (fun z => z q), if_pos q]
    refine bn ?_
    rw [nI_1]
  · rw [if_pos q, if_neg q]
    refine bn ?_
    rw [nI_1]
theorem skip_s {ag k CL x : Nat} {m : Mem} (h1 : k < CL) (h2 : CL ≤ 128) (h14 : gI m 14 5 = nI CL) (hk : gI m (cC m.2.2) k = nI x) (hx : x < 30000) : f_X2_value_L35 ag (0, 1, nI k, m) = some (.inl (0, (if x = 20059 then 0 else 1), nI (k + 1), m)) := by
  unfold f_X2_value_L35
  dsimp only
  rw [h14, if_neg (nI_ge h1 (by omega)), ck_in (by omega) (by decide), ix_n (by omega), hk]
  refine bn ?_
  rw [if_neg (show ¬ (1 : Int32) = 0 by decide)]
  by_cases q : x = 20059
  · subst q
    rw [if_pos (show nI 20059 = (20059 : Int32) from rfl), if_pos rfl]
    refine bn ?_
    rw [nI_1]
  · rw [if_neg (show ¬ nI x = (20059 : Int32) from fun z => q ((eq_nn (a := x) (b := 20059) (by omega) (by decide)).mp z)), if_neg q]
    refine bn ?_
    rw [nI_1]
theorem skip_v {ag CL : Nat} {m : Mem} (h2 : CL ≤ 128) (h14 : gI m 14 5 = nI CL) : ∀ (d : List Nat) k, (∀ x, x ∈ d → x ≠ 20059 ∧ x < 30000) → k + d.length ≤ CL → (∀ i, i < d.length → gI m (cC m.2.2) (k + i) = nI (d.getD i 0)) → wh (f_X2_value_L35 ag) (0, 1, nI k, m) = wh (f_X2_value_L35 ag) (0, 1, nI (k + d.length), m)
  | [], k, _, _, _ => rfl
  | x :: d, k, hx, hl, hc => by
    have hl' : k + (d.length + 1) ≤ CL := hl
    have hx0 := hx x (List.mem_cons_self)
    have h0 := hc 0 (Nat.succ_pos _)
    rw [Nat.add_zero, List.getD_cons_zero] at h0
    have hs := skip_s (ag := ag) (show k < CL by omega) h2 h14 h0 hx0.2
    rw [if_neg hx0.1] at hs
    rw [wh_inl hs, skip_v h2 h14 d (k + 1) (fun y hy => hx y (List.mem_cons_of_mem _ hy)) (by omega) (fun i hi => by
      have := hc (i + 1) (Nat.succ_lt_succ hi)
      rw [List.getD_cons_succ] at this
      rw [Nat.add_assoc, Nat.add_comm 1 i]; exact this)]
    show wh _ (0, 1, nI (k + 1 + d.length), m) = wh _ (0, 1, nI (k + (d.length + 1)), m)
    rw [Nat.add_assoc, Nat.add_comm 1 d.length]
theorem GL_one {c : List Nat} {v : Val} (h : GC c v) : GL (c ++ [20059]) (fun _ => 1) v := by
  obtain ⟨g0, g1, g2, g3⟩ := h
  refine ⟨by rw [List.length_append]; omega, fun d u hd => ⟨fun N N' hN => ?_, fun ag m k CL hag h1 h2 h3 h4 => ?_⟩⟩
  · show (if (1 : Int32) = 0 then u N else v N) = if (1 : Int32) = 0 then u N' else v N'
    rw [if_neg (show ¬ (1 : Int32) = 0 by decide), if_neg (show ¬ (1 : Int32) = 0 by decide)]
    exact g2 N N' hN
  · have hl : ((c ++ [20059]) ++ d).length = c.length + 1 + d.length := by rw [List.length_append, List.length_append]; rfl
    rw [hl] at h1 h4
    obtain ⟨m1, o1, o2, o3, o4, o5⟩ := g3 ag m k 0 CL hag (Nat.zero_le _) (by omega) h2 h3 (fun i hi => by
      rw [h4 i (by omega), getD_app, if_pos (by rw [List.length_append]; omega), getD_app, if_pos hi])
    have hs := h4 c.length (by omega)
    rw [getD_app, if_pos (by rw [List.length_append]; exact Nat.lt_succ_self _), getD_app, if_neg (Nat.lt_irrefl _), Nat.sub_self, List.getD_cons_zero] at hs
    have hk : gI m1 (cC m1.2.2) (k + c.length) = nI 20059 := by rw [o5, o4 _ _ (cC_ne _).1, hs]
    refine ⟨m1, o1.trans ?_⟩
    rw [wh_done (end_s (ag := ag) (top := 0) (show k + c.length < CL by omega) h2 (by decide) (by rw [o4 _ _ (by decide), h3]) hk), o2]
    rfl
theorem GL_two {c d : List Nat} {v w : Val} (h : GC c v) (h' : GC d w) : GL (((c ++ [20063]) ++ d) ++ [20059]) v w := by
  obtain ⟨g0, g1, g2, g3⟩ := h
  obtain ⟨k0, k1, k2, k3⟩ := h'
  refine ⟨by rw [List.length_append]; exact Nat.lt_of_lt_of_le Nat.zero_lt_one (Nat.le_add_left 1 _), fun e u he => ⟨fun N N' hN => ?_, fun ag m k CL hag h1 h2 h3 h4 => ?_⟩⟩
  · show (if v N = 0 then u N else w N) = if v N' = 0 then u N' else w N'
    rw [g2 N N' hN, k2 N N' hN, he.1 N N' hN]
  · have l1 : (c ++ [20063]).length = c.length + 1 := List.length_append
    have l2 : ((c ++ [20063]) ++ d).length = c.length + 1 + d.length := by rw [List.length_append, l1]
    have l3 : (((c ++ [20063]) ++ d) ++ [20059]).length = c.length + 1 + d.length + 1 := by rw [List.length_append, l2]; rfl
    have hl : ((((c ++ [20063]) ++ d) ++ [20059]) ++ e).length = c.length + 1 + d.length + 1 + e.length := by rw [List.length_append, l3]
    rw [hl] at h1 h4
    have a1 : ∀ i, i < c.length → gI m (cC m.2.2) (k + i) = nI (c.getD i 0) := fun i hi => by
      rw [h4 i (by omega), getD_app, if_pos (by omega), getD_app, if_pos (by omega), getD_app, if_pos (by omega), getD_app, if_pos hi]
    have a2 : gI m (cC m.2.2) (k + c.length) = nI 20063 := by
      rw [h4 c.length (by omega), getD_app, if_pos (by omega), getD_app, if_pos (by omega), getD_app, if_pos (by omega), getD_app, if_neg (Nat.lt_irrefl _), Nat.sub_self]; rfl
    have a3 : ∀ i, i < d.length → gI m (cC m.2.2) (k + (c.length + 1) + i) = nI (d.getD i 0) := fun i hi => by
      rw [Nat.add_assoc, h4 (c.length + 1 + i) (by omega), getD_app, if_pos (by omega), getD_app, if_pos (by omega), getD_app, if_neg (by omega), l1, Nat.add_sub_cancel_left]
    have a4 : gI m (cC m.2.2) (k + (c.length + 1 + d.length)) = nI 20059 := by
      rw [h4 (c.length + 1 + d.length) (by omega), getD_app, if_pos (by omega), getD_app, if_neg (by omega), l2, Nat.sub_self]; rfl
    have a5 : ∀ i, i < e.length → gI m (cC m.2.2) (k + (c.length + 1 + d.length + 1) + i) = nI (e.getD i 0) := fun i hi => by
      rw [Nat.add_assoc, h4 (c.length + 1 + d.length + 1 + i) (by omega), getD_app, if_neg (by omega), l3, Nat.add_sub_cancel_left]
    obtain ⟨m1, o1, o2, o3, o4, o5⟩ := g3 ag m k 0 CL hag (Nat.zero_le _) (by omega) h2 h3 a1
    have tr : ∀ i, gI m1 (cC m1.2.2) i = gI m (cC m.2.2) i := fun i => by rw [o5, o4 _ _ (cC_ne _).1]
    have h14 : gI m1 14 5 = nI CL := by rw [o4 _ _ (by decide), h3]
    have hag2 : ag ≠ 16 := by unfold agn at hag; omega
    have sI1 := if_s (ag := ag) (top := 0) (show k + c.length < CL by omega) h2 (by decide) h14 (by rw [tr, a2])
    rw [o2] at sI1
    by_cases q : v (fun j => gI m ag j) = 0
    · rw [if_pos q] at sI1
      have sk := skip_v (ag := ag) h2 h14 d (k + c.length + 1) k1 (by omega) (fun i hi => by rw [tr, Nat.add_assoc k c.length 1]; exact a3 i hi)
      have se := skip_s (ag := ag) (m := m1) (show k + c.length + 1 + d.length < CL by omega) h2 h14 (by rw [tr]; rw [show k + c.length + 1 + d.length = k + (c.length + 1 + d.length) by omega]; exact a4) (by decide)
      rw [if_pos rfl] at se
      obtain ⟨m2, z1⟩ := he.2 ag m1 (k + (c.length + 1 + d.length + 1)) CL hag (by omega) h2 h14 (fun i hi => by rw [tr]; exact a5 i hi)
      refine ⟨m2, o1.trans ((wh_inl sI1).trans (sk.trans ((wh_inl se).trans ?_)))⟩
      rw [show k + c.length + 1 + d.length + 1 = k + (c.length + 1 + d.length + 1) by omega, z1]
      show _ = some ((if v (fun j => gI m ag j) = 0 then u _ else w _), m2)
      rw [if_pos q, show (fun j => gI m1 ag j) = (fun j => gI m ag j) from funext (fun j => o4 ag j hag2)]
    · rw [if_neg q] at sI1
      obtain ⟨m2, p1, p2, p3, p4, p5⟩ := k3 ag m1 (k + c.length + 1) 0 CL hag (Nat.zero_le _) (by omega) h2 h14 (fun i hi => by rw [tr, Nat.add_assoc k c.length 1]; exact a3 i hi)
      have hk : gI m2 (cC m2.2.2) (k + c.length + 1 + d.length) = nI 20059 := by rw [p5, p4 _ _ (cC_ne _).1, tr, show k + c.length + 1 + d.length = k + (c.length + 1 + d.length) by omega]; exact a4
      refine ⟨m2, o1.trans ((wh_inl sI1).trans (p1.trans ?_))⟩
      rw [wh_done (end_s (ag := ag) (top := 0) (show k + c.length + 1 + d.length < CL by omega) h2 (by decide) (by rw [p4 _ _ (by decide), h14]) hk), p2]
      show _ = some ((if v (fun j => gI m ag j) = 0 then u _ else w _), m2)
      rw [if_neg q, show (fun j => gI m1 ag j) = (fun j => gI m ag j) from funext (fun j => o4 ag j hag2)]
/-! what lines keep -/
def GRL (L pos : Nat) (R : Nat ⊕ (Nat × List Nat × Val × Val)) : Prop := match R with
  | .inl e => e ≤ L
  | .inr (r, c, g, w) => pos + c.length ≤ r + 1 ∧ pos < r ∧ r ≤ L ∧ GL c g w
theorem ln_G {L : Nat} {τ : Nat → Nat} {one : Nat → PR} (h : GP L one) {pos : Nat} (hp : pos ≤ L) : GRL L pos (lnR one (bet L τ) pos) := by
  have hE := ei_G (τ := τ) h
  have h1 := hE pos hp
  unfold lnR
  cases hR : eiR one (bet L τ) pos with
  | inl e => rw [hR] at h1; exact h1
  | inr z =>
    obtain ⟨r, c, v⟩ := z
    rw [hR] at h1
    obtain ⟨g1, g2, g3, g4⟩ := h1
    show GRL L pos (if bet L τ r = 63 then _ else _)
    by_cases q : bet L τ r = 63
    · rw [if_pos q]
      have hq := bet_lt (show bet L τ r ≠ 0 by omega)
      have h2 := hE (r + 1) (by omega)
      cases hR2 : eiR one (bet L τ) (r + 1) with
      | inl e => rw [hR2] at h2; exact h2
      | inr z =>
        obtain ⟨r', d, w⟩ := z
        rw [hR2] at h2
        obtain ⟨k1, k2, k3, k4⟩ := h2
        refine ⟨?_, by omega, k3, GL_two g4 k4⟩
        rw [List.length_append, List.length_append, List.length_append]
        show pos + (c.length + 1 + d.length + 1) ≤ r' + 1
        omega
    · rw [if_neg q]
      refine ⟨?_, g2, g3, GL_one g4⟩
      rw [List.length_append]
      show pos + (c.length + 1) ≤ r + 1
      omega
def GRT (L pos : Nat) (R : PR) : Prop := match R with
  | .inl e => e ≤ L
  | .inr (r, c, v) => pos + c.length ≤ r + 1 ∧ 0 < c.length ∧ r ≤ L ∧ RTx c v
theorem tx_G {L : Nat} {τ : Nat → Nat} {one : Nat → PR} (h : GP L one) : ∀ f pos, pos ≤ L → GRT L pos (txR one (bet L τ) f pos)
  | 0, pos, hp => hp
  | f + 1, pos, hp => by
    have h1 := ln_G (τ := τ) h hp
    unfold txR
    cases hR : lnR one (bet L τ) pos with
    | inl e => rw [hR] at h1; exact h1
    | inr z =>
      obtain ⟨r, c, g, w⟩ := z
      rw [hR] at h1
      obtain ⟨g1, g2, g3, g4⟩ := h1
      show GRT L pos (if bet L τ r = 59 then _ else _)
      by_cases q : bet L τ r = 59
      · rw [if_pos q]
        have hq := bet_lt (show bet L τ r ≠ 0 by omega)
        have h2 := tx_G (τ := τ) h f (r + 1) (by omega)
        cases hR2 : txR one (bet L τ) f (r + 1) with
        | inl e => rw [hR2] at h2; exact h2
        | inr z =>
          obtain ⟨r', d, u⟩ := z
          rw [hR2] at h2
          obtain ⟨k1, k2, k3, k4⟩ := h2
          refine ⟨?_, ?_, k3, g4.2 d u k4⟩
          · rw [List.length_append]
            omega
          · rw [List.length_append]
            omega
      · rw [if_neg q]
        have := g4.2 [] (fun _ => 0) RTx_nil
        rw [List.append_nil] at this
        exact ⟨g1, g4.1, g3, this⟩
