/-! THE LAW'S TEXT: read by the class -/
def nx (L : Nat) (τ : Nat → Nat) (q : Nat) : Int32 := if q < L then nI (τ q) else -1
/-- the class's reader stands at a place, no fault so far -/
def TP (L : Nat) (τ : Nat → Nat) (m : Mem) : Prop := gI m 14 2 = nI L ∧ ∀ i, i < L → gI m 15 i = nI (τ i)
def CS (L : Nat) (τ : Nat → Nat) (m : Mem) (pos dl : Nat) : Prop := TP L τ m ∧ gI m 14 7 = nI pos ∧ gI m 14 8 = -1 ∧ gI m 14 6 = nI dl ∧ dl ≤ pos ∧ pos ≤ L
/-- .. or behind a fault -/
def CF (L : Nat) (τ : Nat → Nat) (B : Nat) (m : Mem) (e : Nat) : Prop := TP L τ m ∧ gI m 14 8 = nI e ∧ e ≤ L ∧ (∃ p, p ≤ B ∧ gI m 14 7 = nI p) ∧ ∃ d, d ≤ 128 ∧ gI m 14 6 = nI d
def CK (m n : Mem) : Prop := n.2.2 = m.2.2 ∧ (∀ c i, c ≠ cD m.2.2 → c ≠ 14 → gI n c i = gI m c i) ∧ ∀ i, i ≠ 6 → i ≠ 7 → i ≠ 8 → gI n 14 i = gI m 14 i
def CR (L : Nat) (τ : Nat → Nat) (B : Nat) (m n : Mem) (dl : Nat) (R : PR) : Prop := match R with
  | .inl e => CF L τ B n e
  | .inr (r, c, _) => CS L τ n r (dl + c.length) ∧ (∀ i, i < c.length → gI n (cD m.2.2) (dl + i) = nI (c.getD i 0)) ∧ ∀ i, i < dl → gI n (cD m.2.2) i = gI m (cD m.2.2) i
def CSp (L : Nat) (τ : Nat → Nat) (B : Nat) (f : Mem → Option Mem) (P : Nat → PR) : Prop := ∀ m pos dl, CS L τ m pos dl → ∃ n, f m = some n ∧ CK m n ∧ CR L τ B m n dl (P pos)
theorem CK.rf {m : Mem} : CK m m := ⟨rfl, fun _ _ _ _ => rfl, fun _ _ _ _ => rfl⟩
theorem CK.tr {m n q : Mem} (h : CK m n) (k : CK n q) : CK m q := ⟨k.1.trans h.1, fun c i h1 h2 => (k.2.1 c i (by rw [h.1]; exact h1) h2).trans (h.2.1 c i h1 h2), fun i a b c => (k.2.2 i a b c).trans (h.2.2 i a b c)⟩
theorem cD_v (b : Bool) : (cD b = 17 ∨ cD b = 18) ∧ cD b ≠ 14 ∧ cD b ≠ 15 := by cases b <;> decide
theorem next_t {L : Nat} {τ : Nat → Nat} {m : Mem} {p : Nat} (hL : L ≤ 120) (h : TP L τ m) (hp : gI m 14 7 = nI p) (hp2 : p < 2 ^ 31) : f_X2_next m = some (nx L τ p, m) := by
  unfold f_X2_next nx
  rw [h.1, hp]
  by_cases c : p < L
  · rw [if_neg (nI_ge c (by omega)), if_neg (show ¬ (120 : Int32) ≤ nI p from nI_ge (b := 120) (by omega) (by decide)), ck_in (by omega) (by decide), ix_n hp2, h.2 p c, if_pos c]
  · rw [if_pos (nI_le (by omega) hp2), if_neg c]
theorem nx_eq {L : Nat} {τ : Nat → Nat} (hτ : ∀ i, i < L → τ i ≤ 255) {q c : Nat} (hc : 0 < c) (hc2 : c < 1000) : nx L τ q = nI c ↔ bet L τ q = c := by
  unfold nx bet
  by_cases h : q < L
  · rw [if_pos h, if_pos h]
    have := hτ q h
    exact eq_nn (by omega) (by omega)
  · rw [if_neg h, if_neg h]
    refine ⟨fun z => ?_, fun z => by omega⟩
    have := congrArg Int32.toInt z
    rw [nI_toInt (by omega)] at this
    change (-1 : Int) = _ at this
    omega
theorem TP_14 {L : Nat} {τ : Nat → Nat} {m : Mem} (h : TP L τ m) {i : Nat} (hi : i ≠ 2) (x : Int32) : TP L τ (sI m 14 i x) := ⟨by rw [g_off _ _ (fun e => hi e.symm)]; exact h.1, fun j hj => by rw [g_far _ _ (by decide)]; exact h.2 j hj⟩
theorem CK_14 {m : Mem} {i : Nat} (hi : i = 6 ∨ i = 7 ∨ i = 8) (x : Int32) : CK m (sI m 14 i x) := ⟨rfl, fun c j _ h2 => g_far _ _ h2, fun j a b c => g_off _ _ (by omega)⟩
theorem emit_v {L : Nat} {τ : Nat → Nat} {m : Mem} {d : Nat} (hT : TP L τ m) (h6 : gI m 14 6 = nI d) (hd : d < 128) (x : Int32) : ∃ n, f_X2_emit x m = some n ∧ CK m n ∧ TP L τ n ∧ gI n 14 6 = nI (d + 1) ∧ gI n 14 7 = gI m 14 7 ∧ gI n 14 8 = gI m 14 8 ∧ gI n (cD m.2.2) d = x ∧ ∀ i, i ≠ d → gI n (cD m.2.2) i = gI m (cD m.2.2) i := by
  obtain ⟨v1, v2, v3⟩ := cD_v m.2.2
  refine ⟨sI (sI m (cD m.2.2) d x) 14 6 (nI (d + 1)), ?_, ?_, ⟨?_, fun i hi => ?_⟩, g_hit _ _ _ _, ?_, ?_, ?_, fun i hi => ?_⟩
  · unfold f_X2_emit
    rw [h6, if_neg (show ¬ (128 : Int32) ≤ nI d from nI_ge (b := 128) hd (by decide)), ck_in hd (by decide), ix_n (by omega)]
    refine bn ?_
    rw [g_far _ _ (fun e => v2 e.symm), h6, nI_1]
    rfl
  · exact ⟨rfl, fun c i h1 h2 => by rw [g_far _ _ h2, g_far _ _ h1], fun i a b c => by rw [g_off _ _ a, g_far _ _ (fun e => v2 e.symm)]⟩
  · rw [g_off _ _ (by decide), g_far _ _ (fun e => v2 e.symm)]; exact hT.1
  · rw [g_far _ _ (by decide), g_far _ _ (fun e => v3 e.symm)]; exact hT.2 i hi
  · rw [g_off _ _ (by decide), g_far _ _ (fun e => v2 e.symm)]
  · rw [g_off _ _ (by decide), g_far _ _ (fun e => v2 e.symm)]
  · rw [g_far _ _ v2, g_hit]
  · rw [g_far _ _ v2, g_off _ _ hi]
/-- a sign behind a fault -/
theorem emit_f {L B e : Nat} {τ : Nat → Nat} {m : Mem} (h : CF L τ B m e) (x : Int32) : ∃ n, f_X2_emit x m = some n ∧ CK m n ∧ CF L τ B n e := by
  obtain ⟨hT, h8, he, ⟨p, hp, h7⟩, d, hd, h6⟩ := h
  by_cases c : d < 128
  · obtain ⟨n, o1, o2, o3, o4, o5, o6, -⟩ := emit_v hT h6 c x
    exact ⟨n, o1, o2, o3, o6.trans h8, he, ⟨p, hp, o5.trans h7⟩, d + 1, by omega, o4⟩
  · have : d = 128 := by omega
    subst this
    refine ⟨m, ?_, CK.rf, hT, h8, he, ⟨p, hp, h7⟩, 128, hd, h6⟩
    unfold f_X2_emit
    rw [h6, if_pos (show (128 : Int32) ≤ nI 128 by decide)]
/-- a sign behind an operand -/
theorem emit_c {L dl pos0 q : Nat} {τ : Nat → Nat} {m0 m : Mem} {c : List Nat} (hL : L ≤ 120) (h0 : m.2.2 = m0.2.2) (h : CS L τ m q (dl + c.length)) (hc : ∀ i, i < c.length → gI m (cD m0.2.2) (dl + i) = nI (c.getD i 0)) (hb : ∀ i, i < dl → gI m (cD m0.2.2) i = gI m0 (cD m0.2.2) i) (hq : dl + c.length + 1 ≤ q) (x : Nat) (hp : pos0 = pos0) : ∃ n, f_X2_emit (nI x) m = some n ∧ CK m n ∧ CS L τ n q (dl + (c ++ [x]).length) ∧ (∀ i, i < (c ++ [x]).length → gI n (cD m0.2.2) (dl + i) = nI ((c ++ [x]).getD i 0)) ∧ ∀ i, i < dl → gI n (cD m0.2.2) i = gI m0 (cD m0.2.2) i := by
  obtain ⟨hT, h7, h8, h6, h9, h10⟩ := h
  obtain ⟨n, o1, o2, o3, o4, o5, o6, o7, o8⟩ := emit_v hT h6 (by omega) (nI x)
  rw [h0] at o7 o8
  have hl : (c ++ [x]).length = c.length + 1 := List.length_append
  refine ⟨n, o1, o2, ⟨o3, o5.trans h7, o6.trans h8, by rw [hl]; exact o4, by rw [hl]; omega, h10⟩, fun i hi => ?_, fun i hi => by rw [o8 i (by omega), hb i hi]⟩
  rw [hl] at hi
  rw [getD_app]
  by_cases e : i < c.length
  · rw [if_pos e, o8 _ (by omega), hc i e]
  · have : i = c.length := by omega
    subst this
    rw [if_neg e, Nat.sub_self, o7]
    rfl
/-- the loop behind an operand: a class's body that does one turn -/
theorem lp_C {L B : Nat} {τ : Nat → Nat} (hL : L ≤ 120) {sub : Nat → PR} {fs : Mem → Option Mem} (hs : CSp L τ B fs sub) (hB : 120 ≤ B) {ops : Nat → Bool} (hops : ∀ c, ops c = true → isO c) {body : (Int32 × Int32 × Mem) → Option ((Int32 × Int32 × Mem) ⊕ Mem)} {p1 : Int32} {F : Nat} (hF : F < 1000)
    (hend : ∀ m, body (p1, nI F, m) = some (.inr m))
    (hstop : ∀ i m e, CF L τ B m e → i < F → body (p1, nI i, m) = some (.inr m))
    (hno : ∀ i m q dl, i < F → CS L τ m q dl → ops (bet L τ q) = false → body (p1, nI i, m) = some (.inr m))
    (hgo : ∀ i m q dl, i < F → CS L τ m q dl → ops (bet L τ q) = true → body (p1, nI i, m) = (fs (sI m 14 7 (nI (q + 1)))).bind (fun q5 => (f_X2_emit (nI (20000 + bet L τ q)) q5).bind (fun q6 => some (.inl (p1, nI (i + 1), q6))))) :
    ∀ f i m0 m q dl c v, i + f = F → CS L τ m q (dl + c.length) → m.2.2 = m0.2.2 → (∀ j, j < c.length → gI m (cD m0.2.2) (dl + j) = nI (c.getD j 0)) → (∀ j, j < dl → gI m (cD m0.2.2) j = gI m0 (cD m0.2.2) j) → (∀ pos, pos ≤ L → GR L pos (sub pos)) → ∃ n, wh body (p1, nI i, m) = some n ∧ CK m n ∧ CR L τ B m0 n dl (lpR sub ops (bet L τ) f q c v) := by
  intro f
  induction f with
  | zero =>
    intro i m0 m q dl c v e h h0 h1 h2 hG
    have : i = F := by omega
    subst this
    exact ⟨m, wh_done (hend m), CK.rf, h, h1, h2⟩
  | succ f ih =>
    intro i m0 m q dl c v e h h0 h1 h2 hG
    have h' := h
    obtain ⟨hT, h7, h8, h6, h9, h10⟩ := h
    unfold lpR
    cases ho : ops (bet L τ q)
    · rw [if_neg (by decide)]
      exact ⟨m, wh_done (hno i m q _ (by omega) h' ho), CK.rf, h', h1, h2⟩
    · rw [if_pos rfl]
      have hq := bet_lt (isO_nz (hops _ ho))
      have hg := hgo i m q _ (by omega) h' ho
      have hG1 := hG (q + 1) (by omega)
      obtain ⟨n1, a1, a2, a3⟩ := hs (sI m 14 7 (nI (q + 1))) (q + 1) (dl + c.length) ⟨TP_14 hT (by decide) _, g_hit _ _ _ _, by rw [g_off _ _ (by decide), h8], by rw [g_off _ _ (by decide), h6], by omega, by omega⟩
      have k1 : CK m n1 := (CK_14 (Or.inr (Or.inl rfl)) _).tr a2
      rw [a1, some_bind] at hg
      cases hR : sub (q + 1) with
      | inl e1 =>
        rw [hR] at a3
        obtain ⟨n2, b1, b2, b3⟩ := emit_f (show CF L τ B n1 e1 from a3) (nI (20000 + bet L τ q))
        rw [b1, some_bind] at hg
        refine ⟨n2, (wh_inl hg).trans ?_, k1.tr b2, b3⟩
        by_cases c' : i + 1 < F
        · exact wh_done (hstop (i + 1) n2 e1 b3 c')
        · have : i + 1 = F := by omega
          rw [this]
          exact wh_done (hend n2)
      | inr z =>
        obtain ⟨r, d, w⟩ := z
        rw [hR] at a3 hG1
        obtain ⟨a4, a5, a6⟩ := a3
        obtain ⟨g1, g2, g3, g4⟩ := hG1
        have ef : (sI m 14 7 (nI (q + 1))).2.2 = m0.2.2 := h0
        rw [show cD (sI m 14 7 (nI (q + 1))).2.2 = cD m0.2.2 by rw [ef]] at a5 a6
        have hD14 := (cD_v m0.2.2).2.1
        have hcd : ∀ j, j < (c ++ d).length → gI n1 (cD m0.2.2) (dl + j) = nI ((c ++ d).getD j 0) := fun j hj => by
          rw [List.length_append] at hj
          rw [getD_app]
          by_cases e : j < c.length
          · rw [if_pos e, a6 _ (by omega), g_far _ _ hD14, h1 j e]
          · rw [if_neg e]
            have := a5 (j - c.length) (by omega)
            rw [show dl + c.length + (j - c.length) = dl + j by omega] at this
            exact this
        have e0 : n1.2.2 = m0.2.2 := a2.1.trans ef
        obtain ⟨n2, b1, b2, b3, b4, b5⟩ := emit_c (pos0 := 0) (dl := dl) (c := c ++ d) hL e0 (by rw [List.length_append, ← Nat.add_assoc]; exact a4) hcd (fun j hj => by rw [a6 _ (by omega), g_far _ _ hD14, h2 j hj]) (by rw [List.length_append]; omega) (20000 + bet L τ q) rfl
        rw [b1, some_bind] at hg
        rw [List.append_assoc] at b3 b4
        obtain ⟨n, z1, z2, z3⟩ := ih (i + 1) m0 n2 r dl (c ++ (d ++ [20000 + bet L τ q])) (fun N => jn (bet L τ q) (v N) (w N)) (by omega) b3 (b2.1.trans e0) b4 b5 hG
        exact ⟨n, (wh_inl hg).trans z1, k1.tr (b2.tr z2), z3⟩
