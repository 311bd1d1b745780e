/-! THE LAW'S TEXT: read by the reference -/
def XB (b : Bool) (L : Nat) (τ : Nat → Nat) (N : Nat → Int32) (n : Mem) : Prop := gI n 85 22 = nI L ∧ gI n 85 20 = (if b then 0 else -1) ∧ (∀ i, i < L → gI n (if b then 95 else 94) i = nI (τ i)) ∧ ∀ j, gI n 96 j = N j
def XP (b : Bool) (L : Nat) (τ : Nat → Nat) (N : Nat → Int32) (n : Mem) (p : Nat) : Prop := XB b L τ N n ∧ gI n 85 21 = nI p ∧ p ≤ L
def XS (b : Bool) (L : Nat) (τ : Nat → Nat) (N : Nat → Int32) (k : Nat) (n : Mem) (p : Nat) : Prop := XP b L τ N n p ∧ gI n 85 23 = -1 ∧ gI n 85 24 = nI (6 - k)
def XF (b : Bool) (L : Nat) (τ : Nat → Nat) (N : Nat → Int32) (n : Mem) (e : Nat) : Prop := (∃ p, XP b L τ N n p) ∧ gI n 85 23 = nI e ∧ e ≤ L
def XK (m n : Mem) : Prop := (∀ c i, c ≠ 85 → gI n c i = gI m c i) ∧ ∀ i, i ≠ 21 → i ≠ 23 → i ≠ 24 → gI n 85 i = gI m 85 i
def XR (b : Bool) (L : Nat) (τ : Nat → Nat) (N : Nat → Int32) (k : Nat) (n : Mem) (x : Int32) (R : PR) : Prop := match R with
  | .inl e => XF b L τ N n e
  | .inr (r, _, v) => XS b L τ N k n r ∧ x = v N
def XSp (b : Bool) (L : Nat) (τ : Nat → Nat) (N : Nat → Int32) (k : Nat) (f : Mem → Option (Int32 × Mem)) (P : Nat → PR) : Prop := ∀ m q, XS b L τ N k m q → ∃ x n, f m = some (x, n) ∧ XK m n ∧ XR b L τ N k n x (P q)
theorem XK.rf {m : Mem} : XK m m := ⟨fun _ _ _ => rfl, fun _ _ _ _ => rfl⟩
theorem XK.tr {m n q : Mem} (h : XK m n) (k : XK n q) : XK m q := ⟨fun c i h1 => (k.1 c i h1).trans (h.1 c i h1), fun i a b c => (k.2 i a b c).trans (h.2 i a b c)⟩
theorem XK_s {m : Mem} {i : Nat} (hi : i = 21 ∨ i = 23 ∨ i = 24) (x : Int32) : XK m (sI m 85 i x) := ⟨fun c j h => g_far _ _ h, fun j a b c => g_off _ _ (by omega)⟩
theorem XB.k {b : Bool} {L : Nat} {τ : Nat → Nat} {N : Nat → Int32} {m n : Mem} (h : XB b L τ N m) (k : XK m n) : XB b L τ N n := ⟨(k.2 22 (by decide) (by decide) (by decide)).trans h.1, (k.2 20 (by decide) (by decide) (by decide)).trans h.2.1, fun i hi => (k.1 _ i (by cases b <;> decide)).trans (h.2.2.1 i hi), fun j => (k.1 96 j (by decide)).trans (h.2.2.2 j)⟩
theorem XS.p {b : Bool} {L : Nat} {τ : Nat → Nat} {N : Nat → Int32} {k q : Nat} {m : Mem} (h : XS b L τ N k m q) (hq : q < L) : XS b L τ N k (sI m 85 21 (nI (q + 1))) (q + 1) := ⟨⟨h.1.1.k (XK_s (Or.inl rfl) _), g_hit _ _ _ _, hq⟩, by rw [g_off _ _ (by decide)]; exact h.2.1, by rw [g_off _ _ (by decide)]; exact h.2.2⟩
theorem byteAt_v {b : Bool} {L p : Nat} {τ : Nat → Nat} {N : Nat → Int32} {m : Mem} (hL : L ≤ 120) (h : XP b L τ N m p) : f_X9_byteAt m = some (nI (bet L τ p), m) := by
  obtain ⟨⟨h22, h20, hb, -⟩, h21, hp⟩ := h
  unfold f_X9_byteAt bet
  rw [h22, h21, h20]
  by_cases c : p < L
  · rw [if_neg (nI_ge c (by omega)), if_pos c]
    have hc := hb p c
    cases b
    · rw [if_neg (show ¬ (0 : Int32) ≤ (if false = true then 0 else -1) by decide), ck_in (by omega) (by decide), ix_n (by omega)]
      rw [show gI m 94 p = nI (τ p) from hc]
    · rw [if_pos (show (0 : Int32) ≤ (if true = true then 0 else -1) by decide), show (if true = true then (0 : Int32) else -1) + nI p = nI p from by show 0 + nI p = nI p; rw [Int32.zero_add], ck_in (by omega) (by decide), ix_n (by omega)]
      rw [show gI m 95 p = nI (τ p) from hc]
  · rw [if_pos (nI_le (by omega) (by omega)), if_neg c]
    rfl
theorem XF.n {b : Bool} {L e : Nat} {τ : Nat → Nat} {N : Nat → Int32} {m : Mem} (hL : L ≤ 120) (h : XF b L τ N m e) : 0 ≤ gI m 85 23 := by
  rw [h.2.1]; exact nn_0le (by have := h.2.2; omega)
theorem XS.n {b : Bool} {L k q : Nat} {τ : Nat → Nat} {N : Nat → Int32} {m : Mem} (h : XS b L τ N k m q) : ¬ 0 ≤ gI m 85 23 := by
  rw [h.2.1]; decide
theorem bet_le {L q : Nat} {τ : Nat → Nat} (hτ : ∀ i, i < L → τ i ≤ 255) : bet L τ q ≤ 255 := by
  unfold bet
  by_cases c : q < L
  · rw [if_pos c]; exact hτ q c
  · rw [if_neg c]; omega
theorem be_t {L q c : Nat} {τ : Nat → Nat} {C : Int32} (hC : C = nI c) (h : bet L τ q = c) : nI (bet L τ q) = C := by rw [h, hC]
theorem be_f {L q c : Nat} {τ : Nat → Nat} {C : Int32} (hτ : ∀ i, i < L → τ i ≤ 255) (hC : C = nI c) (hc : c < 1000) (h : bet L τ q ≠ c) : ¬ nI (bet L τ q) = C := fun z => h ((eq_nn (by have := bet_le (q := q) hτ; omega) (by omega)).mp (by rw [← hC]; exact z))
theorem takes_f {b : Bool} {L e : Nat} {τ : Nat → Nat} {N : Nat → Int32} {m : Mem} (hL : L ≤ 120) (h : XF b L τ N m e) (p : Int32) : f_X9_takes p m = some (0, m) := by
  unfold f_X9_takes
  rw [if_pos (h.n hL), bz_0]
theorem takes_t {b : Bool} {L k q c : Nat} {τ : Nat → Nat} {N : Nat → Int32} {m : Mem} (hL : L ≤ 120) (h : XS b L τ N k m q) {C : Int32} (hC : C = nI c) (hb : bet L τ q = c) : f_X9_takes C m = some (1, sI m 85 21 (nI (q + 1))) := by
  unfold f_X9_takes
  rw [if_neg h.n]
  refine bs (byteAt_v hL h.1) ?_
  dsimp only
  rw [if_pos (be_t hC hb), h.1.2.1, nI_1]
  exact bn bz_1
theorem takes_n {b : Bool} {L k q c : Nat} {τ : Nat → Nat} {N : Nat → Int32} {m : Mem} (hL : L ≤ 120) (hτ : ∀ i, i < L → τ i ≤ 255) (h : XS b L τ N k m q) {C : Int32} (hC : C = nI c) (hc : c < 1000) (hb : bet L τ q ≠ c) : f_X9_takes C m = some (0, m) := by
  unfold f_X9_takes
  rw [if_neg h.n]
  refine bs (byteAt_v hL h.1) ?_
  dsimp only
  rw [if_neg (be_f hτ hC hc hb), bz_0]
theorem wrong_s {b : Bool} {L k q : Nat} {τ : Nat → Nat} {N : Nat → Int32} {m : Mem} (h : XS b L τ N k m q) : f_X9_wrong m = some (0, sI m 85 23 (nI q)) ∧ XF b L τ N (sI m 85 23 (nI q)) q := by
  refine ⟨?_, ⟨q, h.1.1.k (XK_s (Or.inr (Or.inl rfl)) _), by rw [g_off _ _ (by decide)]; exact h.1.2.1, h.1.2.2⟩, g_hit _ _ _ _, h.1.2.2⟩
  unfold f_X9_wrong
  rw [if_neg h.n, h.1.2.1]
  rfl
theorem wrong_f {b : Bool} {L e : Nat} {τ : Nat → Nat} {N : Nat → Int32} {m : Mem} (hL : L ≤ 120) (h : XF b L τ N m e) : f_X9_wrong m = some (0, sI m 85 23 (nI e)) ∧ XF b L τ N (sI m 85 23 (nI e)) e := by
  obtain ⟨⟨p, a1, a2, a3⟩, h2, h3⟩ := h
  refine ⟨?_, ⟨p, a1.k (XK_s (Or.inr (Or.inl rfl)) _), by rw [g_off _ _ (by decide)]; exact a2, a3⟩, g_hit _ _ _ _, h3⟩
  unfold f_X9_wrong
  rw [h2, if_pos (nn_0le (by omega))]
  rfl
/-- the loop behind an operand -/
theorem lp_X {b : Bool} {L k : Nat} {τ : Nat → Nat} {N : Nat → Int32} {sub : Nat → PR} {fs : Mem → Option (Int32 × Mem)} (hs : XSp b L τ N k fs sub) (hG : GP L sub) {ops : Nat → Bool} (hops : ∀ c, ops c = true → isO c) {S : Type} {body : S → Option (S ⊕ (Int32 × Mem))} {mk : Int32 → Nat → Mem → S}
    (hflt : ∀ x n p e, XF b L τ N n e → XP b L τ N n p → wh body (mk x p n) = some (x, n))
    (hno : ∀ x n q, XS b L τ N k n q → ops (bet L τ q) = false → wh body (mk x q n) = some (x, n))
    (hgo : ∀ x n q y n1 p, XS b L τ N k n q → ops (bet L τ q) = true → fs (sI n 85 21 (nI (q + 1))) = some (y, n1) → XP b L τ N n1 p → body (mk x q n) = some (.inl (mk (jn (bet L τ q) x y) p n1))) :
    ∀ f n q x c v, L ≤ q + f → XS b L τ N k n q → x = v N → ∃ y n1, wh body (mk x q n) = some (y, n1) ∧ XK n n1 ∧ XR b L τ N k n1 y (lpR sub ops (bet L τ) f q c v)
  | 0, n, q, x, c, v, hf, h, hx => by
    refine ⟨x, n, hno x n q h ?_, XK.rf, h, hx⟩
    cases ho : ops (bet L τ q)
    · rfl
    · have := bet_lt (isO_nz (hops _ ho)); omega
  | f + 1, n, q, x, c, v, hf, h, hx => by
    unfold lpR
    cases ho : ops (bet L τ q)
    · rw [if_neg (by decide)]
      exact ⟨x, n, hno x n q h ho, XK.rf, h, hx⟩
    · rw [if_pos rfl]
      have hq := bet_lt (isO_nz (hops _ ho))
      have hg := hG (q + 1) (by omega)
      obtain ⟨y, n1, a1, a2, a3⟩ := hs _ _ (h.p hq)
      have k1 : XK n n1 := (XK_s (Or.inl rfl) _).tr a2
      cases hR : sub (q + 1) with
      | inl e =>
        rw [hR] at a3
        obtain ⟨p, hp⟩ := (show XF b L τ N n1 e from a3).1
        exact ⟨_, n1, (wh_inl (hgo x n q y n1 p h ho a1 hp)).trans (hflt _ n1 p e a3 hp), k1, a3⟩
      | inr z =>
        obtain ⟨r, d, w⟩ := z
        rw [hR] at a3 hg
        obtain ⟨b1, b2⟩ := (show XS b L τ N k n1 r ∧ y = w N from a3)
        obtain ⟨g1, g2, g3, -⟩ := hg
        obtain ⟨y2, n2, c1, c2, c3⟩ := lp_X hs hG hops hflt hno hgo f n1 r (jn (bet L τ q) x y) (c ++ (d ++ [20000 + bet L τ q])) (fun N => jn (bet L τ q) (v N) (w N)) (by omega) b1 (by rw [hx, b2])
        exact ⟨y2, n2, (wh_inl (hgo x n q y n1 r h ho a1 b1.1)).trans c1, k1.tr c2, c3⟩
theorem product_X {b : Bool} {L k : Nat} {τ : Nat → Nat} {N : Nat → Int32} (hL : L ≤ 120) (hτ : ∀ i, i < L → τ i ≤ 255) {one : Nat → PR} {rc : Mem → Option (Int32 × Mem)} (hs : XSp b L τ N k rc one) (hG : GP L one) : XSp b L τ N k (f_X9_product rc) (prR one (bet L τ)) := by
  intro m q h
  have hg := hG q h.1.2.2
  obtain ⟨x, n, a1, a2, a3⟩ := hs m q h
  have hflt : ∀ (x : Int32) n p e, XF b L τ N n e → XP b L τ N n p → wh (f_X9_product_L10 rc) (x, nI (bet L τ p), n) = some (x, n) := fun x n p e hf hp => wh_up (by
    unfold f_X9_product_L10
    dsimp only
    rw [if_pos (hf.n hL)])
  unfold f_X9_product prR lvR
  rw [a1, some_bind]
  cases hR : one q with
  | inl e =>
    rw [hR] at a3
    obtain ⟨p, hp⟩ := (show XF b L τ N n e from a3).1
    refine ⟨x, n, bs (byteAt_v hL hp) ?_, a2, a3⟩
    exact hflt x n p e a3 hp
  | inr z =>
    obtain ⟨r, c, v⟩ := z
    rw [hR] at a3 hg
    obtain ⟨b1, b2⟩ := (show XS b L τ N k n r ∧ x = v N from a3)
    have hlp := lp_X (S := Int32 × Int32 × Mem) (body := f_X9_product_L10 rc) (mk := fun x q n => (x, nI (bet L τ q), n)) hs hG (ops := opP) (fun _ => opP_O) hflt (fun x n q hx ho => wh_up (by
      have hno := of_decide_eq_false ho
      unfold f_X9_product_L10
      dsimp only
      rw [if_neg hx.n, if_neg (be_f (c := 42) (C := (42 : Int32)) hτ rfl (by decide) (by omega)), if_neg (be_f (c := 47) (C := (47 : Int32)) hτ rfl (by decide) (by omega)), if_pos (be_f (c := 37) (C := (37 : Int32)) hτ rfl (by decide) (by omega))])) (fun x n q y n1 p hx ho ha hp => by
      have hyes := of_decide_eq_true ho
      have hb := byteAt_v hL hp
      have hJ : f_X9_product_J35 rc x (nI (bet L τ q)) n = some (.inl (jn (bet L τ q) x y, nI (bet L τ p), n1)) := by
        unfold f_X9_product_J35
        rw [hx.1.2.1, nI_1]
        refine bn (bs ha ?_)
        dsimp only
        unfold jn
        by_cases d0 : bet L τ q = 42
        · rw [d0, if_neg (fun z => z rfl), hb]; rfl
        · rw [if_pos (be_f (c := 42) (C := (42 : Int32)) hτ rfl (by decide) d0)]
          by_cases y0 : y = 0
          · rw [if_neg (fun z => z y0), hb]
            by_cases d1 : bet L τ q = 47
            · rw [d1]; show _ = some (Sum.inl ((if y = 0 then 0 else x / y), _, n1)); rw [if_pos y0]; rfl
            · rw [show bet L τ q = 37 by omega]; show _ = some (Sum.inl ((if y = 0 then 0 else x - x / y * y), _, n1)); rw [if_pos y0]; rfl
          · rw [if_pos y0]
            by_cases d1 : bet L τ q = 47
            · rw [d1, if_neg (fun z => z rfl)]
              unfold dv
              rw [if_neg y0, hb]
              show _ = some (Sum.inl ((if y = 0 then 0 else x / y), _, n1))
              rw [if_neg y0]; rfl
            · rw [if_pos (be_f (c := 47) (C := (47 : Int32)) hτ rfl (by decide) d1), show bet L τ q = 37 by omega]
              unfold dv
              rw [if_neg y0, hb]
              show _ = some (Sum.inl ((if y = 0 then 0 else x - x / y * y), _, n1))
              rw [if_neg y0]; rfl
      unfold f_X9_product_L10
      dsimp only
      rw [if_neg hx.n]
      by_cases d0 : bet L τ q = 42
      · rw [if_pos (be_t (C := (42 : Int32)) rfl d0)]; exact hJ
      · rw [if_neg (be_f (c := 42) (C := (42 : Int32)) hτ rfl (by decide) d0)]
        by_cases d1 : bet L τ q = 47
        · rw [if_pos (be_t (C := (47 : Int32)) rfl d1)]; exact hJ
        · rw [if_neg (be_f (c := 47) (C := (47 : Int32)) hτ rfl (by decide) d1), if_neg (fun z => z (be_t (C := (37 : Int32)) rfl (show bet L τ q = 37 by omega)))]; exact hJ) 120 n r x c v (by omega) b1 b2
    obtain ⟨y, n1, c1, c2, c3⟩ := hlp
    exact ⟨y, n1, bs (byteAt_v hL b1.1) c1, a2.tr c2, c3⟩
theorem sums_X {b : Bool} {L k : Nat} {τ : Nat → Nat} {N : Nat → Int32} (hL : L ≤ 120) (hτ : ∀ i, i < L → τ i ≤ 255) {one : Nat → PR} {rc : Mem → Option (Int32 × Mem)} (hs : XSp b L τ N k (f_X9_product rc) (prR one (bet L τ))) (hG : GP L (prR one (bet L τ))) : XSp b L τ N k (f_X9_sums rc) (suR one (bet L τ)) := by
  intro m q h
  have hg := hG q h.1.2.2
  obtain ⟨x, n, a1, a2, a3⟩ := hs m q h
  have hflt : ∀ (x : Int32) n p e, XF b L τ N n e → XP b L τ N n p → wh (f_X9_sums_L5 rc) (x, n) = some (x, n) := fun x n p e hf hp => wh_up (by
    unfold f_X9_sums_L5
    dsimp only
    rw [if_pos (hf.n hL)])
  unfold f_X9_sums suR lvR
  rw [a1, some_bind]
  cases hR : prR one (bet L τ) q with
  | inl e =>
    rw [hR] at a3
    obtain ⟨p, hp⟩ := (show XF b L τ N n e from a3).1
    exact ⟨x, n, hflt x n p e a3 hp, a2, a3⟩
  | inr z =>
    obtain ⟨r, c, v⟩ := z
    rw [hR] at a3 hg
    obtain ⟨b1, b2⟩ := (show XS b L τ N k n r ∧ x = v N from a3)
    have hlp := lp_X (S := Int32 × Mem) (body := f_X9_sums_L5 rc) (mk := fun x _ n => (x, n)) hs hG (ops := opS) (fun _ => opS_O) hflt (fun x n q hx ho => wh_up (by
      have hno := of_decide_eq_false ho
      unfold f_X9_sums_L5
      dsimp only
      rw [if_neg hx.n]
      refine bs (byteAt_v hL hx.1) ?_
      dsimp only
      rw [if_neg (be_f (c := 43) (C := (43 : Int32)) hτ rfl (by decide) (by omega))]
      refine bs (byteAt_v hL hx.1) ?_
      dsimp only
      rw [if_pos (be_f (c := 45) (C := (45 : Int32)) hτ rfl (by decide) (by omega))])) (fun x n q y n1 p hx ho ha hp => by
      have hyes := of_decide_eq_true ho
      have hJ : f_X9_sums_J30 rc x n = some (.inl (jn (bet L τ q) x y, n1)) := by
        unfold f_X9_sums_J30
        refine bs (byteAt_v hL hx.1) ?_
        dsimp only
        unfold f_X9_sums_J44
        rw [hx.1.2.1, nI_1]
        by_cases d0 : bet L τ q = 43
        · rw [if_neg (fun z => z (be_t (C := (43 : Int32)) rfl d0)), d0]
          refine bn (bs ha ?_)
          rfl
        · rw [if_pos (be_f (c := 43) (C := (43 : Int32)) hτ rfl (by decide) d0), show bet L τ q = 45 by omega]
          refine bn (bs ha ?_)
          rfl
      unfold f_X9_sums_L5
      dsimp only
      rw [if_neg hx.n]
      refine bs (byteAt_v hL hx.1) ?_
      dsimp only
      by_cases d0 : bet L τ q = 43
      · rw [if_pos (be_t (C := (43 : Int32)) rfl d0)]; exact hJ
      · rw [if_neg (be_f (c := 43) (C := (43 : Int32)) hτ rfl (by decide) d0)]
        refine bs (byteAt_v hL hx.1) ?_
        dsimp only
        rw [if_neg (fun z => z (be_t (C := (45 : Int32)) rfl (show bet L τ q = 45 by omega)))]; exact hJ) 120 n r x c v (by omega) b1 b2
    obtain ⟨y, n1, c1, c2, c3⟩ := hlp
    exact ⟨y, n1, c1, a2.tr c2, c3⟩
theorem compared_X {b : Bool} {L k : Nat} {τ : Nat → Nat} {N : Nat → Int32} (hL : L ≤ 120) (hτ : ∀ i, i < L → τ i ≤ 255) {one : Nat → PR} {rc : Mem → Option (Int32 × Mem)} (hs : XSp b L τ N k (f_X9_sums rc) (suR one (bet L τ))) (hG : GP L (suR one (bet L τ))) : XSp b L τ N k (f_X9_compared rc) (coR one (bet L τ)) := by
  intro m q h
  have hg := hG q h.1.2.2
  obtain ⟨x, n, a1, a2, a3⟩ := hs m q h
  unfold f_X9_compared coR lvR
  rw [a1, some_bind]
  cases hR : suR one (bet L τ) q with
  | inl e =>
    rw [hR] at a3
    have hf : XF b L τ N n e := a3
    obtain ⟨p, hp⟩ := hf.1
    refine ⟨x, n, bs (byteAt_v hL hp) ?_, a2, a3⟩
    dsimp only
    rw [if_pos (hf.n hL)]
  | inr z =>
    obtain ⟨r, c, v⟩ := z
    rw [hR] at a3 hg
    obtain ⟨b1, b2⟩ := (show XS b L τ N k n r ∧ x = v N from a3)
    show ∃ x' n', _ ∧ XK m n' ∧ XR b L τ N k n' x' (lpR (suR one (bet L τ)) opC (bet L τ) 1 r c v)
    unfold lpR
    cases ho : opC (bet L τ r)
    · have hno := of_decide_eq_false ho
      rw [if_neg (by decide)]
      refine ⟨x, n, bs (byteAt_v hL b1.1) ?_, a2, b1, b2⟩
      dsimp only
      rw [if_neg b1.n, if_neg (be_f (c := 60) (C := (60 : Int32)) hτ rfl (by decide) (by omega)), if_neg (be_f (c := 61) (C := (61 : Int32)) hτ rfl (by decide) (by omega)), if_neg (be_f (c := 62) (C := (62 : Int32)) hτ rfl (by decide) (by omega))]
    · have hyes := of_decide_eq_true ho
      rw [if_pos rfl]
      have hq := bet_lt (isO_nz (opC_O ho))
      obtain ⟨y, n1, c1, c2, c3⟩ := hs _ _ (b1.p hq)
      have k1 : XK m n1 := a2.tr ((XK_s (Or.inl rfl) _).tr c2)
      have hJ : f_X9_compared_J37 rc x (nI (bet L τ r)) n = some (jn (bet L τ r) x y, n1) := by
        unfold f_X9_compared_J37
        rw [b1.1.2.1, nI_1]
        refine bn (bs c1 ?_)
        dsimp only
        unfold jn
        by_cases d0 : bet L τ r = 60
        · rw [d0, if_neg (fun z => z rfl)]
          show _ = some ((if y ≤ x then 0 else 1), n1)
          split <;> rfl
        · rw [if_pos (be_f (c := 60) (C := (60 : Int32)) hτ rfl (by decide) d0)]
          by_cases d1 : bet L τ r = 61
          · rw [d1, if_neg (fun z => z rfl)]
            show _ = some ((if ¬ x = y then 0 else 1), n1)
            split <;> rfl
          · rw [if_pos (be_f (c := 61) (C := (61 : Int32)) hτ rfl (by decide) d1), show bet L τ r = 62 by omega]
            show _ = some ((if x ≤ y then 0 else 1), n1)
            split <;> rfl
      have hres : (f_X9_byteAt n).bind (fun q2 => if 0 ≤ (gI q2.2 85 23) then some (x, q2.2) else if q2.1 = (60 : Int32) then f_X9_compared_J37 rc x q2.1 q2.2 else if q2.1 = (61 : Int32) then f_X9_compared_J37 rc x q2.1 q2.2 else if q2.1 = (62 : Int32) then f_X9_compared_J37 rc x q2.1 q2.2 else some (x, q2.2)) = some (jn (bet L τ r) x y, n1) := by
        refine bs (byteAt_v hL b1.1) ?_
        dsimp only
        rw [if_neg b1.n]
        by_cases d0 : bet L τ r = 60
        · rw [if_pos (be_t (C := (60 : Int32)) rfl d0)]; exact hJ
        · rw [if_neg (be_f (c := 60) (C := (60 : Int32)) hτ rfl (by decide) d0)]
          by_cases d1 : bet L τ r = 61
          · rw [if_pos (be_t (C := (61 : Int32)) rfl d1)]; exact hJ
          · rw [if_neg (be_f (c := 61) (C := (61 : Int32)) hτ rfl (by decide) d1), if_pos (be_t (C := (62 : Int32)) rfl (show bet L τ r = 62 by omega))]; exact hJ
      refine ⟨_, n1, hres, k1, ?_⟩
      cases hR2 : suR one (bet L τ) (r + 1) with
      | inl e => rw [hR2] at c3; exact c3
      | inr z =>
        obtain ⟨r2, d, w⟩ := z
        rw [hR2] at c3
        obtain ⟨e1, e2⟩ := (show XS b L τ N k n1 r2 ∧ y = w N from c3)
        exact ⟨e1, by rw [b2, e2]⟩
