/-! THE LAW'S TEXT: the class's levels -/
theorem CF_le {L B B' e : Nat} {τ : Nat → Nat} {m : Mem} (h : CF L τ B m e) (hB : B ≤ B') : CF L τ B' m e := by
  obtain ⟨hT, h8, he, ⟨p, hp, h7⟩, hd⟩ := h
  exact ⟨hT, h8, he, ⟨p, by omega, h7⟩, hd⟩
theorem lv_C {L B : Nat} {τ : Nat → Nat} (hL : L ≤ 120) {sub : Nat → PR} {fs f : Mem → Option Mem} (hs : CSp L τ B fs sub) (hB : 120 ≤ B) {ops : Nat → Bool} (hops : ∀ c, ops c = true → isO c) {body : (Int32 × Int32 × Mem) → Option ((Int32 × Int32 × Mem) ⊕ Mem)} {p1 : Int32}
    (hf : ∀ m, f m = (fs m).bind (fun q1 => wh body (p1, nI 0, q1)))
    (hend : ∀ m, body (p1, nI 120, m) = some (.inr m))
    (hstop : ∀ i m e, CF L τ B m e → i < 120 → body (p1, nI i, m) = some (.inr m))
    (hno : ∀ i m q dl, i < 120 → CS L τ m q dl → ops (bet L τ q) = false → body (p1, nI i, m) = some (.inr m))
    (hgo : ∀ i m q dl, i < 120 → CS L τ m q dl → ops (bet L τ q) = true → body (p1, nI i, m) = (fs (sI m 14 7 (nI (q + 1)))).bind (fun q5 => (f_X2_emit (nI (20000 + bet L τ q)) q5).bind (fun q6 => some (.inl (p1, nI (i + 1), q6)))))
    (hG : GP L sub) : CSp L τ B f (lvR sub ops (bet L τ) 120) := by
  intro m pos dl h
  obtain ⟨n1, a1, a2, a3⟩ := hs m pos dl h
  rw [hf, a1, some_bind]
  unfold lvR
  cases hR : sub pos with
  | inl e =>
    rw [hR] at a3
    exact ⟨n1, wh_done (hstop 0 n1 e a3 (by decide)), a2, a3⟩
  | inr z =>
    obtain ⟨r, c, v⟩ := z
    rw [hR] at a3
    obtain ⟨b1, b2, b3⟩ := a3
    obtain ⟨n, o1, o2, o3⟩ := lp_C hL hs hB hops (F := 120) (by decide) hend hstop hno hgo 120 0 m n1 r dl c v rfl b1 a2.1 b2 b3 hG
    exact ⟨n, o1, a2.tr o2, o3⟩
theorem nx_op {L q : Nat} {τ : Nat → Nat} (h : bet L τ q ≠ 0) : nx L τ q = nI (bet L τ q) := by
  have := bet_lt h
  unfold nx bet
  rw [if_pos this, if_pos this]
theorem nx_t {L q c : Nat} {τ : Nat → Nat} (hτ : ∀ i, i < L → τ i ≤ 255) (hc : 0 < c) (hc2 : c < 1000) {C : Int32} (hC : C = nI c) (h : bet L τ q = c) : nx L τ q = C := by rw [hC]; exact (nx_eq hτ hc hc2).mpr h
theorem nx_f {L q c : Nat} {τ : Nat → Nat} (hτ : ∀ i, i < L → τ i ≤ 255) (hc : 0 < c) (hc2 : c < 1000) {C : Int32} (hC : C = nI c) (h : bet L τ q ≠ c) : ¬ nx L τ q = C := fun z => h ((nx_eq hτ hc hc2).mp (by rw [← hC]; exact z))
theorem CS_f {L q dl : Nat} {τ : Nat → Nat} {m : Mem} (h : CS L τ m q dl) : ¬ 0 ≤ gI m 14 8 := by
  rw [h.2.2.1]; decide
theorem CF_t {L B e : Nat} {τ : Nat → Nat} {m : Mem} (hL : L ≤ 120) (h : CF L τ B m e) : 0 ≤ gI m 14 8 := by
  rw [h.2.1]; exact nn_0le (by have := h.2.2.1; omega)
theorem readProduct_C {L B : Nat} {τ : Nat → Nat} (hL : L ≤ 120) (hτ : ∀ i, i < L → τ i ≤ 255) (hB : 120 ≤ B) {one : Nat → PR} {rc : Int32 → Int32 → Mem → Option Mem} {p1 : Int32} (hs : CSp L τ B (f_X2_readOperand rc p1) (one)) (hG : GP L (one)) : CSp L τ B (f_X2_readProduct rc p1) (prR one (bet L τ)) := by
  have c120 : ∀ i, i < 120 → ¬ (120 : Int32) ≤ nI i := fun i hi => nI_ge (a := i) (b := 120) hi (by decide)
  refine lv_C hL hs hB (ops := opP) (fun _ => opP_O) (body := f_X2_readProduct_L7 rc) (p1 := p1) (fun m => rfl) (fun m => ?_) (fun i m e h hi => ?_) (fun i m q dl hi h ho => ?_) (fun i m q dl hi h ho => ?_) hG
  · unfold f_X2_readProduct_L7
    dsimp only
    rw [if_pos (show (120 : Int32) ≤ nI 120 by decide)]
    rfl
  · unfold f_X2_readProduct_L7
    dsimp only
    rw [if_neg (c120 i hi), if_pos (CF_t hL h)]
    rfl
  · have hno := of_decide_eq_false ho
    have hn := next_t hL h.1 h.2.1 (by have := h.2.2.2.2.2; omega)
    unfold f_X2_readProduct_L7
    dsimp only
    rw [if_neg (c120 i hi), if_neg (CS_f h)]
    refine bs hn ?_
    dsimp only
    rw [if_neg (nx_f hτ (q := q) (c := 42) (C := (42 : Int32)) (by decide) (by decide) rfl (by omega))]
    refine bs hn ?_
    dsimp only
    rw [if_neg (nx_f hτ (q := q) (c := 47) (C := (47 : Int32)) (by decide) (by decide) rfl (by omega))]
    refine bs hn ?_
    dsimp only
    rw [if_pos (nx_f hτ (q := q) (c := 37) (C := (37 : Int32)) (by decide) (by decide) rfl (by omega))]
    rfl
  · have hyes := of_decide_eq_true ho
    have hn := next_t hL h.1 h.2.1 (by have := h.2.2.2.2.2; omega)
    have hnx := nx_op (L := L) (q := q) (τ := τ) (by omega)
    have he : (20000 : Int32) + nI (bet L τ q) = nI (20000 + bet L τ q) := nI_add 20000 _
    have e7 : gI m 14 7 + 1 = nI (q + 1) := by rw [h.2.1, nI_1]
    have hJ : f_X2_readProduct_J47 rc p1 (nI i) m = (f_X2_readOperand rc p1 (sI m 14 7 (nI (q + 1)))).bind (fun q5 => (f_X2_emit (nI (20000 + bet L τ q)) q5).bind (fun q6 => some (.inl (p1, nI (i + 1), q6)))) := by
      unfold f_X2_readProduct_J47
      refine bs hn ?_
      dsimp only
      rw [e7, hnx, he]
      refine bn ?_
      rw [nI_1]
      rfl
    unfold f_X2_readProduct_L7
    dsimp only
    rw [if_neg (c120 i hi), if_neg (CS_f h)]
    refine bs hn ?_
    dsimp only
    by_cases d0 : bet L τ q = 42
    · rw [if_pos (nx_t hτ (q := q) (c := 42) (C := (42 : Int32)) (by decide) (by decide) rfl d0)]
      exact hJ
    · rw [if_neg (nx_f hτ (q := q) (c := 42) (C := (42 : Int32)) (by decide) (by decide) rfl d0)]
      refine bs hn ?_
      dsimp only
      by_cases d1 : bet L τ q = 47
      · rw [if_pos (nx_t hτ (q := q) (c := 47) (C := (47 : Int32)) (by decide) (by decide) rfl d1)]
        exact hJ
      · rw [if_neg (nx_f hτ (q := q) (c := 47) (C := (47 : Int32)) (by decide) (by decide) rfl d1)]
        refine bs hn ?_
        dsimp only
        rw [if_neg (fun z => z (nx_t hτ (q := q) (c := 37) (C := (37 : Int32)) (by decide) (by decide) rfl (by omega)))]
        exact hJ
theorem readSum_C {L B : Nat} {τ : Nat → Nat} (hL : L ≤ 120) (hτ : ∀ i, i < L → τ i ≤ 255) (hB : 120 ≤ B) {one : Nat → PR} {rc : Int32 → Int32 → Mem → Option Mem} {p1 : Int32} (hs : CSp L τ B (f_X2_readProduct rc p1) (prR one (bet L τ))) (hG : GP L (prR one (bet L τ))) : CSp L τ B (f_X2_readSum rc p1) (suR one (bet L τ)) := by
  have c120 : ∀ i, i < 120 → ¬ (120 : Int32) ≤ nI i := fun i hi => nI_ge (a := i) (b := 120) hi (by decide)
  refine lv_C hL hs hB (ops := opS) (fun _ => opS_O) (body := f_X2_readSum_L7 rc) (p1 := p1) (fun m => rfl) (fun m => ?_) (fun i m e h hi => ?_) (fun i m q dl hi h ho => ?_) (fun i m q dl hi h ho => ?_) hG
  · unfold f_X2_readSum_L7
    dsimp only
    rw [if_pos (show (120 : Int32) ≤ nI 120 by decide)]
    rfl
  · unfold f_X2_readSum_L7
    dsimp only
    rw [if_neg (c120 i hi), if_pos (CF_t hL h)]
    rfl
  · have hno := of_decide_eq_false ho
    have hn := next_t hL h.1 h.2.1 (by have := h.2.2.2.2.2; omega)
    unfold f_X2_readSum_L7
    dsimp only
    rw [if_neg (c120 i hi), if_neg (CS_f h)]
    refine bs hn ?_
    dsimp only
    rw [if_neg (nx_f hτ (q := q) (c := 43) (C := (43 : Int32)) (by decide) (by decide) rfl (by omega))]
    refine bs hn ?_
    dsimp only
    rw [if_pos (nx_f hτ (q := q) (c := 45) (C := (45 : Int32)) (by decide) (by decide) rfl (by omega))]
    rfl
  · have hyes := of_decide_eq_true ho
    have hn := next_t hL h.1 h.2.1 (by have := h.2.2.2.2.2; omega)
    have hnx := nx_op (L := L) (q := q) (τ := τ) (by omega)
    have he : (20000 : Int32) + nI (bet L τ q) = nI (20000 + bet L τ q) := nI_add 20000 _
    have e7 : gI m 14 7 + 1 = nI (q + 1) := by rw [h.2.1, nI_1]
    have hJ : f_X2_readSum_J38 rc p1 (nI i) m = (f_X2_readProduct rc p1 (sI m 14 7 (nI (q + 1)))).bind (fun q5 => (f_X2_emit (nI (20000 + bet L τ q)) q5).bind (fun q6 => some (.inl (p1, nI (i + 1), q6)))) := by
      unfold f_X2_readSum_J38
      refine bs hn ?_
      dsimp only
      rw [e7, hnx, he]
      refine bn ?_
      rw [nI_1]
      rfl
    unfold f_X2_readSum_L7
    dsimp only
    rw [if_neg (c120 i hi), if_neg (CS_f h)]
    refine bs hn ?_
    dsimp only
    by_cases d0 : bet L τ q = 43
    · rw [if_pos (nx_t hτ (q := q) (c := 43) (C := (43 : Int32)) (by decide) (by decide) rfl d0)]
      exact hJ
    · rw [if_neg (nx_f hτ (q := q) (c := 43) (C := (43 : Int32)) (by decide) (by decide) rfl d0)]
      refine bs hn ?_
      dsimp only
      rw [if_neg (fun z => z (nx_t hτ (q := q) (c := 45) (C := (45 : Int32)) (by decide) (by decide) rfl (by omega)))]
      exact hJ
theorem readBoth_C {L B : Nat} {τ : Nat → Nat} (hL : L ≤ 120) (hτ : ∀ i, i < L → τ i ≤ 255) (hB : 120 ≤ B) {one : Nat → PR} {rc : Int32 → Int32 → Mem → Option Mem} {p1 : Int32} (hs : CSp L τ B (f_X2_readCompared rc p1) (coR one (bet L τ))) (hG : GP L (coR one (bet L τ))) : CSp L τ B (f_X2_readBoth rc p1) (boR one (bet L τ)) := by
  have c120 : ∀ i, i < 120 → ¬ (120 : Int32) ≤ nI i := fun i hi => nI_ge (a := i) (b := 120) hi (by decide)
  refine lv_C hL hs hB (ops := opB) (fun _ => opB_O) (body := f_X2_readBoth_L7 rc) (p1 := p1) (fun m => rfl) (fun m => ?_) (fun i m e h hi => ?_) (fun i m q dl hi h ho => ?_) (fun i m q dl hi h ho => ?_) hG
  · unfold f_X2_readBoth_L7
    dsimp only
    rw [if_pos (show (120 : Int32) ≤ nI 120 by decide)]
    rfl
  · unfold f_X2_readBoth_L7
    dsimp only
    rw [if_neg (c120 i hi), if_pos (CF_t hL h)]
    rfl
  · have hno := of_decide_eq_false ho
    have hn := next_t hL h.1 h.2.1 (by have := h.2.2.2.2.2; omega)
    unfold f_X2_readBoth_L7
    dsimp only
    rw [if_neg (c120 i hi), if_neg (CS_f h)]
    refine bs hn ?_
    dsimp only
    rw [if_pos (nx_f hτ (q := q) (c := 38) (C := (38 : Int32)) (by decide) (by decide) rfl (by omega))]
    rfl
  · have hyes := of_decide_eq_true ho
    have hn := next_t hL h.1 h.2.1 (by have := h.2.2.2.2.2; omega)
    have hnx := nx_op (L := L) (q := q) (τ := τ) (by omega)
    have he : (20000 : Int32) + nI (bet L τ q) = nI (20000 + bet L τ q) := nI_add 20000 _
    have e7 : gI m 14 7 + 1 = nI (q + 1) := by rw [h.2.1, nI_1]
    unfold f_X2_readBoth_L7
    dsimp only
    rw [if_neg (c120 i hi), if_neg (CS_f h)]
    refine bs hn ?_
    dsimp only
    rw [if_neg (fun z => z (nx_t hτ (q := q) (c := 38) (C := (38 : Int32)) (by decide) (by decide) rfl (by omega))), e7]
    refine bn ?_
    have hb : bet L τ q = 38 := by omega
    rw [hb, nI_1]
    rfl
theorem readEither_C {L B : Nat} {τ : Nat → Nat} (hL : L ≤ 120) (hτ : ∀ i, i < L → τ i ≤ 255) (hB : 120 ≤ B) {one : Nat → PR} {rc : Int32 → Int32 → Mem → Option Mem} {p1 : Int32} (hs : CSp L τ B (f_X2_readBoth rc p1) (boR one (bet L τ))) (hG : GP L (boR one (bet L τ))) : CSp L τ B (f_X2_readEither rc p1) (eiR one (bet L τ)) := by
  have c120 : ∀ i, i < 120 → ¬ (120 : Int32) ≤ nI i := fun i hi => nI_ge (a := i) (b := 120) hi (by decide)
  refine lv_C hL hs hB (ops := opE) (fun _ => opE_O) (body := f_X2_readEither_L7 rc) (p1 := p1) (fun m => rfl) (fun m => ?_) (fun i m e h hi => ?_) (fun i m q dl hi h ho => ?_) (fun i m q dl hi h ho => ?_) hG
  · unfold f_X2_readEither_L7
    dsimp only
    rw [if_pos (show (120 : Int32) ≤ nI 120 by decide)]
    rfl
  · unfold f_X2_readEither_L7
    dsimp only
    rw [if_neg (c120 i hi), if_pos (CF_t hL h)]
    rfl
  · have hno := of_decide_eq_false ho
    have hn := next_t hL h.1 h.2.1 (by have := h.2.2.2.2.2; omega)
    unfold f_X2_readEither_L7
    dsimp only
    rw [if_neg (c120 i hi), if_neg (CS_f h)]
    refine bs hn ?_
    dsimp only
    rw [if_pos (nx_f hτ (q := q) (c := 124) (C := (124 : Int32)) (by decide) (by decide) rfl (by omega))]
    rfl
  · have hyes := of_decide_eq_true ho
    have hn := next_t hL h.1 h.2.1 (by have := h.2.2.2.2.2; omega)
    have hnx := nx_op (L := L) (q := q) (τ := τ) (by omega)
    have he : (20000 : Int32) + nI (bet L τ q) = nI (20000 + bet L τ q) := nI_add 20000 _
    have e7 : gI m 14 7 + 1 = nI (q + 1) := by rw [h.2.1, nI_1]
    unfold f_X2_readEither_L7
    dsimp only
    rw [if_neg (c120 i hi), if_neg (CS_f h)]
    refine bs hn ?_
    dsimp only
    rw [if_neg (fun z => z (nx_t hτ (q := q) (c := 124) (C := (124 : Int32)) (by decide) (by decide) rfl (by omega))), e7]
    refine bn ?_
    have hb : bet L τ q = 124 := by omega
    rw [hb, nI_1]
    rfl
