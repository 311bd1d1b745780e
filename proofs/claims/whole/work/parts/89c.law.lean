/-! THE LAW'S TEXT: the reference's lines -/
/-- what a whole text gives -/
def XE (b : Bool) (L : Nat) (τ : Nat → Nat) (N : Nat → Int32) (fo an : Int32) (n : Mem) (x : Int32) (R : Nat ⊕ (List Nat × Val)) : Prop := match R with
  | .inl e => gI n 85 23 = nI e ∧ e ≤ L
  | .inr (_, v) => gI n 85 23 = -1 ∧ x = if fo = 0 then v N else an
theorem fin_f {b : Bool} {L e : Nat} {τ : Nat → Nat} {N : Nat → Int32} (hL : L ≤ 120) {m : Mem} (h : XF b L τ N m e) (fo an : Int32) : wh f_X9_workOut_L33 (fo, an, 0, m) = some (an, m) := wh_up (by
  unfold f_X9_workOut_L33
  dsimp only
  rw [if_pos rfl, if_pos (h.n hL)])
theorem lines_X {b : Bool} {L : Nat} {τ : Nat → Nat} {N : Nat → Int32} (hL : L ≤ 120) (hτ : ∀ i, i < L → τ i ≤ 255) : ∀ f m pos (fo an : Int32), XS b L τ N 6 m pos → L + 1 ≤ pos + f → (fo = 0 → an = 0) → ∃ x n, wh f_X9_workOut_L33 (fo, an, 1, m) = some (x, n) ∧ XK m n ∧ XE b L τ N fo an n x (EN L (txR (opR (bet L τ) 6) (bet L τ) f pos))
  | 0, m, pos, fo, an, h, h1, h2 => by have := h.1.2.2; omega
  | f + 1, m, pos, fo, an, h, h1, h2 => by
    have hE := either_X (b := b) (N := N) hL hτ (one_X hL hτ 6 (by decide) 8 (by decide)) (op_G (L := L) (τ := τ) 6)
    have hEG := ei_G (τ := τ) (op_G (L := L) (τ := τ) 6)
    have hLG := ln_G (τ := τ) (op_G (L := L) (τ := τ) 6) h.1.2.2
    obtain ⟨y, n1, a1, a2, a3⟩ := hE m pos h
    have hg1 := hEG pos h.1.2.2
    have hbody : f_X9_workOut_L33 (fo, an, 1, m) = (f_X9_takes (63 : Int32) n1).bind (fun q8 => if q8.1 = 0 then f_X9_workOut_J74 fo an y (1 : Int32) q8.2 else if y = 0 then f_X9_workOut_J66 fo an (0 : Int32) q8.2 else f_X9_workOut_J66 fo an (1 : Int32) q8.2) := by
      unfold f_X9_workOut_L33
      dsimp only
      rw [if_neg (show ¬ (1 : Int32) = 0 by decide)]
      exact bs a1 rfl
    -- the end of a line, once guard and value are known
    have tail : ∀ (g w : Int32) (c : List Nat) (gv wv : Val) (n2 : Mem) (r : Nat), XK m n2 → XS b L τ N 6 n2 r → pos < r → (g = 0 ↔ gv N = 0) → w = wv N → f_X9_workOut_L33 (fo, an, 1, m) = f_X9_workOut_J74 fo an w g n2 → ∃ x n, wh f_X9_workOut_L33 (fo, an, 1, m) = some (x, n) ∧ XK m n ∧ XE b L τ N fo an n x (EN L (if bet L τ r = 59 then (match txR (opR (bet L τ) 6) (bet L τ) f (r + 1) with | .inl e => .inl e | .inr (r', d, u) => .inr (r', c ++ d, fun N => if gv N = 0 then u N else wv N)) else .inr (r, c, fun N => if gv N = 0 then 0 else wv N))) := fun g w c gv wv n2 r hk hs hpos hg hw hb => by
      obtain ⟨fo', an', e1, e2⟩ : ∃ fo' an', f_X9_workOut_J74 fo an w g n2 = (f_X9_takes (59 : Int32) n2).bind (fun q => some (Sum.inl (fo', an', q.1, q.2))) ∧ ((fo' = fo ∧ an' = an ∧ (gv N = 0 ∨ ¬ fo = 0)) ∨ (fo' = 1 ∧ an' = wv N ∧ fo = 0 ∧ ¬ gv N = 0)) := by
        unfold f_X9_workOut_J74
        rw [if_neg hs.n]
        by_cases d0 : g = 0
        · rw [if_pos d0]
          exact ⟨fo, an, rfl, Or.inl ⟨rfl, rfl, Or.inl (hg.mp d0)⟩⟩
        · rw [if_neg d0]
          by_cases d1 : fo = 0
          · rw [if_neg (fun z => z d1)]
            exact ⟨1, w, rfl, Or.inr ⟨rfl, hw, d1, fun z => d0 (hg.mpr z)⟩⟩
          · rw [if_pos d1]
            exact ⟨fo, an, rfl, Or.inl ⟨rfl, rfl, Or.inr d1⟩⟩
      have e3 : fo' = 0 → an' = 0 := fun z => by
        rcases e2 with ⟨q1, q2, -⟩ | ⟨q1, -⟩
        · rw [q2]; exact h2 (q1 ▸ z)
        · rw [q1] at z; exact absurd z (by decide)
      have e4 : ∀ u : Int32, (if fo' = 0 then u else an') = if fo = 0 then (if gv N = 0 then u else wv N) else an := fun u => by
        rcases e2 with ⟨q1, q2, q3⟩ | ⟨q1, q2, q3, q4⟩
        · rw [q1, q2]
          by_cases d : fo = 0
          · rw [if_pos d, if_pos d]
            rcases q3 with q3 | q3
            · rw [if_pos q3]
            · exact absurd d q3
          · rw [if_neg d, if_neg d]
        · rw [q1, q2, if_neg (show ¬ (1 : Int32) = 0 by decide), if_pos q3, if_neg q4]
      rw [e1] at hb
      by_cases q : bet L τ r = 59
      · rw [if_pos q]
        have hr := bet_lt (show bet L τ r ≠ 0 by omega)
        rw [takes_t hL hs (c := 59) (C := (59 : Int32)) rfl q, some_bind] at hb
        obtain ⟨x, n, o1, o2, o3⟩ := lines_X hL hτ f _ (r + 1) fo' an' (hs.p hr) (by omega) e3
        refine ⟨x, n, (wh_inl hb).trans o1, hk.tr ((XK_s (Or.inl rfl) _).tr o2), ?_⟩
        cases hR : txR (opR (bet L τ) 6) (bet L τ) f (r + 1) with
        | inl e => rw [hR] at o3; exact o3
        | inr z =>
          obtain ⟨r', d, u⟩ := z
          rw [hR] at o3
          show XE b L τ N fo an n x (if r' < L then .inl r' else .inr (c ++ d, _))
          have o3' : XE b L τ N fo' an' n x (if r' < L then .inl r' else .inr (d, u)) := o3
          by_cases q2 : r' < L
          · rw [if_pos q2] at o3' ⊢
            exact o3'
          · rw [if_neg q2] at o3' ⊢
            obtain ⟨p1, p2⟩ := (show gI n 85 23 = -1 ∧ x = if fo' = 0 then u N else an' from o3')
            exact ⟨p1, by rw [p2, e4]⟩
      · rw [if_neg q]
        rw [takes_n hL hτ hs (c := 59) (C := (59 : Int32)) rfl (by decide) q, some_bind] at hb
        show ∃ x n, _ ∧ XK m n ∧ XE b L τ N fo an n x (if r < L then .inl r else .inr (c, _))
        by_cases q2 : r < L
        · rw [if_pos q2]
          obtain ⟨w1, w2⟩ := wrong_s hs
          refine ⟨0, sI n2 85 23 (nI r), (wh_inl hb).trans (wh_up ?_), hk.tr (XK_s (Or.inr (Or.inl rfl)) _), w2.2⟩
          unfold f_X9_workOut_L33
          dsimp only
          rw [if_pos rfl, if_neg hs.n, hs.1.1.1, hs.1.2.1, if_neg (nI_ge q2 (by omega)), w1]
          rfl
        · rw [if_neg q2]
          refine ⟨an', n2, (wh_inl hb).trans (wh_up ?_), hk, hs.2.1, ?_⟩
          · unfold f_X9_workOut_L33
            dsimp only
            rw [if_pos rfl, if_neg hs.n, hs.1.1.1, hs.1.2.1, if_pos (nI_le (by omega) (by have := hs.1.2.2; omega))]
          · rw [← e4 0]
            by_cases d : fo' = 0
            · rw [if_pos d]; exact e3 d
            · rw [if_neg d]
    unfold txR lnR
    cases hR : eiR (opR (bet L τ) 6) (bet L τ) pos with
    | inl e =>
      rw [hR] at a3
      have hf : XF b L τ N n1 e := a3
      rw [takes_f hL hf, some_bind, if_pos rfl] at hbody
      have hb2 : f_X9_workOut_J74 fo an y 1 n1 = some (.inl (fo, an, 0, n1)) := by
        unfold f_X9_workOut_J74
        rw [if_pos (hf.n hL), takes_f hL hf]; rfl
      exact ⟨an, n1, (wh_inl (hbody.trans hb2)).trans (fin_f hL hf fo an), a2, hf.2⟩
    | inr z =>
      obtain ⟨r, c, v⟩ := z
      rw [hR] at a3 hg1
      obtain ⟨b1, b2⟩ := (show XS b L τ N 6 n1 r ∧ y = v N from a3)
      obtain ⟨g1, g2, g3, g4⟩ := hg1
      dsimp only
      by_cases q : bet L τ r = 63
      · rw [if_pos q]
        have hr := bet_lt (show bet L τ r ≠ 0 by omega)
        rw [takes_t hL b1 (c := 63) (C := (63 : Int32)) rfl q, some_bind, if_neg (show ¬ (1 : Int32) = 0 by decide)] at hbody
        obtain ⟨g, hg0, hgb⟩ : ∃ g : Int32, (g = 0 ↔ v N = 0) ∧ f_X9_workOut_L33 (fo, an, 1, m) = f_X9_workOut_J66 fo an g (sI n1 85 21 (nI (r + 1))) := by
          by_cases d : y = 0
          · rw [if_pos d] at hbody
            exact ⟨0, ⟨fun _ => by rw [← b2]; exact d, fun _ => rfl⟩, hbody⟩
          · rw [if_neg d] at hbody
            exact ⟨1, ⟨fun z => absurd z (by decide), fun z => absurd (b2.trans z) d⟩, hbody⟩
        obtain ⟨y2, n2, c1, c2, c3⟩ := hE _ _ (b1.p hr)
        have k2 : XK m n2 := a2.tr ((XK_s (Or.inl rfl) _).tr c2)
        have hb3 : f_X9_workOut_L33 (fo, an, 1, m) = f_X9_workOut_J74 fo an y2 g n2 := by
          rw [hgb]
          unfold f_X9_workOut_J66
          rw [c1]; rfl
        have hg2 := hEG (r + 1) (by omega)
        cases hR2 : eiR (opR (bet L τ) 6) (bet L τ) (r + 1) with
        | inl e =>
          rw [hR2] at c3
          have hf : XF b L τ N n2 e := c3
          have hb2 : f_X9_workOut_J74 fo an y2 g n2 = some (.inl (fo, an, 0, n2)) := by
            unfold f_X9_workOut_J74
            rw [if_pos (hf.n hL), takes_f hL hf]; rfl
          exact ⟨an, n2, (wh_inl (hb3.trans hb2)).trans (fin_f hL hf fo an), k2, hf.2⟩
        | inr z =>
          obtain ⟨r', d, w⟩ := z
          rw [hR2] at c3 hg2
          obtain ⟨d1, d2⟩ := (show XS b L τ N 6 n2 r' ∧ y2 = w N from c3)
          obtain ⟨k1, k2', k3, k4⟩ := hg2
          exact tail g y2 _ v w n2 r' k2 d1 (by omega) hg0 d2 hb3
      · rw [if_neg q]
        rw [takes_n hL hτ b1 (c := 63) (C := (63 : Int32)) rfl (by decide) q, some_bind, if_pos rfl] at hbody
        exact tail 1 y _ (fun _ => 1) v n1 r a2 b1 g2 Iff.rfl b2 hbody
/-- the whole text -/
theorem workOut_X {b : Bool} {L : Nat} {τ : Nat → Nat} {N : Nat → Int32} (hL : L ≤ 120) (hτ : ∀ i, i < L → τ i ≤ 255) {m : Mem} (hT : ∀ i, i < L → gI m (if b then 95 else 94) i = nI (τ i)) (hN : ∀ j, gI m 96 j = N j) : ∃ x n, f_X9_workOut (if b then 0 else -1) (nI L) m = some (x, n) ∧ (∀ c i, c ≠ 85 → gI n c i = gI m c i) ∧ (∀ i, i ≠ 20 → i ≠ 21 → i ≠ 22 → i ≠ 23 → i ≠ 24 → gI n 85 i = gI m 85 i) ∧ XE b L τ N 0 0 n x (EN L (txR (opR (bet L τ) 6) (bet L τ) (L + 1) 0)) := by
  have hb : (if b then 95 else 94 : Nat) ≠ 85 := by cases b <;> decide
  have hs : XS b L τ N 6 (sI (sI (sI (sI (sI m 85 20 (if b then 0 else -1)) 85 21 0) 85 22 (nI L)) 85 23 (-1)) 85 24 0) 0 := by
    refine ⟨⟨⟨?_, ?_, fun i hi => ?_, fun j => ?_⟩, ?_, Nat.zero_le _⟩, ?_, ?_⟩
    · rw [g_off _ _ (by decide), g_off _ _ (by decide), g_hit]
    · rw [g_off _ _ (by decide), g_off _ _ (by decide), g_off _ _ (by decide), g_off _ _ (by decide), g_hit]
    · rw [g_far _ _ hb, g_far _ _ hb, g_far _ _ hb, g_far _ _ hb, g_far _ _ hb]; exact hT i hi
    · rw [g_far _ _ (by decide), g_far _ _ (by decide), g_far _ _ (by decide), g_far _ _ (by decide), g_far _ _ (by decide)]; exact hN j
    · rw [g_off _ _ (by decide), g_off _ _ (by decide), g_off _ _ (by decide), g_hit]; rfl
    · rw [g_off _ _ (by decide), g_hit]
    · rw [g_hit]; rfl
  obtain ⟨x, n, o1, o2, o3⟩ := lines_X hL hτ (L + 1) _ 0 0 0 hs (by omega) (fun _ => rfl)
  refine ⟨x, n, bn (bn (bn (bn (bn o1)))), fun c i hc => ?_, fun i h0 h1 h2 h3 h4 => ?_, o3⟩
  · rw [o2.1 c i hc, g_far _ _ hc, g_far _ _ hc, g_far _ _ hc, g_far _ _ hc, g_far _ _ hc]
  · rw [o2.2 i h1 h3 h4, g_off _ _ h4, g_off _ _ h3, g_off _ _ h2, g_off _ _ h1, g_off _ _ h0]
