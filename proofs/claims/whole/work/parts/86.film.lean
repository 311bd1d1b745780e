/-! film() -/
theorem lcmp_0 (a b : Int64) : lg_cmp a b = 0 ↔ a = b := by
  constructor
  · intro h
    have h1 : ¬ lg_cmp a b < 0 := by rw [h]; decide
    have h2 : ¬ 0 < lg_cmp a b := by rw [h]; decide
    have h3 := fun z => h1 (lcmp_lt.mpr z)
    have h4 := fun z => h2 (lcmp_gt.mpr z)
    exact Int64.le_antisymm (Int64.not_lt.mp h4) (Int64.not_lt.mp h3)
  · intro h
    subst h
    have h1 : ¬ lg_cmp a a < 0 := fun z => Int64.lt_irrefl (lcmp_lt.mp z)
    have h2 : ¬ 0 < lg_cmp a a := fun z => Int64.lt_irrefl (lcmp_gt.mp z)
    exact Int32.le_antisymm (Int32.not_lt.mp h2) (Int32.not_lt.mp h1)
/-- whether the first sayings were by these -/
theorem shown_v {d ln S : Nat} {n n' : Mem} (hd : d < 6) (hl : ln ≤ 60) (hS : S ≤ 200) (h2 : gI n (73 + 2 * d) 2 = nI ln) (h127 : gI n' 127 d = nI ln) (h7 : gI n 57 7 = nI S) (h30 : gI n' 85 30 = nI S) (hrow : ∀ i, i < 60 → gJ n (73 + 2 * d + 1) i = gJ n' 128 (60 * d + i)) (hlog : ∀ i, i < S → gI n (57 + 1) (i * 7 + 0) = gI n' 104 i) (b : Int32) (r : Nat) : ∃ f : Bool, f_X7_isShown (73 + 2 * d) n = some (bi f, n) ∧ (if (gI n' 85 30) < (gI n' 127 d) then wh (f_X9_film_L91) (nI d, b, nI r, (0 : Int32), (0 : Int32), n') else wh (f_X9_film_L91) (nI d, b, nI r, (1 : Int32), (0 : Int32), n')) = f_X9_film_J144 (nI d) b (nI r) (bi f) n' := by
  have cd : ∀ {T : Type} (K : Option T), ck (nI d) 6 K = K := fun K => ck_in hd (by decide)
  have jd : ix (nI d) = d := ix_n (by omega)
  unfold f_X7_isShown
  rw [h2, h7, h30, h127]
  by_cases c : S < ln
  · refine ⟨false, ?_, ?_⟩
    · rw [if_neg (nI_ge c (by omega)), bz_0]; rfl
    · rw [if_pos (nI_lt c (by omega))]
      refine wh_up ?_
      unfold f_X9_film_L91
      simp only [cd, jd, h127]
      split
      · rfl
      · rfl
  · rw [if_pos (nI_le (by omega) (by omega)), if_neg (nI_nlt (by omega) (by omega))]
    have key : ∀ j i, i + j = ln → ∃ f : Bool, wh (f_X7_isShown_L18 (73 + 2 * d)) (nI i, n) = some (bi f, n) ∧ wh f_X9_film_L91 (nI d, b, nI r, (1 : Int32), nI i, n') = f_X9_film_J144 (nI d) b (nI r) (bi f) n' := by
      intro j
      induction j with
      | zero =>
        intro i e
        have ei : i = ln := by omega
        subst ei
        refine ⟨true, wh_done ?_, wh_up ?_⟩
        · unfold f_X7_isShown_L18
          simp only [h2, nI_le (Nat.le_refl i) (show i < 2 ^ 31 by omega), if_true, bz_1]
          rfl
        · unfold f_X9_film_L91
          simp only [cd, jd, h127, nI_le (Nat.le_refl i) (show i < 2 ^ 31 by omega), if_true]
          rfl
      | succ j ih =>
        intro i e
        have hi : i < ln := by omega
        have n1 : ¬ nI ln ≤ nI i := nI_ge hi (by omega)
        have c60 : ∀ {T : Type} (K : Option T), ck (nI i) 60 K = K := fun K => ck_in (by omega) (by decide)
        have c200 : ∀ {T : Type} (K : Option T), ck (nI i) 200 K = K := fun K => ck_in (by omega) (by decide)
        have e7 : nI i * 7 + 0 = nI (i * 7 + 0) := by rw [show nI i * 7 = nI (i * 7) from nI_mul i 7]; exact nI_add _ 0
        have c14 : ∀ {T : Type} (K : Option T), ck (nI (i * 7 + 0)) 1400 K = K := fun K => ck_in (by omega) (by decide)
        have j14 : ix (nI (i * 7 + 0)) = i * 7 + 0 := ix_n (by omega)
        have ji : ix (nI i) = i := ix_n (by omega)
        have e60 : (60 : Int32) * nI d + nI i = nI (60 * d + i) := nI_60
        have c36 : ∀ {T : Type} (K : Option T), ck (nI (60 * d + i)) 360 K = K := fun K => ck_in (by omega) (by decide)
        have j36 : ix (nI (60 * d + i)) = 60 * d + i := ix_n (by omega)
        have hr := hrow i (by omega)
        have hg := hlog i (by omega)
        have n10 : ¬ ((1 : Int32) = 0) := by decide
        have sX : f_X7_isShown_L18 (73 + 2 * d) (nI i, n) = if gJ n' 128 (60 * d + i) = (gI n' 104 i).toInt64 then some (.inl (nI (i + 1), n)) else some (.inr (0, n)) := by
          unfold f_X7_isShown_L18
          simp only [h2, n1, if_false, c60, ji, e7, c14, j14, hr, hg, bnd, nI_1, bz_0]
          by_cases q : gJ n' 128 (60 * d + i) = (gI n' 104 i).toInt64
          · rw [if_pos ((lcmp_0 _ _).mpr q), if_pos q]
          · rw [if_neg (fun z => q ((lcmp_0 _ _).mp z)), if_neg q]; rfl
        have sY : f_X9_film_L91 (nI d, b, nI r, (1 : Int32), nI i, n') = if gJ n' 128 (60 * d + i) = (gI n' 104 i).toInt64 then some (.inl (nI d, b, nI r, 1, nI (i + 1), n')) else some (.inl (nI d, b, nI r, 0, nI (i + 1), n')) := by
          unfold f_X9_film_L91
          simp only [cd, jd, h127, n1, if_false, n10, c200, ji, e60, c36, j36, bnd, nI_1]
          by_cases q : gJ n' 128 (60 * d + i) = (gI n' 104 i).toInt64
          · rw [if_neg (fun z => z ((lcmp_0 _ _).mpr q.symm)), if_pos q]
          · rw [if_pos (fun z => q ((lcmp_0 _ _).mp z).symm), if_neg q]
        by_cases q : gJ n' 128 (60 * d + i) = (gI n' 104 i).toInt64
        · rw [if_pos q] at sX sY
          obtain ⟨f, o1, o2⟩ := ih (i + 1) (by omega)
          exact ⟨f, (wh_inl sX).trans o1, (wh_inl sY).trans o2⟩
        · rw [if_neg q] at sX sY
          refine ⟨false, wh_done sX, (wh_inl sY).trans (wh_up ?_)⟩
          unfold f_X9_film_L91
          simp only [cd, jd, h127]
          split
          · rfl
          · rfl
    exact key ln 0 (by omega)
theorem op_film {P T C V B : Nat} {m m' : Mem} (hB : TB P T C V m m') (hS : IS B m) (h6 : ∀ i, gI m' 126 i = gI m 126 i) (h7 : ∀ i, gI m' 127 i = gI m 127 i) (h8 : ∀ i, gJ m' 128 i = gJ m 128 i) (x : Int32) : ∃ v n n', f_X8_film x m = some (v, n) ∧ f_X9_film x m' = some (v, n') := by
  have n10 : ¬ ((1 : Int32) = 0) := by decide
  have hB0 := hB
  obtain ⟨⟨⟨n1, n2, n3⟩, ⟨n4, n5, n6⟩, -⟩, -, -, -, -, ⟨⟨s0, -⟩, -, s2, xt, x1, x9, hx⟩, -⟩ := hB
  rcases nn_cases 5 (by decide) x with ⟨d, hd5, rfl⟩ | hbad
  · have hd : d < 6 := by omega
    have cd : ∀ {T : Type} (K : Option T), ck (nI d) 6 K = K := fun K => ck_in hd (by decide)
    have jd : ix (nI d) = d := ix_n (by omega)
    obtain ⟨⟨ln, hl, a1, a2⟩, a3, a4⟩ := hS d hd
    have hX : f_X8_film (nI d) m = if ¬ gI m (73 + 2 * d) 0 = -2 then (if gI m (73 + 2 * d) 0 = 0 then (f_X6_isBare m).bind (fun q3 => if q3.1 = 0 then (f_X7_rulesOf (73 + 2 * d) q3.2).bind (fun q4 => some (q4.1, q4.2)) else some ((-5 : Int32), q3.2)) else some (-12, m)) else some (-11, m) := by
      unfold f_X8_film
      rw [noShelf_ok hd]
      simp only [some_bind, if_true, cd, jd, bnd]
    have hY : f_X9_film (nI d) m' = if 0 ≤ gI m 126 d then (if gI m 126 d = 50 then (f_X9_isTable m').bind (fun q2 => if ¬ q2.1 = 0 then (f_X9_plain q2.2).bind (fun q3 => wh (f_X9_film_L53) (nI d, (0 : Int32), (0 : Int32), q3)) else some ((-5 : Int32), q2.2)) else some (-12, m')) else some (-11, m') := by
      unfold f_X9_film
      rw [isShelf_ok hd]
      simp only [some_bind, n10, not_false_eq_true, if_true, cd, jd, h6]
    rcases a3 with ⟨a5, a6⟩ | ⟨b, hb1, hb5, a5, a6, a7⟩ | ⟨t, ht, a5, a6, a7⟩
    · refine ⟨-11, m, m', ?_, ?_⟩
      · rw [hX, a6]; rfl
      · rw [hY, a5]; rfl
    · refine ⟨-12, m, m', ?_, ?_⟩
      · rw [hX, a6]; rfl
      · rw [hY, a5, if_pos (nn_0le (by omega)), if_neg (fun q => by have := (eq_nn (b := 50) (by omega) (by decide)).mp q; omega)]
    · rw [a6, if_pos (sh_t ht).2] at hX
      rw [a5, if_pos (nn_0le (by omega))] at hY
      by_cases ht0 : t = 0
      · subst ht0
        rw [if_pos (show nI 0 = (0 : Int32) from rfl), isBare_y n1 n3 n4 n6, some_bind] at hX
        rw [if_pos (show nI (50 + 0) = (50 : Int32) from rfl), isTable_y n2 n3 n5 n6, some_bind] at hY
        by_cases hPT : 0 < P ∧ 0 < T
        · rw [decide_eq_true hPT, if_pos (show bi (!true) = 0 from rfl)] at hX
          rw [decide_eq_true hPT, if_pos (show ¬ (bi true = 0) by decide)] at hY
          obtain ⟨u, u1, u2⟩ := came_v 54 m
          have Fu := fr_X8_asTheyCame u1
          obtain ⟨w, p1, p2, p3, p4, p5, p6, p7⟩ := plain_v n5 n6
          have Fw := fr_X9_plain p1
          have TU : TS m u := ⟨fun c h1 h2 i => by rw [u2, if_neg (by omega)], fun i h1 h2 => by rw [u2, if_neg (by omega)], by rw [u2, if_neg (by decide)], fun i => by rw [u2, if_neg (by omega)], fun i => by rw [u2, if_neg (by omega)], Fu.2 (by decide)⟩
          -- the loop over the rules
          have hd6 : d = 0 ∨ d = 1 ∨ d = 2 ∨ d = 3 ∨ d = 4 ∨ d = 5 := by omega
          have key : ∀ j i b u w, i + j = 6 → TB P T C V u w → OR 54 T (fun i => i) u w → gI u 11 2 = nI xt → gI w 85 27 = gI u 11 2 → gI w 85 28 = -1 → gI u (73 + 2 * d) 2 = nI ln → gI w 127 d = nI ln → (∀ i, i < 60 → gJ u (73 + 2 * d + 1) i = gJ w 128 (60 * d + i)) → ∃ v n n', wh (f_X7_rulesOf_L11 (73 + 2 * d)) (b, nI i, u) = some (v, n) ∧ wh f_X9_film_L53 (nI d, b, nI i, w) = some (v, n') := by
            intro j
            induction j with
            | zero =>
              intro i b u w e hB hO hx h27 h28 g2 g127 grow
              have ei : i = 6 := by omega
              subst ei
              refine ⟨b, u, w, wh_done ?_, wh_done ?_⟩
              · unfold f_X7_rulesOf_L11
                rw [if_pos (show (6 : Int32) ≤ nI 6 by decide)]; rfl
              · unfold f_X9_film_L53
                rw [if_pos (show (6 : Int32) ≤ nI 6 by decide)]; rfl
            | succ j ih =>
              intro i b u w e hB hO hx h27 h28 g2 g127 grow
              have hi : i < 6 := by omega
              have nX : ¬ (6 : Int32) ≤ nI i := nI_ge (a := i) (b := 6) hi (by decide)
              have tw : TS' w (sI w 85 26 (nI i)) := ⟨fun c hc i => g_far _ _ (by omega), fun i hi => g_off _ _ (by omega), g_off _ _ (by decide), fun i => g_far _ _ (by decide)⟩
              have hB1 := TB_cong hB TS.rf tw
              have hO1 : OR 54 T (fun i => i) u (sI w 85 26 (nI i)) := ⟨fun i hi => by rw [g_far _ _ (by decide)]; exact hO.1 i hi, hO.2⟩
              have g1 : gI (sI w 85 26 (nI i)) 85 26 = nI i := g_hit _ _ _ _
              have g27 : gI (sI w 85 26 (nI i)) 85 27 = gI u 11 2 := by rw [g_off _ _ (by decide), h27]
              have g3 : gI (sI w 85 26 (nI i)) 85 28 = -1 := by rw [g_off _ _ (by decide), h28]
              obtain ⟨n, n', S, c1, c2, c3, c4, c5⟩ := hold_v (a := 57) (Or.inr (Or.inr rfl)) (Or.inr rfl) hB1 hO1 x1 x9 (g27.trans hx)
              rw [g1, g27, g3] at c1
              have FX := fr_X3_hold c1
              have FY := fr_X9_meets c2
              have e1 : gI n (73 + 2 * d) 2 = nI ln := by
                have : gI n (73 + 2 * d) 2 = gI u (73 + 2 * d) 2 := by rcases hd6 with rfl | rfl | rfl | rfl | rfl | rfl <;> exact fr_I FX _ 2 rfl
                rw [this, g2]
              have e2 : gI n' 127 d = nI ln := by rw [fr_I FY 127 d rfl, g_far _ _ (by decide), g127]
              have e3 : ∀ i, i < 60 → gJ n (73 + 2 * d + 1) i = gJ n' 128 (60 * d + i) := fun i hi => by
                have a : gJ n (73 + 2 * d + 1) i = gJ u (73 + 2 * d + 1) i := by rcases hd6 with rfl | rfl | rfl | rfl | rfl | rfl <;> exact fr_J FX _ i rfl
                have b : gJ n' 128 (60 * d + i) = gJ w 128 (60 * d + i) := (fr_J FY 128 _ rfl).trans rfl
                rw [a, b]
                exact grow i hi
              obtain ⟨f, o1, o2⟩ := shown_v hd hl c3.2.1.1.2.2 e1 e2 c3.2.1.1.1 c3.2.1.1.2.1 e3 (fun i hi => (c4.1 i hi).1) b i
              let bb := b ||| (if f = true then (1 : Int32) <<< (nI i &&& 31) else 0)
              have sX : f_X7_rulesOf_L11 (73 + 2 * d) (b, nI i, u) = some (.inl (bb, nI (i + 1), n)) := by
                have ck2 : ∀ {T : Type} (K : Option T), ck (2 : Int32) 3 K = K := fun K => rfl
                have j2 : ix (2 : Int32) = 2 := rfl
                unfold f_X7_rulesOf_L11
                simp only [nX, if_false, ck2, j2, c1, some_bind, o1, bnd, nI_1]
                cases f
                · rw [if_pos (show bi false = 0 from rfl)]; rfl
                · rw [if_neg (show ¬ bi true = 0 by decide)]; rfl
              have sY : f_X9_film_L53 (nI d, b, nI i, w) = some (.inl (nI d, bb, nI (i + 1), n')) := by
                unfold f_X9_film_L53
                simp only [nX, if_false, bnd, c2, some_bind, cd, jd, o2]
                unfold f_X9_film_J144
                simp only [bnd, nI_1]
                cases f
                · rw [if_pos (show bi false = 0 from rfl)]; rfl
                · rw [if_neg (show ¬ bi true = 0 by decide)]; rfl
              have kx : TS u n := TS_fr FX rfl
              have ky : TS' (sI w 85 26 (nI i)) n' := TS'_fr FY rfl
              obtain ⟨v, q, q', z1, z2⟩ := ih (i + 1) bb n n' (by omega) c3.1 c5 (by rw [kx.1 11 (by decide) (by decide), hx]) (by rw [fr_I FY 85 27 rfl, g27, kx.1 11 (by decide) (by decide)]) (by rw [fr_I FY 85 28 rfl, g3]) e1 e2 e3
              exact ⟨v, q, q', (wh_inl sX).trans z1, (wh_inl sY).trans z2⟩
          obtain ⟨v, q, q', z1, z2⟩ := key 6 0 0 u w (by omega) (TB_cong hB0 TU p6) ⟨fun i hi => ⟨hi, by rw [u2, if_pos ⟨rfl, by omega⟩], p5 i hi⟩, fun _ _ _ _ e => e⟩ (by rw [TU.1 11 (by decide) (by decide), hx]) (by rw [p3, TU.1 11 (by decide) (by decide), s2]) p4 (by rw [u2, if_neg (by omega), a1]) (by rw [p7 127 d (by omega) (by omega), h7, a2]) (fun i hi => by
            have a : gJ u (73 + 2 * d + 1) i = gJ m (73 + 2 * d + 1) i := by rcases hd6 with rfl | rfl | rfl | rfl | rfl | rfl <;> exact fr_J Fu _ i rfl
            have b : gJ w 128 (60 * d + i) = gJ m' 128 (60 * d + i) := fr_J Fw 128 _ rfl
            rw [a, b, h8]
            exact a4 i hi)
          refine ⟨v, q, q', ?_, ?_⟩
          · rw [hX]
            unfold f_X7_rulesOf
            rw [u1, some_bind]
            show (wh (f_X7_rulesOf_L11 (73 + 2 * d)) (0, nI 0, u)).bind _ = _
            rw [z1]; rfl
          · rw [hY, p1, some_bind]
            exact z2
        · rw [decide_eq_false hPT, if_neg (show ¬ bi (!false) = 0 by decide)] at hX
          rw [decide_eq_false hPT, if_neg (show ¬ ¬ (bi false = 0) by decide)] at hY
          exact ⟨-5, m, m', hX, hY⟩
      · rw [if_neg (show ¬ nI t = (0 : Int32) from fun q => ht0 ((eq_nn (b := 0) (by omega) (by decide)).mp q))] at hX
        rw [if_neg (show ¬ nI (50 + t) = (50 : Int32) from fun q => by have := (eq_nn (b := 50) (by omega) (by decide)).mp q; omega)] at hY
        exact ⟨-12, m, m', hX, hY⟩
  · refine ⟨-1, m, m', ?_, ?_⟩
    · unfold f_X8_film
      rw [noShelf_bad hbad]; rfl
    · unfold f_X9_film
      rw [isShelf_bad hbad]; rfl
