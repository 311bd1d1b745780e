/-! A MEETING: one speaks, both -/
theorem J143_v {a p t : Nat} (hp : p < 10) {m : Mem} (by' fresh again len : Int32) (hag : again = -2 ∨ ∃ k, k < 20 ∧ again = nI k) : ∃ q, f_X3_speak_J143 a (nI p) (nI t) by' fresh again len m = f_X3_speak_J179 a (nI p) (nI t) by' fresh again len q ∧ (∀ c i, c ≠ a + 6 → gI q c i = gI m c i) ∧ ∀ u, gI q (a + 6) u = if u = p ∧ 0 ≤ again ∧ 0 ≤ gI m (a + 3) (ix again) ∧ ¬ gI m (a + 3) (ix again) = nI p then gI m (a + 6) u + 1 else gI m (a + 6) u := by
  have cp : ∀ {T : Type} (K : Option T), ck (nI p) 10 K = K := fun K => ck_in hp (by decide)
  have ip : ix (nI p) = p := ix_n (by omega)
  unfold f_X3_speak_J143
  rcases hag with rfl | ⟨k, hk, rfl⟩
  · refine ⟨m, by rw [if_pos (by decide)], fun _ _ _ => rfl, fun u => by rw [if_neg (fun z => absurd z.2.1 (by decide))]⟩
  · have ck20 : ∀ {T : Type} (K : Option T), ck (nI k) 20 K = K := fun K => ck_in hk (by decide)
    have ik : ix (nI k) = k := ix_n (by omega)
    rw [if_neg (nn_lt0 (by omega)), ck20, ck20, ik]
    by_cases c1 : gI m (a + 3) k < 0
    · refine ⟨m, by rw [if_pos c1], fun _ _ _ => rfl, fun u => by rw [if_neg (fun z => Int32.not_le.mpr c1 z.2.2.1)]⟩
    · by_cases c2 : gI m (a + 3) k = nI p
      · refine ⟨m, by rw [if_neg c1, if_pos c2], fun _ _ _ => rfl, fun u => by rw [if_neg (fun z => z.2.2.2 c2)]⟩
      · refine ⟨sI m (a + 6) p (gI m (a + 6) p + 1), by rw [if_neg c1, if_neg c2]; simp only [cp, ip, bnd], fun c i h => g_far _ _ h, fun u => ?_⟩
        rw [g_sI]
        by_cases d : u = p
        · subst d
          rw [if_pos ⟨rfl, rfl⟩, if_pos ⟨rfl, nn_0le (by omega), Int32.not_lt.mp c1, c2⟩]
        · rw [if_neg (fun z => d z.2), if_neg (fun z => d z.1)]
theorem J125_v {a p t : Nat} (hp : p < 10) {m : Mem} (by' v6 fresh again len : Int32) (hag : again = -2 ∨ ∃ k, k < 20 ∧ again = nI k) (hby : (by' = -2 ∧ v6 = 0) ∨ ∃ b, b < 10 ∧ by' = nI b ∧ v6 = 1) : ∃ q, f_X3_speak_J125 a (nI p) (nI t) by' v6 fresh again len m = f_X3_speak_J179 a (nI p) (nI t) by' fresh again len q ∧ (∀ c i, c ≠ a + 5 → c ≠ a + 6 → gI q c i = gI m c i) ∧ (∀ u, u < 10 → gI q (a + 5) u = if by' = nI u then gI m (a + 5) u + 1 else gI m (a + 5) u) ∧ ∀ u, gI q (a + 6) u = if u = p ∧ 0 ≤ again ∧ 0 ≤ gI m (a + 3) (ix again) ∧ ¬ gI m (a + 3) (ix again) = nI p then gI m (a + 6) u + 1 else gI m (a + 6) u := by
  unfold f_X3_speak_J125
  rcases hby with ⟨rfl, rfl⟩ | ⟨b, hb, rfl, rfl⟩
  · obtain ⟨q, h1, h2, h3⟩ := J143_v (a := a) (t := t) hp (m := m) (-2) fresh again len hag
    refine ⟨q, by rw [if_pos rfl]; exact h1, fun c i _ h => h2 c i h, fun u hu => ?_, h3⟩
    rw [h2 _ _ (by omega), if_neg (fun z => by
      have := congrArg Int32.toInt z
      rw [nI_toInt (by omega)] at this
      change (-2 : Int) = _ at this
      omega)]
  · have cb : ∀ {T : Type} (K : Option T), ck (nI b) 10 K = K := fun K => ck_in hb (by decide)
    have ib : ix (nI b) = b := ix_n (by omega)
    obtain ⟨q, h1, h2, h3⟩ := J143_v (a := a) (t := t) hp (m := sI m (a + 5) b (gI m (a + 5) b + 1)) (nI b) fresh again len hag
    refine ⟨q, by rw [if_neg (show ¬ ((1 : Int32) = 0) by decide)]; simp only [cb, ib, bnd]; exact h1, fun c i h5 h6 => by rw [h2 c i h6, g_far _ _ h5], fun u hu => ?_, fun u => ?_⟩
    · rw [h2 _ _ (by omega), g_sI]
      by_cases d : u = b
      · subst d
        rw [if_pos ⟨rfl, rfl⟩, if_pos rfl]
      · rw [if_neg (fun z => d z.2), if_neg (fun z => d ((eq_nn (by omega) (by omega)).mp z).symm)]
    · rw [h3 u, g_far _ _ (show a + 3 ≠ a + 5 by omega), g_far _ _ (show a + 6 ≠ a + 5 by omega)]
theorem fi_C {C : Nat} (hC : C ≤ 20) {f g : Nat → Bool} (h : ∀ i, i < 20 → f i = (decide (i < C) && g i)) : fi f 20 0 = fi g C 0 := by
  cases h1 : fi g C 0 with
  | none =>
    have h2 := fi_none.mp h1
    exact fi_none.mpr (fun i _ hi => by
      rw [h i (by omega)]
      by_cases q : i < C
      · rw [h2 i (by omega) (by omega), Bool.and_false]
      · rw [decide_eq_false q]; rfl)
  | some k =>
    obtain ⟨_, k2, k3⟩ := fi_some h1
    have k4 := fi_first h1
    cases h5 : fi f 20 0 with
    | none =>
      have := fi_none.mp h5 k (by omega) (by omega)
      rw [h k (by omega), k3, decide_eq_true (by omega)] at this
      cases this
    | some j =>
      obtain ⟨_, j2, j3⟩ := fi_some h5
      have j4 := fi_first h5
      rw [h j (by omega)] at j3
      have jC : j < C := by
        by_cases q : j < C
        · exact q
        · rw [decide_eq_false q] at j3; cases j3
      rw [decide_eq_true jC, Bool.true_and] at j3
      congr 1
      rcases Nat.lt_trichotomy j k with q | q | q
      · have := k4 j (by omega) q
        rw [j3] at this; cases this
      · exact q
      · have := j4 k (by omega) q
        rw [h k (by omega), k3, decide_eq_true (by omega)] at this
        cases this
theorem mn_n {a b : Nat} (ha : a < 2 ^ 31) (hb : b < 2 ^ 31) : mnI (nI a) (nI b) = nI (min a b) := by
  unfold mnI
  by_cases h : b < a
  · rw [if_pos (nI_lt h ha)]; congr 1; omega
  · rw [if_neg (nI_nlt (by omega) hb)]; congr 1; omega
def LN (std st : Bool) (x N : Nat) : Nat := if st then 1 else if std then (2 * min x (1 + N) + 2) / 3 else min x (1 + N)
def sm (f : Nat → Int32) : Nat → Int32
  | 0 => 0
  | n + 1 => sm f n + f n
theorem sm_cong {f g : Nat → Int32} : ∀ {n : Nat}, (∀ i, i < n → f i = g i) → sm f n = sm g n
  | 0, _ => rfl
  | n + 1, h => by
    show sm f n + f n = sm g n + g n
    rw [sm_cong (fun i hi => h i (by omega)), h n (by omega)]
def RL (a C P S : Nat) (m m' : Mem) : Prop := (∀ i, i < S → gI m (a + 1) (i * 7 + 0) = gI m' 104 i ∧ gI m (a + 1) (i * 7 + 1) = gI m' 105 i ∧ gI m (a + 1) (i * 7 + 2) = gI m' 106 i ∧ gI m (a + 1) (i * 7 + 3) = gI m' 107 i ∧ gI m (a + 1) (i * 7 + 4) = gI m' 108 i ∧ gI m (a + 1) (i * 7 + 5) = gI m' 109 i ∧ gI m (a + 1) (i * 7 + 6) = gI m' 110 i) ∧ (∀ i, i < S → gI m' 109 i = -2 ∨ ∃ k, k < C ∧ gI m' 109 i = nI k ∧ Sd m' k = true) ∧ ∀ p, p < P → gI m (a + 7) p = sm (fun i => if gI m' 104 i = nI p then gI m' 107 i else 0) S ∧ gI m (a + 5) p = sm (fun i => if gI m' 110 i = nI p then 1 else 0) S ∧ gI m (a + 6) p = sm (fun i => if gI m' 104 i = nI p ∧ 0 ≤ gI m' 109 i ∧ 0 ≤ gI m' 100 (ix (gI m' 109 i)) ∧ ¬ gI m' 100 (ix (gI m' 109 i)) = nI p then 1 else 0) S
theorem AG_v {m' : Mem} {C p t : Nat} {y : Int32} : AG m' C p t y = -2 ∨ ∃ k, k < C ∧ AG m' C p t y = nI k ∧ Sd m' k = true := by
  unfold AG
  by_cases hy : y = 0
  · rw [if_neg (fun z => z hy)]
    cases h : fi (fun k => Kn m' p t k && Sd m' k) C 0 with
    | none => exact Or.inl rfl
    | some k =>
      obtain ⟨_, k2, k3⟩ := fi_some h
      refine Or.inr ⟨k, by omega, rfl, ?_⟩
      cases hs : Sd m' k
      · rw [hs, Bool.and_false] at k3; cases k3
      · rfl
  · rw [if_pos hy]; exact Or.inl rfl
theorem speakX_v {a P T C V S p t : Nat} {m m' : Mem} (ha : MA a) (h : RA a P T C V S m m') (hw : WI a P m m') (hp : p < P) (ht : t < T) (hp0 : ¬ gI m' 98 p ≤ 0) (hS : S < 200) : ∃ (by' y : Int32) (ln w : Nat) (q n' : Mem), (1 ≤ ln ∧ ln ≤ 9) ∧ (by' = -2 ∨ ∃ b, b < P ∧ by' = nI b) ∧ f_X3_speak a (nI p) (nI t) m = f_X3_speak_J179 a (nI p) (nI t) by' y (AG m' C p t y) (nI ln) q ∧ (∀ c i, c ≠ a + 5 → c ≠ a + 6 → gI q c i = gI m c i) ∧ (∀ u, u < 10 → gI q (a + 5) u = if by' = nI u then gI m (a + 5) u + 1 else gI m (a + 5) u) ∧ (∀ u, gI q (a + 6) u = if u = p ∧ 0 ≤ AG m' C p t y ∧ 0 ≤ gI m (a + 3) (ix (AG m' C p t y)) ∧ ¬ gI m (a + 3) (ix (AG m' C p t y)) = nI p then gI m (a + 6) u + 1 else gI m (a + 6) u) ∧ f_X9_speaks (nI p) (nI t) m' = f_X9_speaks_J103 (nI p) (nI t) (nI ln) (nI w) by' m' ∧ w < 2 ^ 31 ∧ ∀ i, i < 32 → bt y i = (decide (i < C) && ((Kn m' p t i && !Sd m' i) && decide (fb_ct (fun k => Kn m' p t k && !Sd m' k) i < w))) := by
  have h0 := h
  obtain ⟨v, o1, o2, o3⟩ := stops_v h hw hp hp0
  obtain ⟨hB, hf, hpp, hk, htt⟩ := h
  have hB0 := hB
  obtain ⟨⟨⟨n1, n2, n3⟩, ⟨n4, n5, n6⟩, ⟨n7, n8, n9⟩, n0⟩, -, -, -, -, ⟨-, ⟨sd1, sd, sdl, sd2⟩, -⟩, -⟩ := hB
  obtain ⟨-, -, -, -, ⟨f1, x, x1, x9, f2⟩, -⟩ := hf
  have cp : ∀ {T : Type} (K : Option T), ck (nI p) 10 K = K := fun K => ck_in (by omega) (by decide)
  have ct : ∀ {T : Type} (K : Option T), ck (nI t) 6 K = K := fun K => ck_in (by omega) (by decide)
  have c13 : ∀ {T : Type} (K : Option T), ck (1 : Int32) 3 K = K := fun K => rfl
  have i1 : ix (1 : Int32) = 1 := rfl
  have ip : ix (nI p) = p := ix_n (by omega)
  have it : ix (nI t) = t := ix_n (by omega)
  have hun := un_b hB0 hk (show p < 10 by omega) (show t < 6 by omega)
  have hsa := sa_b hB0 hk (show p < 10 by omega) (show t < 6 by omega)
  have hu20 : ∀ i, 20 ≤ i → i < 32 → bt ((gI m 12 p &&& gI m 13 t) &&& (gI m a 9 ^^^ -1)) i = false := fun i h1 h2 => by rw [hun i h2, decide_eq_false (by omega)]; rfl
  have hs20 : ∀ i, 20 ≤ i → i < 32 → bt ((gI m 12 p &&& gI m 13 t) &&& gI m a 9) i = false := fun i h1 h2 => by rw [hsa i h2, decide_eq_false (by omega)]; rfl
  have hN20 : fb_ct (fun k => Kn m' p t k && !Sd m' k) C ≤ 20 := Nat.le_trans (fb_ct_le _ C) n9
  have hbc := unsaid_X hB0 hk (show p < 10 by omega) (show t < 6 by omega)
  have hu9 := unsaid_v hB0 (show p < 10 by omega) (show t < 6 by omega)
  -- counts below a card
  have cnt : ∀ i, i ≤ C → fb_ct (bt ((gI m 12 p &&& gI m 13 t) &&& (gI m a 9 ^^^ -1))) i = fb_ct (fun k => Kn m' p t k && !Sd m' k) i := fun i hi => fb_ct_cong (fun k hk => by rw [hun k (by omega), decide_eq_true (by omega), Bool.true_and])
  have cntN : ∀ i, i < C → (Kn m' p t i && !Sd m' i) = true → fb_ct (fun k => Kn m' p t k && !Sd m' k) i < fb_ct (fun k => Kn m' p t k && !Sd m' k) C := fun i hi hf => by
    have h1 := fb_ct_mono (fun k => Kn m' p t k && !Sd m' k) (show i + 1 ≤ C from hi)
    rw [fb_ct_succ, hf] at h1
    simp at h1
    omega
  -- the class, from the number of cards on
  have J75 : ∀ (w : Nat) (v6 : Int32) (hw : w < 2 ^ 31), ∃ y, (∀ i, i < 32 → bt y i = (bt ((gI m 12 p &&& gI m 13 t) &&& (gI m a 9 ^^^ -1)) i && decide (fb_ct (bt ((gI m 12 p &&& gI m 13 t) &&& (gI m a 9 ^^^ -1))) i < w))) ∧ f_X3_speak_J75 a (nI p) (nI t) (gI m 12 p &&& gI m 13 t) ((gI m 12 p &&& gI m 13 t) &&& (gI m a 9 ^^^ -1)) v v6 (nI w) m = f_X3_speak_J105 a (nI p) (nI t) ((gI m 12 p &&& gI m 13 t) &&& (gI m a 9 ^^^ -1)) v v6 y (AG m' C p t y) m := fun w v6 hw => by
    obtain ⟨y, y1, y2⟩ := lowestBits_v hu20 hw m
    refine ⟨y, y2, ?_⟩
    unfold f_X3_speak_J75 AG
    rw [y1, some_bind]
    by_cases hy : y = 0
    · rw [if_neg (fun z => z hy), if_neg (fun z => z hy)]
      show (f_X3_lowestPlace ((gI m 12 p &&& gI m 13 t) &&& gI m a 9) m).bind _ = _
      rw [lowestPlace_v hs20, some_bind, fi_C n9 (fun i hi => hsa i (by omega))]
      rfl
    · rw [if_pos hy, if_pos hy]
  have e16 : gI m a 16 - 1 = nI (x - 1) := by rw [f2, nD_sub (by omega)]
  have e27 : gI m' 85 27 = nI x := by rw [← f1, f2]
  have hmn : mnI (1 : Int32) (nI (x - 1)) = nI (min 1 (x - 1)) := mn_n (a := 1) (by decide) (by omega)
  have hmx : mnI (nI x) (1 + nI (fb_ct (fun k => Kn m' p t k && !Sd m' k) C)) = nI (min x (1 + fb_ct (fun k => Kn m' p t k && !Sd m' k) C)) := by
    rw [show (1 : Int32) + nI (fb_ct (fun k => Kn m' p t k && !Sd m' k) C) = nI (1 + fb_ct (fun k => Kn m' p t k && !Sd m' k) C) from nI_add 1 _]
    exact mn_n (by omega) (by omega)
  generalize hNN : fb_ct (fun k => Kn m' p t k && !Sd m' k) C = N at *
  have hst : ∀ z : Nat, z ≤ 10 → ((2 : Int32) * nI z + 2) / 3 = nI ((2 * z + 2) / 3) := fun z hz => by
    rw [show (2 : Int32) * nI z = nI (2 * z) from nI_mul 2 z, show nI (2 * z) + 2 = nI (2 * z + 2) from nI_add _ 2]
    exact nI_div (b := 3) (by omega) (by decide) (by decide)
  have sd01 : sd = 0 ∨ sd = 1 := by omega
  have hstd : gI m 11 1 = 1 ↔ sd = 1 := by
    rw [sd2]
    rcases sd01 with rfl | rfl
    · exact ⟨fun z => absurd z (by decide), fun z => absurd z (by decide)⟩
    · exact ⟨fun _ => rfl, fun _ => rfl⟩
  -- the reference, to J72
  have R72 : f_X9_speaks (nI p) (nI t) m' = f_X9_speaks_J72 (nI p) (nI t) (nI (LN (decide (sd = 1)) false x N)) (nI (min N (x - 1))) m' := by
    have R50 : ∀ z : Nat, f_X9_speaks_J50 (nI p) (nI t) (nI N) (nI z) m' = f_X9_speaks_J72 (nI p) (nI t) (nI z) (nI (min N (x - 1))) m' := fun z => by
      unfold f_X9_speaks_J50
      rw [e27, nD_sub (by omega)]
      by_cases q : x - 1 ≤ N
      · rw [if_pos (nI_le q (by omega)), show min N (x - 1) = x - 1 by omega]
      · rw [if_neg (nI_ge (by omega) (by omega)), show min N (x - 1) = N by omega]
    have R27 : ∀ z : Nat, z ≤ 10 → f_X9_speaks_J27 (nI p) (nI t) (nI N) (nI z) m' = f_X9_speaks_J72 (nI p) (nI t) (nI (if decide (sd = 1) = true then (2 * z + 2) / 3 else z)) (nI (min N (x - 1))) m' := fun z hz => by
      unfold f_X9_speaks_J27
      rw [← sd1]
      by_cases q : sd = 1
      · rw [if_neg (fun w => w (hstd.mpr q)), hst z hz, R50, if_pos (decide_eq_true q)]
      · rw [if_pos (fun w => q (hstd.mp w)), R50, if_neg (fun w => q (of_decide_eq_true w))]
    unfold f_X9_speaks
    rw [hu9, some_bind]
    show (if (1 : Int32) + nI N ≤ gI m' 85 27 then f_X9_speaks_J27 (nI p) (nI t) (nI N) ((1 : Int32) + nI N) m' else f_X9_speaks_J27 (nI p) (nI t) (nI N) (gI m' 85 27) m') = _
    rw [e27, show (1 : Int32) + nI N = nI (1 + N) from nI_add 1 N]
    unfold LN
    by_cases q : 1 + N ≤ x
    · rw [if_pos (nI_le q (by omega)), R27 _ (by omega), show min x (1 + N) = 1 + N by omega]; rfl
    · rw [if_neg (nI_ge (by omega) (by omega)), R27 _ (by omega), show min x (1 + N) = x by omega]; rfl
  have hX : f_X3_speak a (nI p) (nI t) m = if v = -2 then f_X3_speak_J49 a (nI p) (nI t) (gI m 12 p &&& gI m 13 t) ((gI m 12 p &&& gI m 13 t) &&& (gI m a 9 ^^^ -1)) v 0 m else f_X3_speak_J49 a (nI p) (nI t) (gI m 12 p &&& gI m 13 t) ((gI m 12 p &&& gI m 13 t) &&& (gI m a 9 ^^^ -1)) v 1 m := by
    unfold f_X3_speak
    simp only [cp, ct, ip, it, bnd, o1, some_bind]
  have hag : ∀ y, AG m' C p t y = -2 ∨ ∃ k, k < 20 ∧ AG m' C p t y = nI k := fun y => by
    rcases AG_v (m' := m') (C := C) (p := p) (t := t) (y := y) with e | ⟨k, k1, k2, -⟩
    · exact Or.inl e
    · exact Or.inr ⟨k, by omega, k2⟩
  have hLN : ∀ b c, 1 ≤ LN b c x N ∧ LN b c x N ≤ 9 := fun b c => by
    unfold LN
    cases c <;> cases b <;> simp <;> omega
  rcases o3 with rfl | ⟨b, hb, rfl⟩
  · -- not stopped
    obtain ⟨y, y2, y3⟩ := J75 (x - 1) 0 (by omega)
    have hlen : f_X3_lengthOf a (nI N) m = some (nI (LN (decide (sd = 1)) false x N), m) := by
      unfold f_X3_lengthOf LN
      simp only [bnd, f2, c13, i1]
      rw [hmx]
      by_cases q : sd = 1
      · rw [if_neg (fun w => w (hstd.mpr q)), hst _ (by omega), if_neg (show ¬ (false = true) by decide), if_pos (decide_eq_true q)]
      · rw [if_pos (fun w => q (hstd.mp w)), if_neg (show ¬ (false = true) by decide), if_neg (fun w => q (of_decide_eq_true w))]
    obtain ⟨q, q1, q2, q3, q4⟩ := J125_v (a := a) (t := t) (show p < 10 by omega) (m := m) (-2) 0 y (AG m' C p t y) (nI (LN (decide (sd = 1)) false x N)) (hag y) (Or.inl ⟨rfl, rfl⟩)
    refine ⟨-2, y, LN (decide (sd = 1)) false x N, min N (x - 1), q, m', hLN _ _, Or.inl rfl, ?_, q2, q3, q4, ?_, by omega, fun i hi => ?_⟩
    · rw [hX, if_pos rfl]
      unfold f_X3_speak_J49
      rw [if_pos rfl, e16, y3]
      unfold f_X3_speak_J105
      rw [if_pos rfl, hbc, some_bind, hlen, some_bind]
      exact q1
    · rw [R72]
      unfold f_X9_speaks_J72
      rw [o2, some_bind, if_pos (show ((-2 : Int32), m').1 < 0 from (by decide : (-2 : Int32) < 0))]
    · rw [y2 i hi, hun i hi]
      by_cases hc : i < C
      · rw [decide_eq_true hc, Bool.true_and, Bool.true_and, cnt i (by omega)]
        cases hf : (Kn m' p t i && !Sd m' i)
        · rfl
        · rw [decide_eq_decide.mpr]
          have := cntN i hc hf
          omega
      · rw [decide_eq_false hc]; rfl
  · -- stopped
    have hv2 : ¬ nI b = -2 := fun z => by
      have := congrArg Int32.toInt z
      rw [nI_toInt (by omega)] at this
      change _ = (-2 : Int) at this
      omega
    obtain ⟨y, y2, y3⟩ := J75 (min 1 (x - 1)) 1 (by omega)
    obtain ⟨q, q1, q2, q3, q4⟩ := J125_v (a := a) (t := t) (show p < 10 by omega) (m := m) (nI b) 1 y (AG m' C p t y) (nI 1) (hag y) (Or.inr ⟨b, by omega, rfl, rfl⟩)
    refine ⟨nI b, y, 1, min (min N (x - 1)) 1, q, m', ⟨by omega, by omega⟩, Or.inr ⟨b, hb, rfl⟩, ?_, q2, q3, q4, ?_, by omega, fun i hi => ?_⟩
    · rw [hX, if_neg hv2]
      unfold f_X3_speak_J49
      rw [if_neg (show ¬ ((1 : Int32) = 0) by decide), e16, hmn, y3]
      unfold f_X3_speak_J105
      rw [if_neg (show ¬ ((1 : Int32) = 0) by decide)]
      exact q1
    · rw [R72]
      unfold f_X9_speaks_J72 f_X9_speaks_J101
      rw [o2, some_bind, if_neg (show ¬ (nI b, m').1 < 0 from nn_lt0 (by omega))]
      by_cases q : min N (x - 1) ≤ 1
      · rw [if_pos (show nI (min N (x - 1)) ≤ (1 : Int32) from nI_le (b := 1) q (by decide)), show min (min N (x - 1)) 1 = min N (x - 1) by omega]; rfl
      · rw [if_neg (show ¬ nI (min N (x - 1)) ≤ (1 : Int32) from nI_ge (a := 1) (by omega) (by omega)), show min (min N (x - 1)) 1 = 1 by omega]; rfl
    · rw [y2 i hi, hun i hi]
      by_cases hc : i < C
      · rw [decide_eq_true hc, Bool.true_and, Bool.true_and, cnt i (by omega)]
        cases hf : (Kn m' p t i && !Sd m' i)
        · rfl
        · rw [decide_eq_decide.mpr]
          have := cntN i hc hf
          omega
      · rw [decide_eq_false hc]; rfl
