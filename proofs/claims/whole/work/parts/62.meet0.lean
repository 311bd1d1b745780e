/-! A MEETING: what the two sides share -/
def ITs2 (m m' : Mem) : Prop := (gI m 11 0 = gI m' 85 13 ∧ ∃ s, s ≤ 5 ∧ gI m 11 0 = nI s) ∧ (gI m 11 1 = gI m' 85 14 ∧ ∃ s, s ≤ 1 ∧ gI m 11 1 = nI s) ∧ gI m 11 2 = gI m' 85 15 ∧ ∃ s, 1 ≤ s ∧ s ≤ 9 ∧ gI m 11 2 = nI s
def SL (m n : Mem) : Prop := gI n 14 5 = gI m 14 5 ∧ (∀ i, gI n 17 i = gI m 17 i) ∧ (∀ i, gI n 18 i = gI m 18 i) ∧ n.2.2 = m.2.2
def SL' (m n : Mem) : Prop := gI n 85 19 = gI m 85 19 ∧ ∀ i, gI n 95 i = gI m 95 i
def IL (m m' : Mem) : Prop := ∃ val : (Nat → Int32) → Int32, (∀ n ag, (ag = 37 ∨ ag = 49 ∨ ag = 65) → SL m n → ∃ n1, f_X2_value ag n = some (val (fun j => gI n ag j), n1)) ∧ ∀ n' p t c s u x, p < 10 → t < 6 → SL' m' n' → ∀ N : Nat → Int32, N 0 = gI n' 86 p → N 1 = gI n' 86 (10 + p) → N 2 = gI n' 86 (36 + t) → N 3 = c → N 4 = s → N 5 = u → N 6 = nI p → N 7 = x → ∃ n1, f_X9_wishOf (nI p) (nI t) c s u x n' = some (val N, n1)
def TB (P T C V : Nat) (m m' : Mem) : Prop := ITn2 P T C V m m' ∧ ITp2 m m' ∧ ITt2 m m' ∧ ITc2 T C m m' ∧ ITb C m ∧ ITs2 m m' ∧ IL m m'
def TS (m n : Mem) : Prop := (∀ c, 2 ≤ c → c ≤ 13 → ∀ i, gI n c i = gI m c i) ∧ (∀ i, 13 ≤ i → i ≤ 16 → gI n 1 i = gI m 1 i) ∧ SL m n
def TS' (m n : Mem) : Prop := (∀ c, (c = 86 ∨ (90 ≤ c ∧ c ≤ 93)) → ∀ i, gI n c i = gI m c i) ∧ (∀ i, (i = 6 ∨ i = 8 ∨ i = 9 ∨ i = 13 ∨ i = 14 ∨ i = 15) → gI n 85 i = gI m 85 i) ∧ SL' m n
theorem SL.tr {m n q : Mem} (h : SL m n) (k : SL n q) : SL m q := ⟨k.1.trans h.1, fun i => (k.2.1 i).trans (h.2.1 i), fun i => (k.2.2.1 i).trans (h.2.2.1 i), k.2.2.2.trans h.2.2.2⟩
theorem SL'.tr {m n q : Mem} (h : SL' m n) (k : SL' n q) : SL' m q := ⟨k.1.trans h.1, fun i => (k.2 i).trans (h.2 i)⟩
theorem TS.tr {m n q : Mem} (h : TS m n) (k : TS n q) : TS m q := ⟨fun c h1 h2 i => (k.1 c h1 h2 i).trans (h.1 c h1 h2 i), fun i h1 h2 => (k.2.1 i h1 h2).trans (h.2.1 i h1 h2), h.2.2.tr k.2.2⟩
theorem TS'.tr {m n q : Mem} (h : TS' m n) (k : TS' n q) : TS' m q := ⟨fun c h1 i => (k.1 c h1 i).trans (h.1 c h1 i), fun i h1 => (k.2.1 i h1).trans (h.2.1 i h1), h.2.2.tr k.2.2⟩
theorem TS.rf {m : Mem} : TS m m := ⟨fun _ _ _ _ => rfl, fun _ _ _ => rfl, rfl, fun _ => rfl, fun _ => rfl, rfl⟩
theorem TS'.rf {m : Mem} : TS' m m := ⟨fun _ _ _ => rfl, fun _ _ => rfl, rfl, fun _ => rfl⟩
theorem TS_fr {l : List (Nat × Option Nat)} {m n : Mem} (h : Fr l m n) (hq : l.all (fun q => !(((2 ≤ q.1 && q.1 ≤ 13) || q.1 == 17 || q.1 == 18 || q.1 == 1000) || (q.1 == 1) || (q.1 == 14 && (q.2 == none || q.2 == some 5)))) = true) : TS m n := by
  have key : ∀ q ∈ l, ¬ (2 ≤ q.1 ∧ q.1 ≤ 13) ∧ q.1 ≠ 17 ∧ q.1 ≠ 18 ∧ q.1 ≠ 1000 ∧ q.1 ≠ 1 ∧ ¬ (q.1 = 14 ∧ (q.2 = none ∨ q.2 = some 5)) := fun q h1 => by
    have := List.all_eq_true.mp hq q h1
    simp at this
    refine ⟨fun z => ?_, ?_, ?_, ?_, ?_, fun z => ?_⟩
    · omega
    · omega
    · omega
    · omega
    · omega
    · rcases this.2 with w | w
      · exact w z.1
      · rcases z.2 with e | e <;> simp [e] at w
  have pl : ∀ c i, (∀ q ∈ l, q.1 = c → ¬ (q.2 = none ∨ q.2 = some i)) → gI n c i = gI m c i := fun c i hq => (h.1 c i hq).1
  refine ⟨fun c h1 h2 i => pl c i (fun q a b _ => (key q a).1 (by omega)), fun i h1 h2 => pl 1 i (fun q a b _ => (key q a).2.2.2.2.1 b), pl 14 5 (fun q a b z => (key q a).2.2.2.2.2 ⟨b, z⟩), fun i => pl 17 i (fun q a b _ => (key q a).2.1 b), fun i => pl 18 i (fun q a b _ => (key q a).2.2.1 b), h.2 (fun q => (key _ q).2.2.2.1 rfl)⟩
theorem TS'_fr {l : List (Nat × Option Nat)} {m n : Mem} (h : Fr l m n) (hq : l.all (fun q => !((q.1 == 86 || q.1 == 95 || (90 ≤ q.1 && q.1 ≤ 93)) || (q.1 == 85 && (q.2 == none || q.2 == some 6 || q.2 == some 8 || q.2 == some 9 || q.2 == some 13 || q.2 == some 14 || q.2 == some 15 || q.2 == some 19)))) = true) : TS' m n := by
  have key : ∀ q ∈ l, q.1 ≠ 86 ∧ q.1 ≠ 95 ∧ ¬ (90 ≤ q.1 ∧ q.1 ≤ 93) ∧ ∀ i, (i = 6 ∨ i = 8 ∨ i = 9 ∨ i = 13 ∨ i = 14 ∨ i = 15 ∨ i = 19) → ¬ (q.1 = 85 ∧ (q.2 = none ∨ q.2 = some i)) := fun q h1 => by
    have := List.all_eq_true.mp hq q h1
    simp at this
    refine ⟨?_, ?_, fun z => ?_, fun i hi z => ?_⟩
    · omega
    · omega
    · omega
    · rcases this.2 with w | w
      · exact w z.1
      · rcases z.2 with e | e
        · simp [e] at w
        · rcases hi with rfl | rfl | rfl | rfl | rfl | rfl | rfl <;> simp [e] at w
  have pl : ∀ c i, (∀ q ∈ l, q.1 = c → ¬ (q.2 = none ∨ q.2 = some i)) → gI n c i = gI m c i := fun c i hq => (h.1 c i hq).1
  refine ⟨fun c h1 i => pl c i (fun q a b _ => ?_), fun i h1 => pl 85 i (fun q a b z => (key q a).2.2.2 i (by omega) ⟨b, z⟩), pl 85 19 (fun q a b z => (key q a).2.2.2 19 (by omega) ⟨b, z⟩), fun i => pl 95 i (fun q a b _ => (key q a).2.1 b)⟩
  obtain ⟨k1, k2, k3, -⟩ := key q a
  rcases h1 with e | e
  · exact k1 (by omega)
  · exact k3 (by omega)
theorem TB_cong {P T C V : Nat} {m m' n n' : Mem} (h : TB P T C V m m') (hs : TS m n) (hs' : TS' m' n') : TB P T C V n n' := by
  obtain ⟨⟨⟨n1, n2, n3⟩, ⟨n4, n5, n6⟩, ⟨n7, n8, n9⟩, n0⟩, hp, ht, hc, hb, hS, val, hL, hL'⟩ := h
  obtain ⟨s1, s2, s3⟩ := hs
  obtain ⟨r1, r2, r3⟩ := hs'
  refine ⟨⟨⟨(s2 13 (by decide) (by decide)).trans n1, (r2 6 (by decide)).trans n2, n3⟩, ⟨(s2 14 (by decide) (by decide)).trans n4, (r2 8 (by decide)).trans n5, n6⟩, ⟨(s2 15 (by decide) (by decide)).trans n7, (r2 9 (by decide)).trans n8, n9⟩, (s2 16 (by decide) (by decide)).trans n0⟩, fun p hp9 => ?_, fun p hp9 => ?_, fun k hk => ?_, ?_, ?_, val, fun q ag hag hq => hL q ag hag (s3.tr hq), fun q p t c s u x h1 h2 hq => hL' q p t c s u x h1 h2 (r3.tr hq)⟩
  · rw [s1 2 (by decide) (by decide), s1 3 (by decide) (by decide), s1 4 (by decide) (by decide), s1 5 (by decide) (by decide), r1 86 (by decide), r1 86 (by decide), r1 86 (by decide), r1 90 (by decide)]
    exact hp p hp9
  · rw [s1 6 (by decide) (by decide), s1 7 (by decide) (by decide), r1 86 (by decide), r1 86 (by decide)]
    exact ht p hp9
  · rw [s1 8 (by decide) (by decide), s1 9 (by decide) (by decide), s1 10 (by decide) (by decide), r1 91 (by decide), r1 92 (by decide), r1 93 (by decide)]
    exact hc k hk
  · refine ⟨fun p hp i hi => ?_, fun t ht i hi => ?_⟩
    · rw [s1 12 (by decide) (by decide), s1 10 (by decide) (by decide)]
      exact hb.1 p hp i hi
    · rw [s1 13 (by decide) (by decide), s1 8 (by decide) (by decide)]
      exact hb.2 t ht i hi
  · unfold ITs2
    rw [s1 11 (by decide) (by decide), s1 11 (by decide) (by decide), s1 11 (by decide) (by decide), r2 13 (by decide), r2 14 (by decide), r2 15 (by decide)]
    exact hS
/-- a meeting's fields, people, cards, things -/
def RF (a P S : Nat) (m m' : Mem) : Prop := (gI m a 7 = nI S ∧ gI m' 85 30 = nI S ∧ S ≤ 200) ∧ (∃ U, U ≤ 9 * S ∧ gI m a 8 = nI U ∧ gI m' 85 29 = nI U) ∧ (gI m a 18 = gI m' 85 31 ∧ (gI m a 18 = -1 ∨ ∃ q, q < P ∧ gI m a 18 = nI q)) ∧ gI m a 15 = gI m' 85 26 ∧ (gI m a 16 = gI m' 85 27 ∧ ∃ x, 1 ≤ x ∧ x ≤ 9 ∧ gI m a 16 = nI x) ∧ gI m a 17 = gI m' 85 28
def RP (a P : Nat) (m m' : Mem) : Prop := ∀ p, p < P → gI m (a + 10) p = gI m' 97 p ∧ gI m (a + 11) p = gI m' 99 p
def Sd (m' : Mem) (i : Nat) : Bool := !decide (gI m' 100 i = -2)
def RK (a C : Nat) (m m' : Mem) : Prop := (∀ k, k < C → gI m (a + 3) k = gI m' 100 k ∧ gI m (a + 4) k = gI m' 101 k) ∧ ∀ i, i < 32 → bt (gI m a 9) i = (decide (i < C) && Sd m' i)
def RTh (a T S : Nat) (m m' : Mem) : Prop := ∀ t, t < T → gI m (a + 2) t = gI m' 102 t ∧ ∃ x, x ≤ 9 * S ∧ gI m (a + 2) t = nI x
def Th (m' : Mem) (p : Nat) : Bool := decide (¬ nI p = gI m' 85 28 ∧ ¬ gI m' 85 29 < gI m' 86 (20 + p))
theorem there_v {P T C V S a p : Nat} {m m' : Mem} (h : TB P T C V m m') (hf : RF a P S m m') (hp : p < P) : f_X3_isThere a (nI p) m = some (bi (Th m' p), m) ∧ f_X9_isThere (nI p) m' = some (bi (Th m' p), m') := by
  obtain ⟨⟨⟨-, -, hP⟩, -⟩, hpp, -⟩ := h
  obtain ⟨-, ⟨U, -, u1, u2⟩, -, -, -, f17⟩ := hf
  obtain ⟨⟨-, -, l1, -⟩, -⟩ := hpp p (by omega)
  have c1 : ∀ {T : Type} (K : Option T), ck (nI p) 10 K = K := fun K => ck_in (by omega) (by decide)
  have i1 : ix (nI p) = p := ix_n (by omega)
  have e20 : (20 : Int32) + nI p = nI (20 + p) := nI_add 20 p
  have c2 : ∀ {T : Type} (K : Option T), ck (nI (20 + p)) 42 K = K := fun K => ck_in (by omega) (by decide)
  have i2 : ix (nI (20 + p)) = 20 + p := ix_n (by omega)
  unfold f_X3_isThere f_X9_isThere Th
  rw [f17, c1, i1, l1, e20, c2, i2, u1, u2]
  by_cases q1 : nI p = gI m' 85 28
  · rw [if_pos q1, if_pos q1, decide_eq_false (fun z => z.1 q1), bz_0, bz_0]
    exact ⟨rfl, rfl⟩
  · rw [if_neg q1, if_neg q1]
    by_cases q2 : nI U < gI m' 86 (20 + p)
    · rw [if_pos q2, if_pos q2, decide_eq_false (fun z => z.2 q2), bz_0, bz_0]
      exact ⟨rfl, rfl⟩
    · rw [if_neg q2, if_neg q2, decide_eq_true ⟨q1, q2⟩, bz_1, bz_1]
      exact ⟨rfl, rfl⟩
theorem and1_bit {p : Nat} (hp : p < 31) (x : Int32) : ((x >>> (nI p &&& 31)) &&& 1) = bi (bt x p) := by
  apply b_ext
  intro i hi
  rw [b_and, b_1 i hi, b_sshr p (by omega) x hi]
  by_cases h : i = 0
  · subst h
    rw [decide_eq_true rfl, Bool.and_true, if_pos (by omega), Nat.add_zero]
    cases bt x p
    · rw [show bi false = 0 from rfl, b_0]
    · rfl
  · rw [decide_eq_false h, Bool.and_false]
    cases bt x p
    · rw [show bi false = 0 from rfl, b_0]
    · rw [show bi true = 1 from rfl, b_1 i hi, decide_eq_false h]
theorem knows_v {p k : Nat} (hp : p < 10) (hk : k < 20) (m' : Mem) : f_X9_knows (nI p) (nI k) m' = some (bi (bt (gI m' 93 k) p), m') := by
  unfold f_X9_knows
  rw [ck_in hk (by decide), ix_n (by omega), and1_bit (by omega)]
  cases bt (gI m' 93 k) p
  · rw [if_pos (show ¬ (bi false = 1) by decide), bz_0]; rfl
  · rw [if_neg (show ¬ ¬ (bi true = 1) by decide), bz_1]; rfl
theorem isSaid_v {k : Nat} (hk : k < 20) (m' : Mem) : f_X9_isSaid (nI k) m' = some (bi (Sd m' k), m') := by
  unfold f_X9_isSaid Sd
  rw [ck_in hk (by decide), ix_n (by omega)]
  by_cases q : gI m' 100 k = -2
  · rw [if_pos q, bz_0, decide_eq_true q]; rfl
  · rw [if_neg q, bz_1, decide_eq_false q]; rfl
def Kn (m' : Mem) (p t i : Nat) : Bool := decide (gI m' 91 i = nI t) && bt (gI m' 93 i) p
theorem kn_b {P T C V p t : Nat} {m m' : Mem} (h : TB P T C V m m') (hp : p < 10) (ht : t < 6) : ∀ i, i < 32 → bt (gI m 12 p &&& gI m 13 t) i = (decide (i < C) && Kn m' p t i) := by
  intro i hi
  obtain ⟨⟨-, -, ⟨-, -, hC⟩, -⟩, -, -, hc, hb, -⟩ := h
  rw [b_and, hb.1 p hp i hi, hb.2 t ht i hi]
  by_cases q : i < C
  · obtain ⟨⟨a1, -, a3⟩, -⟩ := hc i (by omega)
    rw [decide_eq_true q, Bool.true_and, Bool.true_and, Bool.true_and, a1, a3]
    unfold Kn
    rw [Bool.and_comm]
  · rw [decide_eq_false q]; rfl
theorem un_b {P T C V p t a : Nat} {m m' : Mem} (h : TB P T C V m m') (hk : RK a C m m') (hp : p < 10) (ht : t < 6) : ∀ i, i < 32 → bt ((gI m 12 p &&& gI m 13 t) &&& (gI m a 9 ^^^ -1)) i = (decide (i < C) && (Kn m' p t i && !Sd m' i)) := by
  intro i hi
  rw [b_and, kn_b h hp ht i hi, b_xor, b_m1 i hi, hk.2 i hi]
  cases decide (i < C) <;> cases Kn m' p t i <;> cases Sd m' i <;> rfl
theorem sa_b {P T C V p t a : Nat} {m m' : Mem} (h : TB P T C V m m') (hk : RK a C m m') (hp : p < 10) (ht : t < 6) : ∀ i, i < 32 → bt ((gI m 12 p &&& gI m 13 t) &&& gI m a 9) i = (decide (i < C) && (Kn m' p t i && Sd m' i)) := by
  intro i hi
  rw [b_and, kn_b h hp ht i hi, hk.2 i hi]
  cases decide (i < C) <;> cases Kn m' p t i <;> cases Sd m' i <;> rfl
theorem ct_C {C : Nat} (hC : C ≤ 20) {f g : Nat → Bool} (h : ∀ i, i < 20 → f i = (decide (i < C) && g i)) : fb_ct f 20 = fb_ct g C := by
  obtain ⟨d, hd⟩ : ∃ d, 20 = C + d := ⟨20 - C, by omega⟩
  have e1 : fb_ct f C = fb_ct g C := fb_ct_cong (fun k hk => by rw [h k (by omega), decide_eq_true hk, Bool.true_and])
  have e2 : fb_ct (fun k => f (C + k)) d = 0 := fb_ct_zero.mpr (fun k hk => by
    show f (C + k) = false
    rw [h (C + k) (by omega), decide_eq_false (by omega)]; rfl)
  rw [hd, fb_ct_split, e1, e2, Nat.add_zero]
/-- a count over the cards, at the reference -/
theorem unsaid_v {P T C V p t : Nat} {m m' : Mem} (h : TB P T C V m m') (hp : p < 10) (ht : t < 6) : f_X9_unsaid (nI p) (nI t) m' = some (nI (fb_ct (fun k => Kn m' p t k && !Sd m' k) C), m') := by
  obtain ⟨⟨-, -, ⟨-, c9, hC⟩, -⟩, -⟩ := h
  have hw := wh_inv (body := f_X9_unsaid_L5) (fun k s => s = (nI p, nI t, nI (fb_ct (fun k => Kn m' p t k && !Sd m' k) k), nI k, m')) (fun r => r = (nI (fb_ct (fun k => Kn m' p t k && !Sd m' k) C), m')) C (fun k s hk hs => ?_) (fun s hs => ?_) 0 (nI p, nI t, 0, 0, m') (Nat.zero_le _) rfl
  · obtain ⟨r, h1, h2⟩ := hw
    unfold f_X9_unsaid
    rw [h1, h2]
  · subst hs
    left
    refine ⟨_, ?_, rfl⟩
    unfold f_X9_unsaid_L5
    have nk : ¬ nI C ≤ nI k := nI_ge hk (by omega)
    simp only [c9, nk, if_false, ck_in (show k < 20 by omega) (show 20 < 2 ^ 31 by decide), ix_n (show k < 2 ^ 31 by omega), knows_v hp (show k < 20 by omega), isSaid_v (show k < 20 by omega), some_bind, bnd, nI_1]
    rw [fb_ct_succ]
    unfold Kn
    by_cases q : gI m' 91 k = nI t
    · rw [if_neg (fun z => z q), decide_eq_true q]
      cases bt (gI m' 93 k) p
      · rw [if_pos (show bi false = 0 from rfl), Int32.add_zero]; rfl
      · rw [if_neg (show ¬ bi true = 0 by decide)]
        cases Sd m' k
        · rw [if_neg (show ¬ ¬ bi false = 0 by decide)]; rfl
        · rw [if_pos (show ¬ bi true = 0 by decide), Int32.add_zero]; rfl
    · rw [if_pos q, decide_eq_false q, Int32.add_zero]; rfl
  · subst hs
    refine ⟨_, ?_, rfl⟩
    unfold f_X9_unsaid_L5
    simp only [c9, nI_le (Nat.le_refl C) (show C < 2 ^ 31 by omega), if_true]
    rfl
theorem unsaid_X {P T C V p t a : Nat} {m m' : Mem} (h : TB P T C V m m') (hk : RK a C m m') (hp : p < 10) (ht : t < 6) (q : Mem) : f_J6_bitCount_0f7a4 ((gI m 12 p &&& gI m 13 t) &&& (gI m a 9 ^^^ -1)) q = some (nI (fb_ct (fun k => Kn m' p t k && !Sd m' k) C), q) := by
  have hC := h.1.2.2.1.2.2
  have hb := un_b h hk hp ht
  rw [pop_v (fun i h1 h2 => by rw [hb i h2, decide_eq_false (by omega)]; rfl), ct_C hC (fun i hi => hb i (by omega))]
