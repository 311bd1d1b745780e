/-! BITS OF SETS: how many, the lowest (the family fb_ct is pasted from kit/laws) -/
/-! ===== how many places have a property ===== -/
def fb_ct (p : Nat → Bool) : Nat → Nat
  | 0 => 0
  | n + 1 => fb_ct p n + (if p n then 1 else 0)
theorem fb_ct_succ (p : Nat → Bool) (n : Nat) : fb_ct p (n + 1) = fb_ct p n + (if p n then 1 else 0) := rfl
theorem fb_ct_le (p : Nat → Bool) : ∀ n, fb_ct p n ≤ n
  | 0 => Nat.le_refl _
  | n + 1 => by
    have h := fb_ct_le p n
    rw [fb_ct_succ]
    split <;> omega
theorem fb_ct_step (p : Nat → Bool) (m : Nat) : ∀ n, fb_ct p m ≤ fb_ct p (m + n)
  | 0 => Nat.le_refl _
  | n + 1 => by
    have h := fb_ct_step p m n
    show fb_ct p m ≤ fb_ct p (m + n + 1)
    rw [fb_ct_succ]
    omega
theorem fb_ct_mono (p : Nat → Bool) {m n : Nat} (h : m ≤ n) : fb_ct p m ≤ fb_ct p n := by
  have := fb_ct_step p m (n - m)
  rwa [Nat.add_sub_cancel' h] at this
theorem fb_ct_cong {p q : Nat → Bool} : ∀ {n : Nat}, (∀ k, k < n → p k = q k) → fb_ct p n = fb_ct q n
  | 0, _ => rfl
  | n + 1, h => by
    rw [fb_ct_succ, fb_ct_succ, fb_ct_cong (fun k hk => h k (by omega)), h n (by omega)]
/-- one place changed -/
theorem fb_ct_out (p : Nat → Bool) (b : Bool) {i n : Nat} (h : n ≤ i) : fb_ct (fun k => if k = i then b else p k) n = fb_ct p n :=
  fb_ct_cong fun k hk => if_neg (by omega)
theorem fb_ct_upd (p : Nat → Bool) (b : Bool) {i : Nat} : ∀ {n : Nat}, i < n → fb_ct (fun k => if k = i then b else p k) n + (if p i then 1 else 0) = fb_ct p n + (if b then 1 else 0)
  | 0, h => absurd h (Nat.not_lt_zero i)
  | n + 1, h => by
    rw [fb_ct_succ, fb_ct_succ]
    rcases Nat.lt_or_ge i n with q | q
    · have := fb_ct_upd p b q
      have e : (if n = i then b else p n) = p n := if_neg (by omega)
      rw [e]
      omega
    · have e : i = n := by omega
      subst e
      rw [fb_ct_out p b (Nat.le_refl _)]
      simp only [if_true]
      omega
theorem fb_ct_sub {p q : Nat → Bool} : ∀ {n : Nat}, (∀ k, k < n → p k = true → q k = true) → fb_ct p n ≤ fb_ct q n
  | 0, _ => Nat.le_refl _
  | n + 1, h => by
    have h1 := fb_ct_sub (n := n) (p := p) (q := q) (fun k hk => h k (by omega))
    have h2 := h n (by omega)
    rw [fb_ct_succ, fb_ct_succ]
    cases hp : p n <;> cases hq : q n <;> simp_all <;> omega
theorem fb_ct_or {p q : Nat → Bool} : ∀ {n : Nat}, (∀ k, k < n → ¬ (p k = true ∧ q k = true)) → fb_ct (fun k => p k || q k) n = fb_ct p n + fb_ct q n
  | 0, _ => rfl
  | n + 1, h => by
    have h1 := fb_ct_or (n := n) (p := p) (q := q) (fun k hk => h k (by omega))
    have h2 := h n (by omega)
    rw [fb_ct_succ, fb_ct_succ, fb_ct_succ, h1]
    cases hp : p n <;> cases hq : q n <;> simp_all <;> omega
theorem fb_ct_not (p : Nat → Bool) : ∀ n, fb_ct p n + fb_ct (fun k => !p k) n = n
  | 0 => rfl
  | n + 1 => by
    have h := fb_ct_not p n
    rw [fb_ct_succ, fb_ct_succ]
    cases p n <;> simp <;> omega
theorem fb_ct_split (p : Nat → Bool) (m : Nat) : ∀ n, fb_ct p (m + n) = fb_ct p m + fb_ct (fun k => p (m + k)) n
  | 0 => rfl
  | n + 1 => by
    have h := fb_ct_split p m n
    show fb_ct p (m + n + 1) = _
    rw [fb_ct_succ, fb_ct_succ, h, Nat.add_assoc]
theorem fb_ct_zero {p : Nat → Bool} : ∀ {n : Nat}, fb_ct p n = 0 ↔ ∀ k, k < n → p k = false
  | 0 => ⟨fun _ k hk => absurd hk (Nat.not_lt_zero k), fun _ => rfl⟩
  | n + 1 => by
    have h := fb_ct_zero (p := p) (n := n)
    rw [fb_ct_succ]
    constructor
    · intro e k hk
      have e1 : fb_ct p n = 0 := by omega
      rcases Nat.lt_or_ge k n with q | q
      · exact h.mp e1 k q
      · have ek : k = n := by omega
        subst ek
        cases hp : p k
        · rfl
        · simp [hp] at e
    · intro a
      rw [h.mpr (fun k hk => a k (by omega)), a n (by omega)]
      rfl
theorem fb_ct_pos {p : Nat → Bool} {n : Nat} : 0 < fb_ct p n ↔ ∃ k, k < n ∧ p k = true := by
  constructor
  · intro h
    refine Classical.byContradiction fun hx => ?_
    have := fb_ct_zero.mpr (fun k hk => by
      cases hp : p k
      · rfl
      · exact absurd ⟨k, hk, hp⟩ hx : ∀ k, k < n → p k = false)
    omega
  · rintro ⟨k, hk, hp⟩
    rcases Nat.eq_zero_or_pos (fb_ct p n) with e | e
    · have := fb_ct_zero.mp e k hk
      rw [this] at hp
      cases hp
    · exact e
theorem fb_ct_all {p : Nat → Bool} {n : Nat} : fb_ct p n = n ↔ ∀ k, k < n → p k = true := by
  have h := fb_ct_not p n
  constructor
  · intro e k hk
    have z : fb_ct (fun k => !p k) n = 0 := by omega
    have := fb_ct_zero.mp z k hk
    cases hp : p k
    · simp [hp] at this
    · rfl
  · intro a
    have z : fb_ct (fun k => !p k) n = 0 := fb_ct_zero.mpr (fun k hk => by simp [a k hk])
    omega
/-- the k-th place with the property -/
theorem fb_ct_kth {p : Nat → Bool} {k : Nat} : ∀ {n : Nat}, k < fb_ct p n → ∃ i, i < n ∧ p i = true ∧ fb_ct p i = k
  | 0, h => absurd h (Nat.not_lt_zero k)
  | n + 1, h => by
    rcases Nat.lt_or_ge k (fb_ct p n) with q | q
    · obtain ⟨i, h1, h2⟩ := fb_ct_kth q
      exact ⟨i, by omega, h2⟩
    · rw [fb_ct_succ] at h
      cases hp : p n
      · simp [hp] at h; omega
      · simp [hp] at h
        exact ⟨n, by omega, hp, by omega⟩
theorem fb_ct_kth_one {p : Nat → Bool} {i j : Nat} (hi : p i = true) (hj : p j = true) (e : fb_ct p i = fb_ct p j) : i = j := by
  have key : ∀ a b : Nat, a < b → p a = true → fb_ct p a < fb_ct p b := by
    intro a b hab ha
    have h := fb_ct_mono p (show a + 1 ≤ b from hab)
    rw [fb_ct_succ, ha] at h
    simp at h
    omega
  rcases Nat.lt_trichotomy i j with q | q | q
  · have := key i j q hi; omega
  · exact q
  · have := key j i q hj; omega

theorem bt_n (n : Nat) {i : Nat} (hi : i < 32) : bt (nI n) i = n.testBit i := by
  show (BitVec.ofNat 32 n).getLsbD i = _
  rw [BitVec.getLsbD_ofNat]
  simp [hi]
theorem nn_bits {x : Int32} {w : Nat} (hw : w ≤ 31) (h : ∀ i, w ≤ i → i < 32 → bt x i = false) : ∃ n, n < 2 ^ w ∧ x = nI n := by
  refine ⟨x.toBitVec.toNat, ?_, ?_⟩
  · apply Nat.lt_pow_two_of_testBit
    intro i hi
    by_cases h32 : i < 32
    · exact h i hi h32
    · exact Nat.testBit_lt_two_pow (Nat.lt_of_lt_of_le x.toBitVec.isLt (Nat.pow_le_pow_right (by decide) (by omega)))
  · apply Int32.toBitVec_inj.mp
    show _ = BitVec.ofNat 32 _
    rw [BitVec.ofNat_toNat, BitVec.setWidth_eq]
theorem ush_n {k j : Nat} (hk : k < 2 ^ 31) (hj : j < 32) : ((nI k).toUInt32 >>> ((nI j).toUInt32 &&& Int32.toUInt32 31)).toInt32 = nI (k / 2 ^ j) := by
  apply b_ext
  intro i hi
  rw [b_ushr j hj, bt_n _ hi, ← Nat.shiftRight_eq_div_pow, Nat.testBit_shiftRight]
  by_cases h : j + i < 32
  · rw [bt_n _ h]
  · rw [b_big (by omega)]
    exact (Nat.testBit_lt_two_pow (Nat.lt_of_lt_of_le hk (Nat.pow_le_pow_right (by decide) (by omega)))).symm
theorem a8 {a c : Nat} (ha : a < 256) (hc : c < 256) (b d : Nat) : (a + 256 * b) &&& (c + 256 * d) = (a &&& c) + 256 * (b &&& d) := by
  apply Nat.eq_of_testBit_eq
  intro i
  have e1 : ∀ u v, u < 256 → (u + 256 * v).testBit i = if i < 8 then u.testBit i else v.testBit (i - 8) := fun u v hu => by
    have := Nat.testBit_two_pow_mul_add v (b := u) (i := 8) hu i
    rw [Nat.add_comm]
    exact this
  have hac : (a &&& c) < 256 := Nat.lt_of_le_of_lt Nat.and_le_left ha
  rw [Nat.testBit_and, e1 _ _ ha, e1 _ _ hc, e1 _ _ hac]
  split
  · rw [Nat.testBit_and]
  · rw [Nat.testBit_and]
def h1 (u : Nat) : Nat := u - ((u / 2) &&& 85)
def h2 (u : Nat) : Nat := (u &&& 51) + ((u / 4) &&& 51)
def h3 (u : Nat) : Nat := (u + u / 16) % 16
theorem hf1 : ∀ u, u < 256 → ∀ w, w < 2 → ((u / 2 + 128 * w) &&& 85) = ((u / 2) &&& 85) ∧ ((u / 2) &&& 85) ≤ u ∧ h1 u < 256 := by decide +kernel
theorem hf2 : ∀ u, u < 256 → ∀ w, w < 4 → ((u / 4 + 64 * w) &&& 51) = ((u / 4) &&& 51) ∧ (u &&& 51) ≤ 51 ∧ ((u / 4) &&& 51) ≤ 51 := by decide +kernel
theorem hf3 : ∀ u, u < 256 → h2 (h1 u) ≤ 68 ∧ h2 (h1 u) % 16 ≤ 4 ∧ h3 (h2 (h1 u)) = fb_ct u.testBit 8 := by decide +kernel
theorem pop_fin : ∀ x y z : Nat, x ≤ 8 → y ≤ 8 → z ≤ 8 → (x + 256 * (y + 256 * z) + (x + 256 * (y + 256 * z)) / 2 ^ 8 + (x + 256 * (y + 256 * z) + (x + 256 * (y + 256 * z)) / 2 ^ 8) / 2 ^ 16) % 64 = x + y + z := by
  intro x y z hx hy hz
  have e1 : (x + 256 * (y + 256 * z)) / 2 ^ 8 = y + 256 * z := by omega
  have e2 : (x + 256 * (y + 256 * z) + (y + 256 * z)) / 2 ^ 16 = z := by omega
  rw [e1, e2]
  omega
theorem pop_n {a b c : Nat} (ha : a < 256) (hb : b < 256) (hc : c < 256) (m : Mem) : f_J6_bitCount_0f7a4 (nI (a + 256 * (b + 256 * c))) m = some (nI (fb_ct a.testBit 8 + fb_ct b.testBit 8 + fb_ct c.testBit 8), m) := by
  have c1 : (1431655765 : Int32) = nI (85 + 256 * (85 + 256 * (85 + 256 * 85))) := by decide
  have c2 : (858993459 : Int32) = nI (51 + 256 * (51 + 256 * (51 + 256 * 51))) := by decide
  have c3 : (252645135 : Int32) = nI (15 + 256 * (15 + 256 * (15 + 256 * 15))) := by decide
  have c4 : (63 : Int32) = nI 63 := rfl
  have sh : ∀ k j, k < 2 ^ 31 → j < 32 → ((nI k).toUInt32 >>> ((nI j).toUInt32 &&& Int32.toUInt32 31)).toInt32 = nI (k / 2 ^ j) := fun k j => ush_n
  -- step 1
  obtain ⟨p1, p2, p3⟩ := hf1 a ha (b % 2) (by omega)
  obtain ⟨q1, q2, q3⟩ := hf1 b hb (c % 2) (by omega)
  obtain ⟨r1, r2, r3⟩ := hf1 c hc 0 (by omega)
  have x1 : (a + 256 * (b + 256 * c)) / 2 ^ 1 = (a / 2 + 128 * (b % 2)) + 256 * ((b / 2 + 128 * (c % 2)) + 256 * (c / 2 + 128 * 0 + 256 * 0)) := by omega
  have x2 : ((a + 256 * (b + 256 * c)) / 2 ^ 1) &&& (85 + 256 * (85 + 256 * (85 + 256 * 85))) = ((a / 2) &&& 85) + 256 * (((b / 2) &&& 85) + 256 * ((c / 2) &&& 85)) := by
    rw [x1, a8 (by omega) (by omega), a8 (by omega) (by omega), a8 (by omega) (by omega), p1, q1, r1, Nat.zero_and, Nat.mul_zero, Nat.add_zero]
  have y1 : nI (a + 256 * (b + 256 * c)) - nI (((a / 2) &&& 85) + 256 * (((b / 2) &&& 85) + 256 * ((c / 2) &&& 85))) = nI (h1 a + 256 * (h1 b + 256 * h1 c)) := by
    rw [nI_sub (by omega)]
    congr 1
    unfold h1
    omega
  -- step 2
  obtain ⟨s1, s2, s3⟩ := hf2 (h1 a) p3 (h1 b % 4) (by omega)
  obtain ⟨t1, t2, t3⟩ := hf2 (h1 b) q3 (h1 c % 4) (by omega)
  obtain ⟨u1, u2, u3⟩ := hf2 (h1 c) r3 0 (by omega)
  have x3 : (h1 a + 256 * (h1 b + 256 * h1 c)) / 2 ^ 2 = (h1 a / 4 + 64 * (h1 b % 4)) + 256 * ((h1 b / 4 + 64 * (h1 c % 4)) + 256 * (h1 c / 4 + 64 * 0 + 256 * 0)) := by omega
  have x4 : ((h1 a + 256 * (h1 b + 256 * h1 c)) / 2 ^ 2) &&& (51 + 256 * (51 + 256 * (51 + 256 * 51))) = ((h1 a / 4) &&& 51) + 256 * (((h1 b / 4) &&& 51) + 256 * ((h1 c / 4) &&& 51)) := by
    rw [x3, a8 (by omega) (by omega), a8 (by omega) (by omega), a8 (by omega) (by omega), s1, t1, u1, Nat.zero_and, Nat.mul_zero, Nat.add_zero]
  have x5 : (h1 a + 256 * (h1 b + 256 * h1 c)) &&& (51 + 256 * (51 + 256 * (51 + 256 * 51))) = (h1 a &&& 51) + 256 * ((h1 b &&& 51) + 256 * (h1 c &&& 51)) := by
    have z : h1 c &&& (51 + 256 * 51) = (h1 c &&& 51) := by
      have := a8 (a := h1 c) (c := 51) r3 (by decide) 0 51
      rw [Nat.mul_zero, Nat.add_zero, Nat.zero_and, Nat.mul_zero, Nat.add_zero] at this
      exact this
    rw [a8 p3 (by omega), a8 q3 (by omega), z]
  have y2 : nI ((h1 a &&& 51) + 256 * ((h1 b &&& 51) + 256 * (h1 c &&& 51))) + nI (((h1 a / 4) &&& 51) + 256 * (((h1 b / 4) &&& 51) + 256 * ((h1 c / 4) &&& 51))) = nI (h2 (h1 a) + 256 * (h2 (h1 b) + 256 * h2 (h1 c))) := by
    rw [nI_add]
    congr 1
    unfold h2
    omega
  -- step 3
  obtain ⟨v1, v2, v3⟩ := hf3 a ha
  obtain ⟨w1, w2, w3⟩ := hf3 b hb
  obtain ⟨z1, z2, z3⟩ := hf3 c hc
  generalize h2 (h1 a) = A at *
  generalize h2 (h1 b) = B at *
  generalize h2 (h1 c) = D at *
  have x6 : (A + 256 * (B + 256 * D)) + (A + 256 * (B + 256 * D)) / 2 ^ 4 = (A + A / 16 + 16 * (B % 16)) + 256 * ((B + B / 16 + 16 * (D % 16)) + 256 * ((D + D / 16) + 256 * 0)) := by omega
  have m15 : ∀ u, u &&& 15 = u % 16 := fun u => Nat.and_two_pow_sub_one_eq_mod u 4
  have x7 : ((A + 256 * (B + 256 * D)) + (A + 256 * (B + 256 * D)) / 2 ^ 4) &&& (15 + 256 * (15 + 256 * (15 + 256 * 15))) = h3 A + 256 * (h3 B + 256 * h3 D) := by
    rw [x6, a8 (by omega) (by omega), a8 (by omega) (by omega), a8 (by omega) (by omega), Nat.zero_and, m15, m15, m15]
    unfold h3
    omega
  have g1 : h3 A ≤ 8 := by rw [v3]; exact fb_ct_le _ 8
  have g2 : h3 B ≤ 8 := by rw [w3]; exact fb_ct_le _ 8
  have g3 : h3 D ≤ 8 := by rw [z3]; exact fb_ct_le _ 8
  unfold f_J6_bitCount_0f7a4
  simp only [bnd]
  have k1 : ((1 : Int32).toUInt32 &&& Int32.toUInt32 31) = ((nI 1).toUInt32 &&& Int32.toUInt32 31) := rfl
  have k2 : ((2 : Int32).toUInt32 &&& Int32.toUInt32 31) = ((nI 2).toUInt32 &&& Int32.toUInt32 31) := rfl
  have k4 : ((4 : Int32).toUInt32 &&& Int32.toUInt32 31) = ((nI 4).toUInt32 &&& Int32.toUInt32 31) := rfl
  have k8 : ((8 : Int32).toUInt32 &&& Int32.toUInt32 31) = ((nI 8).toUInt32 &&& Int32.toUInt32 31) := rfl
  have k16 : ((16 : Int32).toUInt32 &&& Int32.toUInt32 31) = ((nI 16).toUInt32 &&& Int32.toUInt32 31) := rfl
  rw [k1, k2, k4, k8, k16, c1, c2, c3, c4, sh _ 1 (by omega) (by decide), nx_and, x2, y1, nx_and, x5, sh _ 2 (by omega) (by decide), nx_and, x4, y2, sh _ 4 (by omega) (by decide), nI_add, nx_and, x7, sh _ 8 (by omega) (by decide), nI_add, sh _ 16 (by omega) (by decide), nI_add, nx_and]
  rw [← v3, ← w3, ← z3]
  have m63 : ∀ u, u &&& 63 = u % 64 := fun u => Nat.and_two_pow_sub_one_eq_mod u 6
  rw [m63, pop_fin _ _ _ g1 g2 g3]
theorem pop_v {x : Int32} (h : ∀ i, 20 ≤ i → i < 32 → bt x i = false) (m : Mem) : f_J6_bitCount_0f7a4 x m = some (nI (fb_ct (bt x) 20), m) := by
  obtain ⟨n, hn, rfl⟩ := nn_bits (by decide) h
  have e : n = n % 256 + 256 * (n / 256 % 256 + 256 * (n / 65536)) := by omega
  have hp := pop_n (a := n % 256) (b := n / 256 % 256) (c := n / 65536) (by omega) (by omega) (by omega) m
  rw [← e] at hp
  rw [hp]
  congr 3
  have e0 : fb_ct (bt (nI n)) 20 = fb_ct n.testBit 20 := fb_ct_cong (fun k hk => bt_n n (by omega))
  have e1 : fb_ct n.testBit (20 + 4) = fb_ct n.testBit 20 + fb_ct (fun k => n.testBit (20 + k)) 4 := fb_ct_split _ 20 4
  have e2 : fb_ct (fun k => n.testBit (20 + k)) 4 = 0 := fb_ct_zero.mpr (fun k hk => Nat.testBit_lt_two_pow (Nat.lt_of_lt_of_le hn (Nat.pow_le_pow_right (by decide) (by omega))))
  have e3 : fb_ct n.testBit (8 + 16) = fb_ct n.testBit 8 + fb_ct (fun k => n.testBit (8 + k)) (8 + 8) := fb_ct_split _ 8 16
  have e4 : fb_ct (fun k => n.testBit (8 + k)) (8 + 8) = fb_ct (fun k => n.testBit (8 + k)) 8 + fb_ct (fun k => n.testBit (8 + (8 + k))) 8 := fb_ct_split _ 8 8
  have f1 : fb_ct n.testBit 8 = fb_ct (n % 256).testBit 8 := fb_ct_cong (fun k hk => by
    rw [show (256 : Nat) = 2 ^ 8 from rfl, Nat.testBit_mod_two_pow, decide_eq_true hk, Bool.true_and])
  have f2 : fb_ct (fun k => n.testBit (8 + k)) 8 = fb_ct (n / 256 % 256).testBit 8 := fb_ct_cong (fun k hk => by
    rw [show n / 256 % 256 = n / 2 ^ 8 % 2 ^ 8 from rfl, Nat.testBit_mod_two_pow, decide_eq_true hk, Bool.true_and, Nat.testBit_div_two_pow, Nat.add_comm])
  have f3 : fb_ct (fun k => n.testBit (8 + (8 + k))) 8 = fb_ct (n / 65536).testBit 8 := fb_ct_cong (fun k hk => by
    rw [show n / 65536 = n / 2 ^ 16 from rfl, Nat.testBit_div_two_pow]; congr 1; omega)
  have e5 : fb_ct n.testBit (20 + 4) = fb_ct n.testBit (8 + 16) := rfl
  rw [e0]
  omega
/-- one less: below the lowest bit all turn, above none -/
theorem pred_bit : ∀ (k n : Nat), 0 < n → (n - 1).testBit k = if 0 < fb_ct n.testBit k then n.testBit k else !n.testBit k := by
  intro k
  induction k with
  | zero =>
    intro n hn
    rw [if_neg (show ¬ 0 < fb_ct n.testBit 0 from Nat.lt_irrefl 0), Nat.testBit_zero, Nat.testBit_zero]
    by_cases h : n % 2 = 1
    · rw [decide_eq_true h, decide_eq_false (by omega)]; rfl
    · rw [decide_eq_false h, decide_eq_true (by omega)]; rfl
  | succ k ih =>
    intro n hn
    have hs : fb_ct n.testBit (1 + k) = fb_ct n.testBit 1 + fb_ct (fun i => n.testBit (1 + i)) k := fb_ct_split _ 1 k
    have hd : fb_ct (fun i => n.testBit (1 + i)) k = fb_ct (n / 2).testBit k := fb_ct_cong (fun i _ => by rw [Nat.add_comm, Nat.testBit_succ])
    have h1 : fb_ct n.testBit 1 = if n % 2 = 1 then 1 else 0 := by
      show 0 + (if n.testBit 0 = true then 1 else 0) = _
      rw [Nat.testBit_zero, Nat.zero_add]
      by_cases h : n % 2 = 1 <;> simp [h]
    rw [Nat.add_comm 1 k] at hs
    rw [Nat.testBit_succ, Nat.testBit_succ, hs, hd, h1]
    by_cases h : n % 2 = 1
    · rw [if_pos h, if_pos (by omega), show (n - 1) / 2 = n / 2 by omega]
    · rw [if_neg h, Nat.zero_add, show (n - 1) / 2 = n / 2 - 1 by omega]
      exact ih (n / 2) (by omega)
theorem low_n {n k : Nat} : (n &&& (n - 1)).testBit k = (n.testBit k && decide (0 < fb_ct n.testBit k)) := by
  rw [Nat.testBit_and]
  rcases Nat.eq_zero_or_pos n with rfl | h
  · simp
  · rw [pred_bit k n h]
    by_cases q : 0 < fb_ct n.testBit k
    · simp [q]
    · simp [q]
theorem fb_from (p : Nat → Bool) (j : Nat) : ∀ k, fb_ct (fun i => p i && decide (j ≤ fb_ct p i)) k = fb_ct p k - j
  | 0 => by show 0 = 0 - j; omega
  | k + 1 => by
    rw [fb_ct_succ, fb_ct_succ, fb_from p j k]
    cases hp : p k
    · simp
    · by_cases h : j ≤ fb_ct p k
      · simp [h]; omega
      · simp [h]; omega
/-- some lowest bits of a set of cards -/
theorem lowestBits_v {x : Int32} (h : ∀ i, 20 ≤ i → i < 32 → bt x i = false) {w : Nat} (hw : w < 2 ^ 31) (m : Mem) : ∃ y, f_X3_lowestBits x (nI w) m = some (y, m) ∧ ∀ i, i < 32 → bt y i = (bt x i && decide (fb_ct (bt x) i < w)) := by
  have key : ∀ j k r, k + j = w → (∀ i, 20 ≤ i → i < 32 → bt r i = false) → (∀ i, i < 32 → bt r i = (bt x i && decide (k ≤ fb_ct (bt x) i))) → ∃ y, wh f_X3_lowestBits_L4 (x, nI w, r, nI k, m) = some (y, m) ∧ ∀ i, i < 32 → bt y i = (bt x i && decide (fb_ct (bt x) i < w)) := by
    intro j
    induction j with
    | zero =>
      intro k r e h0 hr
      have ek : k = w := by omega
      subst ek
      refine ⟨x &&& (r ^^^ -1), wh_done ?_, fun i hi => ?_⟩
      · unfold f_X3_lowestBits_L4
        simp only [nI_le (Nat.le_refl k) hw, if_true]
        rfl
      · rw [b_and, b_xor, b_m1 i hi, hr i hi]
        by_cases q : k ≤ fb_ct (bt x) i
        · rw [decide_eq_true q, decide_eq_false (by omega)]; cases bt x i <;> rfl
        · rw [decide_eq_false q, decide_eq_true (by omega)]; cases bt x i <;> rfl
    | succ j ih =>
      intro k r e h0 hr
      obtain ⟨n, hn, rfl⟩ := nn_bits (by decide) h0
      have e1 : nI n &&& (nI n - 1) = nI (n &&& (n - 1)) := by
        rcases Nat.eq_zero_or_pos n with rfl | q
        · decide
        · rw [nD_sub (by omega), nx_and]
      have hb : ∀ i, i < 32 → bt (nI (n &&& (n - 1))) i = (bt x i && decide (k + 1 ≤ fb_ct (bt x) i)) := fun i hi => by
        have hc : fb_ct n.testBit i = fb_ct (bt x) i - k := by
          rw [← fb_from (bt x) k i]
          exact fb_ct_cong (fun z hz => by rw [← bt_n n (by omega), hr z (by omega)])
        rw [bt_n _ hi, low_n, ← bt_n n hi, hr i hi, hc, Bool.and_assoc]
        congr 1
        by_cases q : k + 1 ≤ fb_ct (bt x) i
        · rw [decide_eq_true q, decide_eq_true (show k ≤ _ by omega), decide_eq_true (by omega)]; rfl
        · rw [decide_eq_false q, decide_eq_false (show ¬ 0 < _ by omega), Bool.and_false]
      obtain ⟨y, o1, o2⟩ := ih (k + 1) (nI (n &&& (n - 1))) (by omega) (fun i h1 h2 => by rw [hb i h2, h i h1 h2]; rfl) hb
      refine ⟨y, wh_next ?_ o1, o2⟩
      unfold f_X3_lowestBits_L4
      simp only [nI_ge (show k < w by omega) hw, if_false, bnd, e1, nI_1]
  obtain ⟨y, o1, o2⟩ := key w 0 x (by omega) h (fun i hi => by rw [decide_eq_true (Nat.zero_le _), Bool.and_true])
  exact ⟨y, o1, o2⟩
theorem neg_n {n : Nat} (h0 : 0 < n) (hn : n < 2 ^ 31) : -(nI n) = nI (2 ^ 32 - n) := by
  apply Int32.toBitVec_inj.mp
  show -(BitVec.ofNat 32 n) = BitVec.ofNat 32 (2 ^ 32 - n)
  apply BitVec.eq_of_toNat_eq
  rw [BitVec.toNat_neg, BitVec.toNat_ofNat, BitVec.toNat_ofNat]
  omega
theorem lp_pow : ∀ j, j < 20 → ∀ m : Mem, f_J6_bitCount_0f7a4 (nI (2 ^ j - 1)) m = some (nI j, m) := by
  intro j hj m
  have hb : ∀ j, j < 20 → (∀ i, i < 32 → 20 ≤ i → (2 ^ j - 1).testBit i = false) ∧ fb_ct (bt (nI (2 ^ j - 1))) 20 = j := by decide +kernel
  obtain ⟨q1, q2⟩ := hb j hj
  rw [pop_v (fun i h1 h2 => by rw [bt_n _ h2]; exact q1 i h2 h1), q2]
theorem fi_none {c : Nat → Bool} : ∀ {j k : Nat}, fi c j k = none ↔ ∀ i, k ≤ i → i < k + j → c i = false
  | 0, k => ⟨fun _ i h1 h2 => by omega, fun _ => rfl⟩
  | j + 1, k => by
    unfold fi
    by_cases hc : c k = true
    · rw [if_pos hc]
      refine ⟨fun q => absurd q (Option.some_ne_none _), fun q => ?_⟩
      have := q k (Nat.le_refl _) (by omega)
      rw [hc] at this
      cases this
    · rw [if_neg hc, fi_none]
      refine ⟨fun q i h1 h2 => ?_, fun q i h1 h2 => q i (by omega) (by omega)⟩
      by_cases e : i = k
      · subst e; simpa using hc
      · exact q i (by omega) (by omega)
theorem fi_first {c : Nat → Bool} : ∀ {j k i : Nat}, fi c j k = some i → ∀ z, k ≤ z → z < i → c z = false
  | 0, _, _, h => by cases h
  | j + 1, k, i, h => by
    unfold fi at h
    by_cases hc : c k = true
    · rw [if_pos hc] at h; cases h
      intro z h1 h2
      omega
    · rw [if_neg hc] at h
      intro z h1 h2
      by_cases e : z = k
      · subst e; simpa using hc
      · exact fi_first h z (by omega) h2
/-- the lowest card of a set -/
theorem lowestPlace_v {x : Int32} (h : ∀ i, 20 ≤ i → i < 32 → bt x i = false) (m : Mem) : f_X3_lowestPlace x m = some ((match fi (bt x) 20 0 with | some k => nI k | none => -2), m) := by
  obtain ⟨n, hn, rfl⟩ := nn_bits (by decide) h
  unfold f_X3_lowestPlace
  cases hf : fi (bt (nI n)) 20 0 with
  | none =>
    have hz := fi_none.mp hf
    have : nI n = 0 := b_ext (fun i hi => by
      rw [b_0]
      by_cases q : i < 20
      · exact hz i (by omega) (by omega)
      · exact h i (by omega) hi)
    rw [if_neg (fun q => q this)]
  | some j =>
    obtain ⟨h1, h2, h3⟩ := fi_some hf
    have hlow := fi_first hf
    have hj : j < 20 := by omega
    have hne : ¬ nI n = 0 := fun q => by rw [q, b_0] at h3; cases h3
    have hn0 : 0 < n := by
      rcases Nat.eq_zero_or_pos n with rfl | q
      · exact absurd rfl hne
      · exact q
    have e1 : nI n &&& -(nI n) = nI (2 ^ j) := by
      rw [neg_n hn0 (by omega)]
      apply b_ext
      intro i hi
      rw [b_and, bt_n (2 ^ 32 - n) hi, bt_n (2 ^ j) hi, Nat.testBit_two_pow, show 2 ^ 32 - n = 2 ^ 32 - ((n - 1) + 1) by omega, Nat.testBit_two_pow_sub_succ (by omega), decide_eq_true hi, Bool.true_and, pred_bit i n hn0, bt_n n hi]
      have hcz : i ≤ j → fb_ct n.testBit i = 0 := fun q => fb_ct_zero.mpr (fun z hz => by rw [← bt_n n (by omega)]; exact hlow z (by omega) (by omega))
      rcases Nat.lt_trichotomy i j with q | q | q
      · rw [hcz (by omega), if_neg (by omega), decide_eq_false (by omega), ← bt_n n hi, hlow i (by omega) q]; rfl
      · subst q
        rw [hcz (Nat.le_refl _), if_neg (by omega), decide_eq_true rfl, ← bt_n n hi, h3]; rfl
      · have hp : 0 < fb_ct n.testBit i := by
          rcases Nat.eq_zero_or_pos (fb_ct n.testBit i) with z | z
          · have := fb_ct_zero.mp z j q
            rw [← bt_n n (by omega), h3] at this
            cases this
          · exact z
        rw [if_pos hp, decide_eq_false (by omega)]
        cases n.testBit i <;> rfl
    rw [if_pos hne, e1, nD_sub (by have := Nat.two_pow_pos j; omega), lp_pow j hj m]
    rfl
