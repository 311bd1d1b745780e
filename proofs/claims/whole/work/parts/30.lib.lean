/-! THE PURE PART: numbers, loops, memory -/
theorem le_nn {a b : Nat} (ha : a < 2 ^ 31) (hb : b < 2 ^ 31) : nI a ≤ nI b ↔ a ≤ b :=
  ⟨fun h => Nat.not_lt.mp fun q => nI_ge q ha h, fun h => nI_le h hb⟩
theorem lt_nn {a b : Nat} (ha : a < 2 ^ 31) (hb : b < 2 ^ 31) : nI a < nI b ↔ a < b :=
  ⟨fun h => Nat.not_le.mp fun q => nI_nlt q ha h, fun h => nI_lt h hb⟩
theorem eq_nn {a b : Nat} (ha : a < 2 ^ 31) (hb : b < 2 ^ 31) : nI a = nI b ↔ a = b :=
  ⟨fun h => by have := congrArg Int32.toInt h; rw [nI_toInt ha, nI_toInt hb] at this; omega, fun h => by rw [h]⟩
theorem nn_lt0 {a : Nat} (ha : a < 2 ^ 31) : ¬ nI a < 0 := nI_pos ha
theorem nn_0le {a : Nat} (ha : a < 2 ^ 31) : 0 ≤ nI a := nI_pos' ha
theorem ix_n {k : Nat} (h : k < 2 ^ 31) : ix (nI k) = k := nI_clamp h
theorem ck_up {T : Type} {i : Int32} {n : Nat} {K : Option T} (h0 : 0 ≤ i) (h : i.toNatClampNeg < n) : ck i n K = K := if_neg fun q => q.elim (Int32.not_lt.mpr h0) (Nat.not_le.mpr h)
/-- a number between two written ones is a natural number -/
theorem nn_of {c : Int32} {n : Nat} (hn : n < 2 ^ 31) (h0 : ¬ c < 0) (h1 : ¬ nI n < c) : ∃ k, k ≤ n ∧ c = nI k := by
  obtain ⟨e, hl⟩ := nI_up (Int32.not_lt.mp h0)
  refine ⟨c.toNatClampNeg, ?_, e.symm⟩
  have := Int32.not_lt.mp h1
  rw [← e] at this
  exact (le_nn hl hn).mp this
theorem nn_of2 {c : Int32} {n : Nat} (hn : n < 2 ^ 31) (h0 : 0 ≤ c) (h1 : c < nI n) : ∃ k, k < n ∧ c = nI k := by
  obtain ⟨e, hl⟩ := nI_up h0
  refine ⟨c.toNatClampNeg, ?_, e.symm⟩
  rw [← e] at h1
  exact (lt_nn hl hn).mp h1
-- loops
theorem wh_inv {S T : Type} {body : S → Option (S ⊕ T)} (I : Nat → S → Prop) (Q : T → Prop) (n : Nat) (hs : ∀ k s, k < n → I k s → (∃ s', body s = some (.inl s') ∧ I (k + 1) s') ∨ ∃ r, body s = some (.inr r) ∧ Q r) (he : ∀ s, I n s → ∃ r, body s = some (.inr r) ∧ Q r) : ∀ k s, k ≤ n → I k s → ∃ r, wh body s = some r ∧ Q r := by
  intro k s hk
  obtain ⟨j, hj⟩ : ∃ j, n = k + j := ⟨n - k, by omega⟩
  induction j generalizing k s with
  | zero =>
    intro hi
    have e : k = n := by omega
    subst e
    obtain ⟨r, h1, h2⟩ := he s hi
    exact ⟨r, wh_done h1, h2⟩
  | succ j ih =>
    intro hi
    rcases hs k s (by omega) hi with ⟨s', h1, h2⟩ | ⟨r, h1, h2⟩
    · obtain ⟨r, h3, h4⟩ := ih (k + 1) s' (by omega) (by omega) h2
      exact ⟨r, wh_next h1 h3, h4⟩
    · exact ⟨r, wh_done h1, h2⟩
/-- a loop that only counts: its state is a function of the number and what is gathered -/
def fo {A : Type} (step : A → Nat → A) : Nat → Nat → A → A
  | 0, _, a => a
  | j + 1, k, a => fo step j (k + 1) (step a k)
theorem wh_for {S T A : Type} {body : S → Option (S ⊕ T)} (mk : A → Nat → S) (n : Nat) (step : A → Nat → A) (fin : A → T) (h1 : ∀ a k, k < n → body (mk a k) = some (.inl (mk (step a k) (k + 1)))) (h2 : ∀ a, body (mk a n) = some (.inr (fin a))) (a : A) : wh body (mk a 0) = some (fin (fo step n 0 a)) := by
  have key : ∀ j k a, k + j = n → wh body (mk a k) = some (fin (fo step j k a)) := by
    intro j
    induction j with
    | zero => intro k a e; have e2 : k = n := by omega
              subst e2; exact wh_done (h2 a)
    | succ j ih => intro k a e; exact wh_next (h1 a k (by omega)) (ih (k + 1) _ (by omega))
  exact key n 0 a (by omega)
theorem fo_end {A : Type} (step : A → Nat → A) : ∀ (j k : Nat) (a : A), fo step (j + 1) k a = step (fo step j k a) (k + j) := by
  intro j
  induction j with
  | zero => intro k a; rfl
  | succ j ih => intro k a; rw [fo, ih (k + 1)]; rw [show k + 1 + j = k + (j + 1) by omega]; rfl
theorem fo_cong {A : Type} {f g : A → Nat → A} : ∀ {j k : Nat} {a : A}, (∀ a i, k ≤ i → i < k + j → f a i = g a i) → fo f j k a = fo g j k a
  | 0, _, _, _ => rfl
  | j + 1, k, a, h => by
    show fo f j (k + 1) (f a k) = fo g j (k + 1) (g a k)
    rw [h a k (Nat.le_refl _) (by omega)]
    exact fo_cong (fun a i h1 h2 => h a i (by omega) (by omega))
/-- a loop that seeks the first: the place found, or none -/
def fi (c : Nat → Bool) : Nat → Nat → Option Nat
  | 0, _ => none
  | j + 1, k => if c k then some k else fi c j (k + 1)
theorem wh_find {S T : Type} {body : S → Option (S ⊕ T)} (mk : Nat → S) (n : Nat) (c : Nat → Bool) (r : Nat → T) (r0 : T) (h1 : ∀ k, k < n → body (mk k) = if c k then some (.inr (r k)) else some (.inl (mk (k + 1)))) (h2 : body (mk n) = some (.inr r0)) : wh body (mk 0) = some (match fi c n 0 with | some k => r k | none => r0) := by
  have key : ∀ j k, k + j = n → wh body (mk k) = some (match fi c j k with | some k => r k | none => r0) := by
    intro j
    induction j with
    | zero => intro k e; have e2 : k = n := by omega
              subst e2; exact wh_done h2
    | succ j ih =>
      intro k e
      have hb := h1 k (by omega)
      unfold fi
      by_cases hc : c k = true
      · rw [if_pos hc] at hb ⊢; exact wh_done hb
      · rw [if_neg hc] at hb ⊢; rw [wh_inl hb]; exact ih (k + 1) (by omega)
  exact key n 0 (by omega)
theorem fi_cong {c d : Nat → Bool} : ∀ {j k : Nat}, (∀ i, k ≤ i → i < k + j → c i = d i) → fi c j k = fi d j k
  | 0, _, _ => rfl
  | j + 1, k, h => by
    show (if c k then some k else fi c j (k + 1)) = (if d k then some k else fi d j (k + 1))
    rw [h k (Nat.le_refl _) (by omega), fi_cong (fun i h1 h2 => h i (by omega) (by omega))]
theorem fi_some {c : Nat → Bool} : ∀ {j k i : Nat}, fi c j k = some i → k ≤ i ∧ i < k + j ∧ c i = true
  | 0, _, _, h => by cases h
  | j + 1, k, i, h => by
    unfold fi at h
    by_cases hc : c k = true
    · rw [if_pos hc] at h; cases h; exact ⟨Nat.le_refl _, by omega, hc⟩
    · rw [if_neg hc] at h
      obtain ⟨a, b, d⟩ := fi_some h
      exact ⟨by omega, by omega, d⟩
-- memory
theorem g_sI (m : Mem) (a i : Nat) (x : Int32) (b j : Nat) : gI (sI m a i x) b j = if b = a ∧ j = i then x else gI m b j := by
  show uI m.1 a i x b j = _
  unfold uI upd
  by_cases hb : b = a
  · subst hb
    rw [if_pos rfl]
    show (if j = i then x else m.1 b j) = _
    by_cases hj : j = i
    · rw [if_pos hj, if_pos ⟨rfl, hj⟩]
    · rw [if_neg hj, if_neg (fun q => hj q.2)]; rfl
  · rw [if_neg hb, if_neg (fun q => hb q.1)]; rfl
theorem gJ_sI (m : Mem) (a i : Nat) (x : Int32) (b j : Nat) : gJ (sI m a i x) b j = gJ m b j := rfl
theorem gI_sJ (m : Mem) (a i : Nat) (x : Int64) (b j : Nat) : gI (sJ m a i x) b j = gI m b j := rfl
theorem gJ_sJ (m : Mem) (a i : Nat) (x : Int64) (b j : Nat) : gJ (sJ m a i x) b j = if b = a ∧ j = i then x else gJ m b j := by
  show uL m.2.1 a i x b j = _
  unfold uL vp_updL
  by_cases hb : b = a
  · subst hb
    rw [if_pos rfl]
    show (if j = i then x else m.2.1 b j) = _
    by_cases hj : j = i
    · rw [if_pos hj, if_pos ⟨rfl, hj⟩]
    · rw [if_neg hj, if_neg (fun q => hj q.2)]; rfl
  · rw [if_neg hb, if_neg (fun q => hb q.1)]; rfl
theorem g_hit (m : Mem) (a i : Nat) (x : Int32) : gI (sI m a i x) a i = x := by rw [g_sI, if_pos ⟨rfl, rfl⟩]
theorem g_far (m : Mem) {a i b j : Nat} (x : Int32) (h : b ≠ a) : gI (sI m a i x) b j = gI m b j := by rw [g_sI, if_neg (fun q => h q.1)]
theorem g_off (m : Mem) {a i b j : Nat} (x : Int32) (h : j ≠ i) : gI (sI m a i x) b j = gI m b j := by rw [g_sI, if_neg (fun q => h q.2)]
theorem fl_sI (m : Mem) (a i : Nat) (x : Int32) : (sI m a i x).2.2 = m.2.2 := rfl
theorem fl_sJ (m : Mem) (a i : Nat) (x : Int64) : (sJ m a i x).2.2 = m.2.2 := rfl
/-- what a frame says of one place -/
theorem fr_I {l : List (Nat × Option Nat)} {m m' : Mem} (h : Fr l m m') (c i : Nat) (hq : l.all (fun q => !(q.1 == c && (q.2 == none || q.2 == some i))) = true) : gI m' c i = gI m c i := by
  refine (h.1 c i (fun q h1 h2 h3 => ?_)).1
  have := List.all_eq_true.mp hq q h1
  rcases h3 with h3 | h3 <;> simp [h2, h3] at this
theorem fr_J {l : List (Nat × Option Nat)} {m m' : Mem} (h : Fr l m m') (c i : Nat) (hq : l.all (fun q => !(q.1 == c && (q.2 == none || q.2 == some i))) = true) : gJ m' c i = gJ m c i := by
  refine (h.1 c i (fun q h1 h2 h3 => ?_)).2
  have := List.all_eq_true.mp hq q h1
  rcases h3 with h3 | h3 <;> simp [h2, h3] at this
theorem fr_cell {l : List (Nat × Option Nat)} {m m' : Mem} (h : Fr l m m') (c : Nat) (hq : l.all (fun q => !(q.1 == c)) = true) : (∀ i, gI m' c i = gI m c i) ∧ ∀ i, gJ m' c i = gJ m c i := by
  have hn : ∀ q ∈ l, q.1 = c → False := fun q h1 h2 => by
    have := List.all_eq_true.mp hq q h1
    simp [h2] at this
  exact ⟨fun i => (h.1 c i (fun q h1 h2 _ => hn q h1 h2)).1, fun i => (h.1 c i (fun q h1 h2 _ => hn q h1 h2)).2⟩
-- the reference's small questions
theorem lcmp_lt {a b : Int64} : lg_cmp a b < 0 ↔ a < b := by
  unfold lg_cmp
  split
  · next h => exact ⟨fun q => absurd q (by decide), fun q => absurd (Int64.lt_trans h q) (Int64.lt_irrefl)⟩
  · next h =>
    split
    · next e => subst e; exact ⟨fun q => absurd q (by decide), fun q => absurd q Int64.lt_irrefl⟩
    · next e => exact ⟨fun _ => (Int64.lt_iff_le_and_ne).mpr ⟨Int64.not_lt.mp h, e⟩, fun _ => by decide⟩
theorem lcmp_gt {a b : Int64} : 0 < lg_cmp a b ↔ b < a := by
  unfold lg_cmp
  split
  · next h => exact ⟨fun _ => h, fun _ => by decide⟩
  · next h =>
    split
    · exact ⟨fun q => absurd q (by decide), fun q => absurd q h⟩
    · exact ⟨fun q => absurd q (by decide), fun q => absurd q h⟩
theorem bz_0 {T : Type} {k : Option T} : bz 0 k = k := if_pos (by decide)
theorem bz_1 {T : Type} {k : Option T} : bz 1 k = k := if_pos (by decide)
def bi (b : Bool) : Int32 := if b then 1 else 0
theorem bz_b {T : Type} {b : Bool} {k : Option T} : bz (bi b) k = k := by cases b <;> exact if_pos (by decide)
theorem bi_0 (b : Bool) : bi b = 0 ↔ b = false := by cases b <;> decide
theorem some_bind {α β : Type} (a : α) (f : α → Option β) : (some a).bind f = f a := rfl
theorem none_bind {α β : Type} (f : α → Option β) : (none : Option α).bind f = none := rfl
theorem up_some {S T : Type} (x : T) : (up (some x) : Option (S ⊕ T)) = some (.inr x) := rfl
theorem wide_lt (a b : Int32) : a.toInt64 < b.toInt64 ↔ a < b := by rw [Int64.lt_iff_toInt_lt, Int32.lt_iff_toInt_lt, Int32.toInt_toInt64, Int32.toInt_toInt64]
/-- within, of ints -/
theorem within_v (v lo hi : Int64) (m : Mem) : f_X9_within v lo hi m = some (bi (decide (¬ v < lo ∧ ¬ hi < v)), m) := by
  unfold f_X9_within
  by_cases h1 : v < lo
  · rw [if_pos (lcmp_lt.mpr h1), bz_0, show decide (¬ v < lo ∧ ¬ hi < v) = false from decide_eq_false (fun q => q.1 h1)]; rfl
  · rw [if_neg (fun q => h1 (lcmp_lt.mp q))]
    by_cases h2 : hi < v
    · rw [if_pos (lcmp_gt.mpr h2), bz_0, show decide (¬ v < lo ∧ ¬ hi < v) = false from decide_eq_false (fun q => q.2 h2)]; rfl
    · rw [if_neg (fun q => h2 (lcmp_gt.mp q)), bz_1, show decide (¬ v < lo ∧ ¬ hi < v) = true from decide_eq_true ⟨h1, h2⟩]; rfl
theorem within_i (v lo hi : Int32) {L H : Int64} (hL : L = lo.toInt64) (hH : H = hi.toInt64) (m : Mem) : f_X9_within v.toInt64 L H m = some (bi (decide (¬ v < lo ∧ ¬ hi < v)), m) := by
  rw [within_v, hL, hH]
  simp only [wide_lt]
