/-! THE LAW'S TEXT: what reading it gives, on paper -/
abbrev Val : Type := (Nat → Int32) → Int32
abbrev PR : Type := Nat ⊕ (Nat × List Nat × Val)
def bet (L : Nat) (τ : Nat → Nat) (q : Nat) : Nat := if q < L then τ q else 0
def jn (c : Nat) (a b : Int32) : Int32 := if c = 124 then (if ¬ a = 0 then 1 else if b = 0 then 0 else 1) else if c = 38 then (if a = 0 then 0 else if b = 0 then 0 else 1) else if c = 60 then (if b ≤ a then 0 else 1) else if c = 61 then (if ¬ a = b then 0 else 1) else if c = 62 then (if a ≤ b then 0 else 1) else if c = 43 then a + b else if c = 45 then a - b else if c = 42 then a * b else if c = 47 then (if b = 0 then 0 else a / b) else (if b = 0 then 0 else a - a / b * b)
def nt (x : Int32) : Int32 := if x = 0 then 1 else 0
def opP (c : Nat) : Bool := decide (c = 42 ∨ c = 47 ∨ c = 37)
def opS (c : Nat) : Bool := decide (c = 43 ∨ c = 45)
def opC (c : Nat) : Bool := decide (c = 60 ∨ c = 61 ∨ c = 62)
def opB (c : Nat) : Bool := decide (c = 38)
def opE (c : Nat) : Bool := decide (c = 124)
def isO (c : Nat) : Prop := c = 42 ∨ c = 47 ∨ c = 37 ∨ c = 43 ∨ c = 45 ∨ c = 60 ∨ c = 61 ∨ c = 62 ∨ c = 38 ∨ c = 124
def nmP (c : Nat) : Option Nat := if c = 114 then some 0 else if c = 118 then some 1 else if c = 101 then some 2 else if c = 110 then some 3 else if c = 115 then some 4 else if c = 116 then some 5 else if c = 112 then some 6 else if c = 108 then some 7 else none
def lpR (sub : Nat → PR) (ops : Nat → Bool) (β : Nat → Nat) : Nat → Nat → List Nat → Val → PR
  | 0, q, c, v => .inr (q, c, v)
  | f + 1, q, c, v => if ops (β q) = true then (match sub (q + 1) with | .inl e => .inl e | .inr (r, d, w) => lpR sub ops β f r (c ++ (d ++ [20000 + β q])) (fun N => jn (β q) (v N) (w N))) else .inr (q, c, v)
def lvR (sub : Nat → PR) (ops : Nat → Bool) (β : Nat → Nat) (f pos : Nat) : PR := match sub pos with | .inl e => .inl e | .inr (q, c, v) => lpR sub ops β f q c v
def nuR (β : Nat → Nat) : Nat → Nat → Nat → Nat × Nat
  | 0, q, a => (q, a)
  | f + 1, q, a => if 48 ≤ β q ∧ β q ≤ 57 then nuR β f (q + 1) (a * 10 + β q - 48) else (q, a)
def prR (one : Nat → PR) (β : Nat → Nat) : Nat → PR := lvR one opP β 120
def suR (one : Nat → PR) (β : Nat → Nat) : Nat → PR := lvR (prR one β) opS β 120
def coR (one : Nat → PR) (β : Nat → Nat) : Nat → PR := lvR (suR one β) opC β 1
def boR (one : Nat → PR) (β : Nat → Nat) : Nat → PR := lvR (coR one β) opB β 120
def eiR (one : Nat → PR) (β : Nat → Nat) : Nat → PR := lvR (boR one β) opE β 120
def lfR (β : Nat → Nat) (pos : Nat) (els : PR) : PR := if 48 ≤ β pos ∧ β pos ≤ 57 then .inr ((nuR β 4 pos 0).1, [(nuR β 4 pos 0).2], fun _ => nI (nuR β 4 pos 0).2) else match nmP (β pos) with
  | some j => .inr (pos + 1, [10000 + j], fun N => N j)
  | none => els
def opR (β : Nat → Nat) : Nat → Nat → PR
  | 0 => fun pos => lfR β pos (.inl pos)
  | k + 1 => fun pos => lfR β pos (if β pos = 40 then (match eiR (opR β k) β (pos + 1) with | .inl e => .inl e | .inr (r, c, v) => if β r = 41 then .inr (r + 1, c, v) else .inl r) else if β pos = 33 then (match opR β k (pos + 1) with | .inl e => .inl e | .inr (r, c, v) => .inr (r, c ++ [20033], fun N => nt (v N))) else if β pos = 45 then (match opR β k (pos + 1) with | .inl e => .inl e | .inr (r, c, v) => .inr (r, c ++ [20126], fun N => -(v N))) else .inl pos)
/-! its signs, worked out -/
def agn (ag : Nat) : Prop := ag = 37 ∨ ag = 49 ∨ ag = 65
def RUN (c : List Nat) (v : Val) : Prop := ∀ (ag : Nat) (m : Mem) (k top CL : Nat), agn ag → top ≤ k → k + c.length ≤ CL → CL ≤ 128 → gI m 14 5 = nI CL → (∀ i, i < c.length → gI m (cC m.2.2) (k + i) = nI (c.getD i 0)) → ∃ m', wh (f_X2_value_L35 ag) (nI top, 0, nI k, m) = wh (f_X2_value_L35 ag) (nI (top + 1), 0, nI (k + c.length), m') ∧ gI m' 16 top = v (fun j => gI m ag j) ∧ (∀ i, i < top → gI m' 16 i = gI m 16 i) ∧ (∀ c i, c ≠ 16 → gI m' c i = gI m c i) ∧ m'.2.2 = m.2.2
def GC (c : List Nat) (v : Val) : Prop := 0 < c.length ∧ (∀ x, x ∈ c → x ≠ 20059 ∧ x < 30000) ∧ (∀ N N' : Nat → Int32, (∀ j, j < 8 → N j = N' j) → v N = v N') ∧ RUN c v
theorem cC_ne (b : Bool) : cC b ≠ 16 ∧ cC b ≠ 14 := by cases b <;> decide
theorem GC_num {n : Nat} (hn : n < 10000) : GC [n] (fun _ => nI n) := by
  refine ⟨Nat.zero_lt_one, fun x hx => ?_, fun _ _ _ => rfl, fun ag m k top CL hag h1 h2 h3 h4 h5 => ?_⟩
  · simp at hx; subst hx; omega
  · have h2' : k + 1 ≤ CL := h2
    have hk := h5 0 Nat.zero_lt_one
    rw [Nat.add_zero] at hk
    refine ⟨sI m 16 top (nI n), wh_inl ?_, g_hit _ _ _ _, fun i hi => g_off _ _ (by omega), fun c i hc => g_far _ _ hc, rfl⟩
    unfold f_X2_value_L35
    simp only [h4, nI_ge (show k < CL by omega) (show CL < 2 ^ 31 by omega), if_false, ck_in (show k < 128 by omega) (show 128 < 2 ^ 31 by decide), ck_in (show top < 128 by omega) (show 128 < 2 ^ 31 by decide), ix_n (show k < 2 ^ 31 by omega), ix_n (show top < 2 ^ 31 by omega), hk, bnd, if_true, List.getD_cons_zero, show ¬ (20000 : Int32) ≤ nI n from nI_ge (b := 20000) (by omega) (by decide), show ¬ (10000 : Int32) ≤ nI n from nI_ge (b := 10000) (by omega) (by decide), show ¬ (128 : Int32) ≤ nI top from nI_ge (b := 128) (by omega) (by decide), nI_1]
    rfl
theorem GC_name {j : Nat} (hj : j < 8) : GC [10000 + j] (fun N => N j) := by
  refine ⟨Nat.zero_lt_one, fun x hx => ?_, fun _ _ h => h j hj, fun ag m k top CL hag h1 h2 h3 h4 h5 => ?_⟩
  · simp at hx; subst hx; omega
  · have h2' : k + 1 ≤ CL := h2
    have hk := h5 0 Nat.zero_lt_one
    rw [Nat.add_zero] at hk
    have es : nI (10000 + j) - 10000 = nI j := by
      have := nI_sub (a := 10000 + j) (b := 10000) (by omega)
      rw [Nat.add_sub_cancel_left] at this
      exact this
    refine ⟨sI m 16 top (gI m ag j), wh_inl ?_, g_hit _ _ _ _, fun i hi => g_off _ _ (by omega), fun c i hc => g_far _ _ hc, rfl⟩
    unfold f_X2_value_L35
    simp only [h4, nI_ge (show k < CL by omega) (show CL < 2 ^ 31 by omega), if_false, ck_in (show k < 128 by omega) (show 128 < 2 ^ 31 by decide), ck_in (show top < 128 by omega) (show 128 < 2 ^ 31 by decide), ck_in hj (show 8 < 2 ^ 31 by decide), ix_n (show k < 2 ^ 31 by omega), ix_n (show top < 2 ^ 31 by omega), ix_n (show j < 2 ^ 31 by omega), hk, bnd, if_true, List.getD_cons_zero, es, show ¬ (20000 : Int32) ≤ nI (10000 + j) from nI_ge (b := 20000) (by omega) (by decide), show (10000 : Int32) ≤ nI (10000 + j) from nI_le (a := 10000) (by omega) (by omega), show ¬ (128 : Int32) ≤ nI top from nI_ge (b := 128) (by omega) (by decide), nI_1]
    rfl
theorem getD_app (c d : List Nat) (i : Nat) : (c ++ d).getD i 0 = if i < c.length then c.getD i 0 else d.getD (i - c.length) 0 := by
  rw [List.getD_eq_getElem?_getD, List.getElem?_append]
  split
  · rw [List.getD_eq_getElem?_getD]
  · rw [List.getD_eq_getElem?_getD]
theorem L35_s {ag k CL : Nat} {v y : Int32} {m : Mem} (h14 : gI m 14 5 = nI CL) (h2 : k < CL) (h3 : CL ≤ 128) (hk : gI m (cC m.2.2) k = y) (hy : 20000 ≤ y) : f_X2_value_L35 ag (v, 0, nI k, m) = f_X2_value_J122 ag v 0 (nI k) y m := by
  unfold f_X2_value_L35
  dsimp only
  rw [h14, if_neg (nI_ge h2 (by omega)), ck_in (by omega) (by decide), ix_n (by omega), hk]
  refine bn ?_
  rw [if_pos rfl, if_pos hy]
theorem un_neg {ag top k CL : Nat} {m : Mem} (h1 : k < 128) (h0 : top < 128) (h14 : gI m 14 5 = nI CL) (h2 : k < CL) (h3 : CL ≤ 128) (hk : gI m (cC m.2.2) k = nI 20126) : f_X2_value_L35 ag (nI (top + 1), 0, nI k, m) = some (.inl (nI (top + 1), 0, nI (k + 1), sI m 16 top (-(gI m 16 top)))) := by
  have v1 : (1 : Int32) ≤ nI (top + 1) := nI_le (a := 1) (by omega) (by omega)
  have et : nI (top + 1) - 1 = nI top := nI_pred top
  have e2 : (20000 : Int32) ≤ nI 20126 := by decide
  have e3 : ¬ nI 20126 = (20059 : Int32) := by decide
  have e4 : ¬ nI 20126 = (20063 : Int32) := by decide
  have e5 : nI 20126 = (20126 : Int32) := by decide
  rw [L35_s h14 h2 h3 hk e2]
  unfold f_X2_value_J122
  rw [if_pos v1, if_pos e3, if_pos e4, if_pos e5]
  unfold f_X2_value_J191
  rw [if_neg (fun q => q e5), et, ck_in h0 (by decide), ck_in h0 (by decide), ix_n (by omega)]
  refine bn (bn ?_)
  rw [nI_1]
theorem GC_neg {c : List Nat} {v : Val} (h : GC c v) : GC (c ++ [20126]) (fun N => -(v N)) := by
  obtain ⟨g0, g1, g2, g3⟩ := h
  refine ⟨by rw [List.length_append]; omega, fun x hx => ?_, fun N N' hN => by show -(v N) = -(v N'); rw [g2 N N' hN], fun ag m k top CL hag h1 h2 h3 h4 h5 => ?_⟩
  · rcases List.mem_append.mp hx with q | q
    · exact g1 x q
    · rw [List.mem_singleton] at q
      omega
  · have hl : (c ++ [20126]).length = c.length + 1 := List.length_append
    rw [hl] at h2 h5
    obtain ⟨m1, o1, o2, o3, o4, o5⟩ := g3 ag m k top CL hag h1 (by omega) h3 h4 (fun i hi => by
      rw [h5 i (by omega), getD_app, if_pos hi])
    have hs := h5 c.length (by omega)
    rw [getD_app, if_neg (Nat.lt_irrefl _), Nat.sub_self, List.getD_cons_zero] at hs
    have hk : gI m1 (cC m1.2.2) (k + c.length) = nI 20126 := by rw [o5, o4 _ _ (cC_ne _).1, hs]
    have h14 : gI m1 14 5 = nI CL := by rw [o4 _ _ (by decide), h4]
    refine ⟨sI m1 16 top (-(gI m1 16 top)), o1.trans (wh_inl ?_), by rw [g_hit, o2], fun i hi => by rw [g_off _ _ (by omega), o3 i hi], fun c i hc => by rw [g_far _ _ hc, o4 c i hc], o5⟩
    rw [hl, ← Nat.add_assoc]
    exact un_neg (m := m1) (k := k + c.length) (by omega) (by omega) h14 (by omega) h3 hk
theorem un_not {ag top k CL : Nat} {m : Mem} (h1 : k < 128) (h0 : top < 128) (h14 : gI m 14 5 = nI CL) (h2 : k < CL) (h3 : CL ≤ 128) (hk : gI m (cC m.2.2) k = nI 20033) : f_X2_value_L35 ag (nI (top + 1), 0, nI k, m) = some (.inl (nI (top + 1), 0, nI (k + 1), sI m 16 top (nt (gI m 16 top)))) := by
  have v1 : (1 : Int32) ≤ nI (top + 1) := nI_le (a := 1) (by omega) (by omega)
  have et : nI (top + 1) - 1 = nI top := nI_pred top
  have e2 : (20000 : Int32) ≤ nI 20033 := by decide
  have e3 : ¬ nI 20033 = (20059 : Int32) := by decide
  have e4 : ¬ nI 20033 = (20063 : Int32) := by decide
  have e5 : ¬ nI 20033 = (20126 : Int32) := by decide
  have e6 : nI 20033 = (20033 : Int32) := by decide
  have b0 : f_X2_bit 0 m = some (0, m) := rfl
  have b1 : f_X2_bit 1 m = some (1, m) := rfl
  rw [L35_s h14 h2 h3 hk e2]
  unfold f_X2_value_J122
  rw [if_pos v1, if_pos e3, if_pos e4, if_neg e5, if_neg (fun q => q e6)]
  unfold f_X2_value_J191
  rw [if_pos e5, et, ck_in h0 (by decide), ix_n (by omega)]
  unfold nt
  by_cases q : gI m 16 top = 0
  · rw [if_neg (fun z => z q), if_pos q, b1, some_bind]
    refine ckb (fun K => ck_in h0 (by decide)) (bn (bn ?_))
    rw [nI_1]
  · rw [if_pos q, if_neg q, b0, some_bind]
    refine ckb (fun K => ck_in h0 (by decide)) (bn (bn ?_))
    rw [nI_1]
theorem GC_not {c : List Nat} {v : Val} (h : GC c v) : GC (c ++ [20033]) (fun N => nt (v N)) := by
  obtain ⟨g0, g1, g2, g3⟩ := h
  refine ⟨by rw [List.length_append]; omega, fun x hx => ?_, fun N N' hN => by show nt (v N) = nt (v N'); rw [g2 N N' hN], fun ag m k top CL hag h1 h2 h3 h4 h5 => ?_⟩
  · rcases List.mem_append.mp hx with q | q
    · exact g1 x q
    · rw [List.mem_singleton] at q
      omega
  · have hl : (c ++ [20033]).length = c.length + 1 := List.length_append
    rw [hl] at h2 h5
    obtain ⟨m1, o1, o2, o3, o4, o5⟩ := g3 ag m k top CL hag h1 (by omega) h3 h4 (fun i hi => by
      rw [h5 i (by omega), getD_app, if_pos hi])
    have hs := h5 c.length (by omega)
    rw [getD_app, if_neg (Nat.lt_irrefl _), Nat.sub_self, List.getD_cons_zero] at hs
    have hk : gI m1 (cC m1.2.2) (k + c.length) = nI 20033 := by rw [o5, o4 _ _ (cC_ne _).1, hs]
    have h14 : gI m1 14 5 = nI CL := by rw [o4 _ _ (by decide), h4]
    refine ⟨sI m1 16 top (nt (gI m1 16 top)), o1.trans (wh_inl ?_), by rw [g_hit, o2], fun i hi => by rw [g_off _ _ (by omega), o3 i hi], fun c i hc => by rw [g_far _ _ hc, o4 c i hc], o5⟩
    rw [hl, ← Nat.add_assoc]
    exact un_not (m := m1) (k := k + c.length) (by omega) (by omega) h14 (by omega) h3 hk
theorem joined_v {op : Nat} (ho : isO op) (a b : Int32) (m : Mem) : f_X2_joined (nI op) a b m = some (jn op a b, m) := by
  unfold isO at ho
  unfold f_X2_joined jn
  rcases ho with rfl | rfl | rfl | rfl | rfl | rfl | rfl | rfl | rfl | rfl
  · rfl
  · show (if ¬ b = 0 then dv b (some ((a / b), m)) else some ((0 : Int32), m)) = some (if b = 0 then 0 else a / b, m)
    by_cases q : b = 0
    · rw [if_neg (fun z => z q), if_pos q]
    · rw [if_pos q, if_neg q]
      unfold dv
      rw [if_neg q]
  · show (if ¬ b = 0 then dv b (some ((a - a / b * b), m)) else some ((0 : Int32), m)) = some (if b = 0 then 0 else a - a / b * b, m)
    by_cases q : b = 0
    · rw [if_neg (fun z => z q), if_pos q]
    · rw [if_pos q, if_neg q]
      unfold dv
      rw [if_neg q]
  · rfl
  · rfl
  · show (if b ≤ a then some ((0 : Int32), m) else some ((1 : Int32), m)) = some (if b ≤ a then 0 else 1, m)
    split <;> rfl
  · show (if ¬ a = b then some ((0 : Int32), m) else some ((1 : Int32), m)) = some (if ¬ a = b then 0 else 1, m)
    split <;> rfl
  · show (if a ≤ b then some ((0 : Int32), m) else some ((1 : Int32), m)) = some (if a ≤ b then 0 else 1, m)
    split <;> rfl
  · show (if a = 0 then some ((0 : Int32), m) else if b = 0 then some ((0 : Int32), m) else some ((1 : Int32), m)) = some (if a = 0 then 0 else if b = 0 then 0 else 1, m)
    split
    · rfl
    · split <;> rfl
  · show (if ¬ a = 0 then some ((1 : Int32), m) else if b = 0 then some ((0 : Int32), m) else some ((1 : Int32), m)) = some (if ¬ a = 0 then 1 else if b = 0 then 0 else 1, m)
    split
    · rfl
    · split <;> rfl
theorem bin_s {ag top k CL op : Nat} {m : Mem} (ho : isO op) (h1 : k < 128) (h0 : top + 1 < 128) (h14 : gI m 14 5 = nI CL) (h2 : k < CL) (h3 : CL ≤ 128) (hk : gI m (cC m.2.2) k = nI (20000 + op)) : f_X2_value_L35 ag (nI (top + 1 + 1), 0, nI k, m) = some (.inl (nI (top + 1), 0, nI (k + 1), sI m 16 top (jn op (gI m 16 top) (gI m 16 (top + 1))))) := by
  have ho2 : op < 200 ∧ op ≠ 59 ∧ op ≠ 63 ∧ op ≠ 126 ∧ op ≠ 33 := by unfold isO at ho; omega
  have c1 : ¬ nI CL ≤ nI k := nI_ge h2 (by omega)
  have ckk : ∀ {T : Type} (K : Option T), ck (nI k) 128 K = K := fun K => ck_in h1 (by decide)
  have ckt : ∀ {T : Type} (K : Option T), ck (nI top) 128 K = K := fun K => ck_in (by omega) (by decide)
  have cku : ∀ {T : Type} (K : Option T), ck (nI (top + 1)) 128 K = K := fun K => ck_in h0 (by decide)
  have jk : ix (nI k) = k := ix_n (by omega)
  have jt : ix (nI top) = top := ix_n (by omega)
  have ju : ix (nI (top + 1)) = top + 1 := ix_n (by omega)
  have v1 : (1 : Int32) ≤ nI (top + 1 + 1) := nI_le (a := 1) (by omega) (by omega)
  have v2 : ¬ nI (top + 1 + 1) ≤ (1 : Int32) := nI_ge (a := 1) (by omega) (by omega)
  have et : nI (top + 1 + 1) + -1 = nI (top + 1) := by
    rw [← Int32.sub_eq_add_neg]; exact nI_pred (top + 1)
  have eu : nI (top + 1) - 1 = nI top := nI_pred top
  have ne : ∀ z, z < 30000 → 20000 + op ≠ z → ¬ nI (20000 + op) = nI z := fun z hz h q => h ((eq_nn (by omega) (by omega)).mp q)
  have e2 : (20000 : Int32) ≤ nI (20000 + op) := nI_le (a := 20000) (by omega) (by omega)
  have e3 : ¬ nI (20000 + op) = (20059 : Int32) := ne 20059 (by decide) (by omega)
  have e4 : ¬ nI (20000 + op) = (20063 : Int32) := ne 20063 (by decide) (by omega)
  have e5 : ¬ nI (20000 + op) = (20126 : Int32) := ne 20126 (by decide) (by omega)
  have e6 : ¬ nI (20000 + op) = (20033 : Int32) := ne 20033 (by decide) (by omega)
  have es : nI (20000 + op) - 20000 = nI op := by
    have := nI_sub (a := 20000 + op) (b := 20000) (by omega)
    rw [Nat.add_sub_cancel_left] at this
    exact this
  rw [L35_s h14 h2 h3 hk e2]
  unfold f_X2_value_J122
  rw [if_pos v1, if_pos e3, if_pos e4, if_neg e5, if_pos e6, if_neg v2, et]
  refine bn ?_
  rw [eu, ckt, cku, es, jt, ju, joined_v ho, some_bind, ckt]
  refine bn (bn ?_)
  rw [nI_1]
theorem GC_bin {c d : List Nat} {v w : Val} (h : GC c v) (h' : GC d w) {op : Nat} (ho : isO op) : GC (c ++ (d ++ [20000 + op])) (fun N => jn op (v N) (w N)) := by
  obtain ⟨g0, g1, g2, g3⟩ := h
  obtain ⟨k0, k1, k2, k3⟩ := h'
  have ho2 : op < 200 ∧ op ≠ 59 := by unfold isO at ho; omega
  have hl : (c ++ (d ++ [20000 + op])).length = c.length + (d.length + 1) := by rw [List.length_append, List.length_append]; rfl
  refine ⟨by omega, fun x hx => ?_, fun N N' hN => by show jn op (v N) (w N) = jn op (v N') (w N'); rw [g2 N N' hN, k2 N N' hN], fun ag m k top CL hag h1 h2 h3 h4 h5 => ?_⟩
  · rcases List.mem_append.mp hx with q | q
    · exact g1 x q
    · rcases List.mem_append.mp q with q | q
      · exact k1 x q
      · rw [List.mem_singleton] at q
        omega
  · rw [hl] at h2 h5
    obtain ⟨m1, o1, o2, o3, o4, o5⟩ := g3 ag m k top CL hag h1 (by omega) h3 h4 (fun i hi => by
      rw [h5 i (by omega), getD_app, if_pos hi])
    have h14 : gI m1 14 5 = nI CL := by rw [o4 _ _ (by decide), h4]
    obtain ⟨m2, p1, p2, p3, p4, p5⟩ := k3 ag m1 (k + c.length) (top + 1) CL hag (by omega) (by omega) h3 h14 (fun i hi => by
      rw [o5, o4 _ _ (cC_ne _).1, Nat.add_assoc, h5 (c.length + i) (by omega), getD_app, if_neg (by omega), Nat.add_sub_cancel_left, getD_app, if_pos hi])
    have h14' : gI m2 14 5 = nI CL := by rw [p4 _ _ (by decide), h14]
    have hs := h5 (c.length + d.length) (by omega)
    rw [getD_app, if_neg (by omega), Nat.add_sub_cancel_left, getD_app, if_neg (Nat.lt_irrefl _), Nat.sub_self, List.getD_cons_zero, ← Nat.add_assoc] at hs
    have hk : gI m2 (cC m2.2.2) (k + c.length + d.length) = nI (20000 + op) := by rw [p5, p4 _ _ (cC_ne _).1, o5, o4 _ _ (cC_ne _).1, hs]
    have hag2 : ag ≠ 16 := by unfold agn at hag; omega
    refine ⟨sI m2 16 top (jn op (gI m2 16 top) (gI m2 16 (top + 1))), o1.trans (p1.trans (wh_inl ?_)), ?_, fun i hi => by rw [g_off _ _ (by omega), p3 i (by omega), o3 i hi], fun c i hc => by rw [g_far _ _ hc, p4 c i hc, o4 c i hc], p5.trans o5⟩
    · rw [hl, show k + (c.length + (d.length + 1)) = k + c.length + d.length + 1 by omega]
      exact bin_s ho (by omega) (by omega) h14' (by omega) h3 hk
    · rw [g_hit, p3 top (by omega), o2, p2]
      show jn op _ (w fun j => gI m1 ag j) = _
      rw [k2 (fun j => gI m1 ag j) (fun j => gI m ag j) (fun j _ => o4 ag j hag2)]
