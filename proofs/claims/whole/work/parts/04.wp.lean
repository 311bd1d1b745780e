/-! THE PURE WORLD: cells by number; ints, longs, references as three memories; a shape a cell -/
/-- launch, class numbers, the first cell's address, addresses of what nobody writes, the array classes, the script's length and ints -/
abbrev Gx : Type := Launch × va_G × Nat × (Nat → Nat) × (ClassId × ClassId × ClassId) × Nat × (Nat → Int32)
abbrev gL (g : Gx) : Launch := g.1
abbrev gD (g : Gx) : va_G := g.2.1
abbrev gB (g : Gx) : Nat := g.2.2.1
abbrev gS (g : Gx) : Nat → Nat := g.2.2.2.1
abbrev gC (g : Gx) : ClassId × ClassId × ClassId := g.2.2.2.2.1
abbrev gN (g : Gx) : Nat := g.2.2.2.2.2.1
abbrev gX (g : Gx) : Nat → Int32 := g.2.2.2.2.2.2
def gA (g : Gx) : Nat → Prop := fun q => gB g ≤ q
def gT (g : Gx) : List (ClassId × FieldType) := [((gC g).1, .int), ((gC g).2.1, .long), ((gC g).2.2, .object "SpeaksInTurn$Shelf")]
/-- cells 0 .. 999 are made by the law; from 1000 on stands what nobody writes -/
def gad (g : Gx) (a : Nat) : Nat := if a < 1000 then gB g + a else gS g (a - 1000)
abbrev Sh : Type := List (Nat × Nat)
abbrev UI : Type := Nat → Nat → Int32
abbrev UL : Type := Nat → Nat → Int64
abbrev UR : Type := Nat → Nat → Option Nat
/-- method: its name, code, locals, answer; the cells and slots that it makes -/
abbrev Mi : Type := MethodName × ByteArray × Nat × Option FieldType × Nat × Nat
abbrev miY (i : Mi) : MethodName := i.1
abbrev miC (i : Mi) : ByteArray := i.2.1
abbrev miL (i : Mi) : Nat := i.2.2.1
abbrev miR (i : Mi) : Option FieldType := i.2.2.2.1
abbrev miK (i : Mi) : Nat := i.2.2.2.2.1
abbrev miM (i : Mi) : Nat := i.2.2.2.2.2
def tr (g : Gx) (v : Value) : Value := match v with
  | .ref a => .ref (gad g a)
  | x => x
def tyOf (c : Nat) : Nat → FieldType := match c with
  | 0 => tyX0
  | 1 => tyX1
  | 2 => tyX2
  | 3 => tyX3
  | 4 => tyX4
  | 5 => tyX5
  | 6 => tyX6
  | 7 => tyX7
  | 8 => tyX8
  | _ => tyX9
def isInt (t : FieldType) : Bool := match t with
  | .int => true
  | .boolean => true
  | _ => false
def w_f (g : Gx) (u : UI) (r : UR) (a : Nat) (t : FieldType) (k : Nat) : Value := if isInt t = true then .int (u a k) else va_rf ((r a k).map (gad g))
def w_e (g : Gx) (q : Nat × Nat) (u : UI) (w : UL) (r : UR) (a : Nat) : va_E := match q with
  | (0, n) => .inl ((gC g).1, n, .inl (u a))
  | (1, n) => .inl ((gC g).2.1, n, .inr (.inl (w a)))
  | (2, n) => .inl ((gC g).2.2, n, .inr (.inr (.inr (.inr (fun i => (r a i).map (gad g))))))
  | (c + 3, n) => .inr (c, (List.range n).map (fun k => w_f g u r a (tyOf c k) k))
def w_ws (g : Gx) (sh : Sh) (u : UI) (w : UL) (r : UR) : va_W := (List.range sh.length).map (fun a => (gB g + a, w_e g (sh.getD a (0, 0)) u w r a))
theorem w_ws_at {g : Gx} {sh : Sh} {u : UI} {w : UL} {r : UR} {a : Nat} {q : Nat × Nat} (h : sh[a]? = some q) : (w_ws g sh u w r)[a]? = some (gB g + a, w_e g q u w r a) := by
  have hl : a < sh.length := (List.getElem?_eq_some_iff.mp h).1
  simp [w_ws, List.getElem?_map, List.getElem?_range hl, List.getD_eq_getElem?_getD, h]
theorem w_ws_len {g : Gx} {sh : Sh} {u : UI} {w : UL} {r : UR} : (w_ws g sh u w r).length = sh.length := by simp [w_ws]
theorem w_ws_of {g : Gx} {sh : Sh} {u : UI} {w : UL} {r : UR} {k : Nat} {q : Nat × va_E} (h : (w_ws g sh u w r)[k]? = some q) : k < sh.length ∧ q = (gB g + k, w_e g (sh.getD k (0, 0)) u w r k) := by
  have hl : k < sh.length := by have := (List.getElem?_eq_some_iff.mp h).1; rwa [w_ws_len] at this
  refine ⟨hl, ?_⟩
  rw [w_ws, List.getElem?_map, List.getElem?_range hl] at h
  exact (Option.some.inj h).symm
theorem w_D {g : Gx} {sh : Sh} {u : UI} {w : UL} {r : UR} : va_D (gA g) (w_ws g sh u w r) := by
  refine ⟨fun i j p q hi hj hpq => ?_, fun k q hk => ?_⟩
  · obtain ⟨-, rfl⟩ := w_ws_of hi
    obtain ⟨-, rfl⟩ := w_ws_of hj
    exact Nat.add_left_cancel hpq
  · obtain ⟨-, rfl⟩ := w_ws_of hk
    exact Nat.le_add_right _ _
/-- two memories that say the same of every cell -/
theorem w_P_eq {g : Gx} {sh : Sh} {u : UI} {w : UL} {r : UR} {ws : va_W} {H : Heap} (h : va_P (gD g) vwCl ws H) (hl : ws.length = sh.length) (he : ∀ a q, sh[a]? = some q → ws[a]? = some (gB g + a, w_e g q u w r a)) : va_P (gD g) vwCl (w_ws g sh u w r) H := by
  intro k q hk
  obtain ⟨hl2, rfl⟩ := w_ws_of hk
  have hs : sh[k]? = some (sh.getD k (0, 0)) := by
    rw [List.getD_eq_getElem?_getD, List.getElem?_eq_getElem hl2]; rfl
  exact h k _ (he k _ hs)
/-- a store into one cell -/
theorem w_set {g : Gx} {sh : Sh} {u u' : UI} {w w' : UL} {r r' : UR} {a : Nat} {q : Nat × Nat} {e : va_E} (hs : sh[a]? = some q) (he : w_e g q u' w' r' a = e) (ho : ∀ b, b ≠ a → u' b = u b ∧ w' b = w b ∧ r' b = r b) : (w_ws g sh u w r).set a (gB g + a, e) = w_ws g sh u' w' r' := by
  apply List.ext_getElem?
  intro k
  rw [List.getElem?_set]
  by_cases hk : a = k
  · subst hk
    rw [if_pos rfl, w_ws_at hs, he, if_pos]
    rw [w_ws_len]; exact (List.getElem?_eq_some_iff.mp hs).1
  · rw [if_neg hk]
    by_cases hl : k < sh.length
    · have hs2 : sh[k]? = some sh[k] := List.getElem?_eq_getElem hl
      rw [w_ws_at hs2, w_ws_at hs2]
      obtain ⟨e1, e2, e3⟩ := ho k (fun h => hk h.symm)
      have : w_e g sh[k] u' w' r' k = w_e g sh[k] u w r k := by
        unfold w_e w_f
        rw [e1, e2, e3]
      rw [this]
    · rw [List.getElem?_eq_none (by rw [w_ws_len]; omega), List.getElem?_eq_none (by rw [w_ws_len]; omega)]
def uI (u : UI) (a i : Nat) (x : Int32) : UI := fun b => if b = a then upd (u a) i x else u b
def uL (w : UL) (a i : Nat) (x : Int64) : UL := fun b => if b = a then vp_updL (w a) i x else w b
def uR (r : UR) (a i : Nat) (x : Option Nat) : UR := fun b => if b = a then va_up (r a) i x else r b
/-- locals by their places -/
def w_L (g : Gx) (L : List (Option Value)) : List (Nat × Value) := (List.range L.length).filterMap (fun i => (L.getD i none).map (fun v => (i, tr g v)))
theorem w_L_mem {g : Gx} {L : List (Option Value)} {q : Nat × Value} : q ∈ w_L g L ↔ ∃ v, L[q.1]? = some (some v) ∧ q.2 = tr g v := by
  obtain ⟨i, x⟩ := q
  simp only [w_L, List.mem_filterMap, List.mem_range, Option.map_eq_some_iff, Prod.mk.injEq]
  constructor
  · rintro ⟨a, ha, v, hv, rfl, rfl⟩
    refine ⟨v, ?_, rfl⟩
    rw [List.getD_eq_getElem?_getD, List.getElem?_eq_getElem ha] at hv
    rw [List.getElem?_eq_getElem ha]
    exact congrArg some hv
  · rintro ⟨v, hv, rfl⟩
    exact ⟨i, (List.getElem?_eq_some_iff.mp hv).1, v, by rw [List.getD_eq_getElem?_getD, hv]; rfl, rfl, rfl⟩
theorem w_L_at {g : Gx} {L : List (Option Value)} {ls : Array Slot} {n i : Nat} {v : Value} (h : lv_has ls n (w_L g L)) (hi : L[i]? = some (some v)) : ls[i]? = some (.val (tr g v)) := h.2.2 (i, tr g v) (w_L_mem.mpr ⟨v, hi, rfl⟩)
/-- no long stands just ahead of place i -/
def okAt (L : List (Option Value)) (i : Nat) : Bool := match L.getD (i - 1) none with
  | some v => i == 0 || !(v.category == 2)
  | none => true
theorem w_L_set {g : Gx} {L : List (Option Value)} {ls : Array Slot} {n i : Nat} {x : Value} (h : lv_has ls n ((i, tr g x) :: (w_L g L).filter (fun q => !(q.1 == i) && !(q.1 + 1 == i && q.2.category == 2)))) (ho : okAt L i = true) : lv_has ls n (w_L g (L.set i (some x))) := by
  refine ⟨h.1, h.2.1, fun q hq => h.2.2 q ?_⟩
  obtain ⟨v, h1, h2⟩ := w_L_mem.mp hq
  obtain ⟨k, y⟩ := q
  simp only at h1 h2
  subst h2
  rw [List.getElem?_set] at h1
  by_cases hk : i = k
  · subst hk
    rw [if_pos rfl] at h1
    split at h1
    · cases h1
      exact List.mem_cons_self
    · cases h1
  · rw [if_neg hk] at h1
    refine List.mem_cons_of_mem _ (List.mem_filter.mpr ⟨w_L_mem.mpr ⟨v, h1, rfl⟩, ?_⟩)
    have hne : (k == i) = false := by simp; exact fun q => hk q.symm
    by_cases h3 : k + 1 = i
    · subst h3
      have hc : v.category ≠ 2 := by
        simp only [okAt, Nat.add_sub_cancel, List.getD_eq_getElem?_getD, h1, Option.getD_some] at ho
        simpa using ho
      have hc2 : (tr g v).category ≠ 2 := by cases v <;> simpa [tr, Value.category] using hc
      simp [hc2]
    · simp [hne, h3]
def eL (n : Nat) (vs : List Value) : List (Option Value) :=
  let l := vs.flatMap (fun v => if v.category == 2 then [some v, none] else [some v])
  l ++ List.replicate (n - l.length) none
