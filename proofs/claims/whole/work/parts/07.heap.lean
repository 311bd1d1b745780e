/-- a field of a class by its link: class number, how many fields, which, final or not -/
def FOk (own : String) (idx c n k : Nat) (fin : Bool) : Prop := ∃ (C : String) (T : u_T), vwCl[c]? = some (C, T, n) ∧ (∀ w ∈ u_ws C T n, w ∈ TBg) ∧ k < n ∧ (T k).1 = C ∧ (T k).2.2.2 = fin ∧ Cond.fieldLink own idx C (T k).2.1 (T k).2.2.1 ∈ TBg ∧ (∀ j, j < n → parseFieldDescriptor (T j).2.2.1 = some (tyOf c j)) ∧ (∀ a, a < n → ∀ b, b < n → a ≠ b → (T a).2.1 ≠ (T b).2.1)
theorem gad_at {g : Gx} {sh : Sh} {a : Nat} {q : Nat × Nat} (h : sh[a]? = some q) (hl : sh.length ≤ 1000) : gad g a = gB g + a := if_pos (Nat.lt_of_lt_of_le (List.getElem?_eq_some_iff.mp h).1 hl)
theorem w_obj {g : Gx} {c n : Nat} {u : UI} {w : UL} {r : UR} {a : Nat} : w_e g (c + 3, n) u w r a = .inr (c, (List.range n).map (fun k => w_f g u r a (tyOf c k) k)) := rfl
theorem w_fld {g : Gx} {c n k : Nat} {u : UI} {r : UR} {a : Nat} (hk : k < n) : ((List.range n).map (fun k => w_f g u r a (tyOf c k) k))[k]? = some (w_f g u r a (tyOf c k) k) := by
  rw [List.getElem?_map, List.getElem?_range hk]; rfl
section
variable {g : Gx} {d : Nat} {mi : Mi} {pc pc' : Nat} {L : List (Option Value)} {st : List Value} {kc ks : Nat} {sh : Sh} {u : UI} {w : UL} {r : UR} {Z : En}
theorem wp_getf {a c n k idx : Nat} {fin : Bool} {v : Value} (hd : decode (miC mi) pc = .ok (.getfield idx, 3)) (hs : sh[a]? = some (c + 3, n)) (hf : FOk (miY mi).cls idx c n k fin) (hv : ∀ g : Gx, w_f g u r a (tyOf c k) k = tr g v) (hp : pc + 3 = pc') (kk : Wp g d mi pc' L (v :: st) kc ks sh u w r Z) : Wp g d mi pc L (.ref a :: st) kc ks sh u w r Z := by
  subst hp
  intro p e R s m args below meth c0 F H locs ls hz hP hS hl
  obtain ⟨C, T, h1, h2, h3, h4, h5, h6, h7, h8⟩ := hf
  have hw := w_ws_at (g := g) (u := u) (w := w) (r := r) hs
  rw [w_obj] at hw
  have hg : tr g (.ref a) = .ref (gB g + a) := by show Value.ref (gad g a) = _; rw [gad_at hs hz.2]
  show W _ _ _ _ _ _ _ _ _ _ _ _ _ _ _ (F0 m pc ls (tr g (.ref a) :: st.map (tr g)))
  rw [hg]
  refine va_get F.1.1 F.1.2.1 F.2.1.2.1 h2 F.2.1.1 F.2.1.2.2.1 hP a hw h1 k h3 (F.2.1.2.1 _ h6) (fun x hx => by rw [h4] at hx; exact hx) ((w_fld h3).trans (congrArg some (hv g))) hd ?_
  exact kk p e R s m args below meth c0 F H locs ls hz hP hS hl
theorem wp_getI {a c n k idx : Nat} {fin : Bool} (hd : decode (miC mi) pc = .ok (.getfield idx, 3)) (hs : sh[a]? = some (c + 3, n)) (hf : FOk (miY mi).cls idx c n k fin) (ht : isInt (tyOf c k) = true) (hp : pc + 3 = pc') (kk : Wp g d mi pc' L (.int (u a k) :: st) kc ks sh u w r Z) : Wp g d mi pc L (.ref a :: st) kc ks sh u w r Z :=
  wp_getf (v := .int (u a k)) hd hs hf (fun g => by rw [w_f, if_pos ht]; rfl) hp kk
theorem wp_getR {a c n k idx b : Nat} {fin : Bool} (hd : decode (miC mi) pc = .ok (.getfield idx, 3)) (hs : sh[a]? = some (c + 3, n)) (hf : FOk (miY mi).cls idx c n k fin) (ht : isInt (tyOf c k) = false) (hr : r a k = some b) (hp : pc + 3 = pc') (kk : Wp g d mi pc' L (.ref b :: st) kc ks sh u w r Z) : Wp g d mi pc L (.ref a :: st) kc ks sh u w r Z :=
  wp_getf (v := .ref b) hd hs hf (fun g => by rw [w_f, if_neg (by rw [ht]; exact Bool.false_ne_true), hr]; rfl) hp kk
theorem w_f_setI {g : Gx} {c n k : Nat} {u : UI} {r : UR} {a : Nat} {x : Int32} (hk : k < n) (ht : isInt (tyOf c k) = true) : ((List.range n).map (fun j => w_f g u r a (tyOf c j) j)).set k (.int x) = (List.range n).map (fun j => w_f g (uI u a k x) r a (tyOf c j) j) := by
  apply List.ext_getElem?
  intro j
  rw [List.getElem?_set]
  by_cases hj : k = j
  · subst hj
    rw [if_pos rfl, if_pos (by simpa using hk), w_fld hk, w_f, if_pos ht]
    simp [uI, upd]
  · rw [if_neg hj]
    by_cases hl : j < n
    · rw [w_fld hl, w_fld hl, w_f, w_f]
      have : uI u a k x a j = u a j := by
        rw [uI, if_pos rfl, upd, if_neg (fun q : j = k => hj q.symm)]
      rw [this]
    · rw [List.getElem?_eq_none (by simp; omega), List.getElem?_eq_none (by simp; omega)]
theorem w_f_setR {g : Gx} {c n k : Nat} {u : UI} {r : UR} {a : Nat} {x : Option Nat} (hk : k < n) (ht : isInt (tyOf c k) = false) : ((List.range n).map (fun j => w_f g u r a (tyOf c j) j)).set k (va_rf (x.map (gad g))) = (List.range n).map (fun j => w_f g u (uR r a k x) a (tyOf c j) j) := by
  apply List.ext_getElem?
  intro j
  rw [List.getElem?_set]
  by_cases hj : k = j
  · subst hj
    rw [if_pos rfl, if_pos (by simpa using hk), w_fld hk, w_f, if_neg (by rw [ht]; exact Bool.false_ne_true)]
    simp [uR, va_up]
  · rw [if_neg hj]
    by_cases hl : j < n
    · rw [w_fld hl, w_fld hl, w_f, w_f]
      have : uR r a k x a j = r a j := by
        rw [uR, if_pos rfl, va_up, if_neg (fun q : j = k => hj q.symm)]
      rw [this]
    · rw [List.getElem?_eq_none (by simp; omega), List.getElem?_eq_none (by simp; omega)]
theorem uI_other {u : UI} {a k : Nat} {x : Int32} {b : Nat} (h : b ≠ a) : uI u a k x b = u b := if_neg h
theorem uL_other {w : UL} {a k : Nat} {x : Int64} {b : Nat} (h : b ≠ a) : uL w a k x b = w b := if_neg h
theorem uR_other {r : UR} {a k : Nat} {x : Option Nat} {b : Nat} (h : b ≠ a) : uR r a k x b = r b := if_neg h
/-- a store into a field: an int (a boolean 0 or 1) -/
theorem wp_putI {a c n k idx : Nat} {x : Int32} (hd : decode (miC mi) pc = .ok (.putfield idx, 3)) (hs : sh[a]? = some (c + 3, n)) (hf : FOk (miY mi).cls idx c n k false) (ht : isInt (tyOf c k) = true) (hb : narrow (tyOf c k) (.int x) = .int x ∧ fits (tyOf c k) (.int x) = true) (hp : pc + 3 = pc') (kk : Wp g d mi pc' L st kc ks sh (uI u a k x) w r Z) : Wp g d mi pc L (.int x :: .ref a :: st) kc ks sh u w r Z := by
  subst hp
  intro p e R s m args below meth c0 F H locs ls hz hP hS hl
  obtain ⟨C, T, h1, h2, h3, h4, h5, h6, h7, h8⟩ := hf
  have hw := w_ws_at (g := g) (u := u) (w := w) (r := r) hs
  rw [w_obj] at hw
  have hg : tr g (.ref a) = .ref (gB g + a) := by show Value.ref (gad g a) = _; rw [gad_at hs hz.2]
  show W _ _ _ _ _ _ _ _ _ _ _ _ _ _ _ (F0 m pc ls (.int x :: tr g (.ref a) :: st.map (tr g)))
  rw [hg]
  refine va_put F.1.1 F.1.2.1 F.2.1.2.1 h2 (tyOf c) h7 h8 F.2.1.1 F.2.1.2.2.1 hP w_D hS a hw h1 k h3 (F.2.1.2.1 _ h6) (fun x hx => by rw [h4] at hx; exact hx) h5 (h7 k h3) hb.1 hb.2 (by simpa using h3) hd (fun H1 locs1 hP1 hD1 hS1 => ?_)
  rw [w_set (u' := uI u a k x) (w' := w) (r' := r) hs (by rw [w_obj, ← w_f_setI h3 ht]) (fun b hb => ⟨uI_other hb, rfl, rfl⟩)] at hP1
  exact kk p e R s m args below meth c0 F H1 locs1 ls hz hP1 hS1 hl
theorem wp_putR {a c n k idx b : Nat} (hd : decode (miC mi) pc = .ok (.putfield idx, 3)) (hs : sh[a]? = some (c + 3, n)) (hf : FOk (miY mi).cls idx c n k false) (ht : isInt (tyOf c k) = false) (hb : ∀ q : Nat, narrow (tyOf c k) (.ref q) = .ref q ∧ fits (tyOf c k) (.ref q) = true) (hp : pc + 3 = pc') (kk : Wp g d mi pc' L st kc ks sh u w (uR r a k (some b)) Z) : Wp g d mi pc L (.ref b :: .ref a :: st) kc ks sh u w r Z := by
  subst hp
  intro p e R s m args below meth c0 F H locs ls hz hP hS hl
  obtain ⟨C, T, h1, h2, h3, h4, h5, h6, h7, h8⟩ := hf
  have hw := w_ws_at (g := g) (u := u) (w := w) (r := r) hs
  rw [w_obj] at hw
  have hg : tr g (.ref a) = .ref (gB g + a) := by show Value.ref (gad g a) = _; rw [gad_at hs hz.2]
  show W _ _ _ _ _ _ _ _ _ _ _ _ _ _ _ (F0 m pc ls (.ref (gad g b) :: tr g (.ref a) :: st.map (tr g)))
  rw [hg]
  refine va_put F.1.1 F.1.2.1 F.2.1.2.1 h2 (tyOf c) h7 h8 F.2.1.1 F.2.1.2.2.1 hP w_D hS a hw h1 k h3 (F.2.1.2.1 _ h6) (fun x hx => by rw [h4] at hx; exact hx) h5 (h7 k h3) (hb _).1 (hb _).2 (by simpa using h3) hd (fun H1 locs1 hP1 hD1 hS1 => ?_)
  rw [w_set (u' := u) (w' := w) (r' := uR r a k (some b)) hs (by rw [w_obj, ← w_f_setR h3 ht]; rfl) (fun b hb => ⟨rfl, rfl, uR_other hb⟩)] at hP1
  exact kk p e R s m args below meth c0 F H1 locs1 ls hz hP1 hS1 hl
/-- a final field, in a constructor of its own class -/
theorem wp_putFR {a c n k idx b : Nat} (hd : decode (miC mi) pc = .ok (.putfield idx, 3)) (hs : sh[a]? = some (c + 3, n)) (hf : FOk (miY mi).cls idx c n k true) (hc : ∀ q, vwCl[c]? = some q → q.1 = (miY mi).cls) (hi : (miY mi).name = "<init>") (ht : isInt (tyOf c k) = false) (hb : ∀ q : Nat, narrow (tyOf c k) (.ref q) = .ref q ∧ fits (tyOf c k) (.ref q) = true) (hp : pc + 3 = pc') (kk : Wp g d mi pc' L st kc ks sh u w (uR r a k (some b)) Z) : Wp g d mi pc L (.ref b :: .ref a :: st) kc ks sh u w r Z := by
  subst hp
  intro p e R s m args below meth c0 F H locs ls hz hP hS hl
  obtain ⟨C, T, h1, h2, h3, h4, h5, h6, h7, h8⟩ := hf
  have hw := w_ws_at (g := g) (u := u) (w := w) (r := r) hs
  rw [w_obj] at hw
  have hg : tr g (.ref a) = .ref (gB g + a) := by show Value.ref (gad g a) = _; rw [gad_at hs hz.2]
  show W _ _ _ _ _ _ _ _ _ _ _ _ _ _ _ (F0 m pc ls (.ref (gad g b) :: tr g (.ref a) :: st.map (tr g)))
  rw [hg]
  refine va_putF F.1.1 F.1.2.1 F.2.1.2.1 h2 (tyOf c) h7 h8 F.2.1.1 F.2.1.2.2.1 hP w_D hS a hw h1 k h3 (F.2.1.2.1 _ h6) (fun x hx => by rw [h4] at hx; exact hx) h5 (F.1.2.2.2.2.2 hi) (h4.trans (hc _ h1)) (h7 k h3) (hb _).1 (hb _).2 (by simpa using h3) hd (fun H1 locs1 hP1 hD1 hS1 => ?_)
  rw [w_set (u' := u) (w' := w) (r' := uR r a k (some b)) hs (by rw [w_obj, ← w_f_setR h3 ht]; rfl) (fun b hb => ⟨rfl, rfl, uR_other hb⟩)] at hP1
  exact kk p e R s m args below meth c0 F H1 locs1 ls hz hP1 hS1 hl
-- arrays
theorem wp_iald {a n : Nat} {i : Int32} (hd : decode (miC mi) pc = .ok (.iaload, 1)) (hs : sh[a]? = some (0, n)) (hi : vp_in i n) (hp : pc + 1 = pc') (kk : Wp g d mi pc' L (.int (u a i.toNatClampNeg) :: st) kc ks sh u w r Z) : Wp g d mi pc L (.int i :: .ref a :: st) kc ks sh u w r Z := by
  subst hp
  intro p e R s m args below meth c0 F H locs ls hz hP hS hl
  show W _ _ _ _ _ _ _ _ _ _ _ _ _ _ _ (F0 m pc ls (.int i :: .ref (gad g a) :: st.map (tr g)))
  rw [gad_at hs hz.2]
  exact va_iald F.1.1 F.1.2.1 F.2.1.2.2.1 hP a 0 (w_ws_at hs) rfl hi hd (kk p e R s m args below meth c0 F H locs ls hz hP hS hl)
theorem wp_lald {a n : Nat} {i : Int32} (hd : decode (miC mi) pc = .ok (.laload, 1)) (hs : sh[a]? = some (1, n)) (hi : vp_in i n) (hp : pc + 1 = pc') (kk : Wp g d mi pc' L (.long (w a i.toNatClampNeg) :: st) kc ks sh u w r Z) : Wp g d mi pc L (.int i :: .ref a :: st) kc ks sh u w r Z := by
  subst hp
  intro p e R s m args below meth c0 F H locs ls hz hP hS hl
  show W _ _ _ _ _ _ _ _ _ _ _ _ _ _ _ (F0 m pc ls (.int i :: .ref (gad g a) :: st.map (tr g)))
  rw [gad_at hs hz.2]
  exact va_lald F.1.1 F.1.2.1 F.2.1.2.2.1 hP a 1 (w_ws_at hs) rfl hi hd (kk p e R s m args below meth c0 F H locs ls hz hP hS hl)
theorem wp_aald {a n b : Nat} {i : Int32} (hd : decode (miC mi) pc = .ok (.aaload, 1)) (hs : sh[a]? = some (2, n)) (hi : vp_in i n) (hr : r a i.toNatClampNeg = some b) (hp : pc + 1 = pc') (kk : Wp g d mi pc' L (.ref b :: st) kc ks sh u w r Z) : Wp g d mi pc L (.int i :: .ref a :: st) kc ks sh u w r Z := by
  subst hp
  intro p e R s m args below meth c0 F H locs ls hz hP hS hl
  show W _ _ _ _ _ _ _ _ _ _ _ _ _ _ _ (F0 m pc ls (.int i :: .ref (gad g a) :: st.map (tr g)))
  rw [gad_at hs hz.2]
  refine va_aldq F.1.1 F.1.2.1 F.2.1.2.2.1 hP a 2 (w_ws_at hs) rfl hi hd ?_
  rw [hr]
  exact kk p e R s m args below meth c0 F H locs ls hz hP hS hl
theorem wp_iast {a n : Nat} {i x : Int32} (hd : decode (miC mi) pc = .ok (.iastore, 1)) (hs : sh[a]? = some (0, n)) (hi : vp_in i n) (hp : pc + 1 = pc') (kk : Wp g d mi pc' L st kc ks sh (uI u a i.toNatClampNeg x) w r Z) : Wp g d mi pc L (.int x :: .int i :: .ref a :: st) kc ks sh u w r Z := by
  subst hp
  intro p e R s m args below meth c0 F H locs ls hz hP hS hl
  show W _ _ _ _ _ _ _ _ _ _ _ _ _ _ _ (F0 m pc ls (.int x :: .int i :: .ref (gad g a) :: st.map (tr g)))
  rw [gad_at hs hz.2]
  refine va_iast F.1.1 F.1.2.1 F.2.1.2.2.1 hP w_D hS a 0 (w_ws_at hs) rfl hi hd (fun H1 locs1 hP1 hD1 hS1 => ?_)
  rw [w_set (u' := uI u a i.toNatClampNeg x) (w' := w) (r' := r) hs (by simp [w_e, uI]) (fun b hb => ⟨uI_other hb, rfl, rfl⟩)] at hP1
  exact kk p e R s m args below meth c0 F H1 locs1 ls hz hP1 hS1 hl
theorem wp_last {a n : Nat} {i : Int32} {x : Int64} (hd : decode (miC mi) pc = .ok (.lastore, 1)) (hs : sh[a]? = some (1, n)) (hi : vp_in i n) (hp : pc + 1 = pc') (kk : Wp g d mi pc' L st kc ks sh u (uL w a i.toNatClampNeg x) r Z) : Wp g d mi pc L (.long x :: .int i :: .ref a :: st) kc ks sh u w r Z := by
  subst hp
  intro p e R s m args below meth c0 F H locs ls hz hP hS hl
  show W _ _ _ _ _ _ _ _ _ _ _ _ _ _ _ (F0 m pc ls (.long x :: .int i :: .ref (gad g a) :: st.map (tr g)))
  rw [gad_at hs hz.2]
  refine va_last F.1.1 F.1.2.1 F.2.1.2.2.1 hP w_D hS a 1 (w_ws_at hs) rfl hi hd (fun H1 locs1 hP1 hD1 hS1 => ?_)
  rw [w_set (u' := u) (w' := uL w a i.toNatClampNeg x) (r' := r) hs (by simp [w_e, uL]) (fun b hb => ⟨rfl, uL_other hb, rfl⟩)] at hP1
  exact kk p e R s m args below meth c0 F H1 locs1 ls hz hP1 hS1 hl
theorem wp_aast {a n b c m2 : Nat} {i : Int32} (hd : decode (miC mi) pc = .ok (.aastore, 1)) (hs : sh[a]? = some (2, n)) (hi : vp_in i n) (hb : sh[b]? = some (c + 3, m2)) (hc : ∃ T, vwCl[c]? = some ("SpeaksInTurn$Shelf", T, m2)) (hp : pc + 1 = pc') (kk : Wp g d mi pc' L st kc ks sh u w (uR r a i.toNatClampNeg (some b)) Z) : Wp g d mi pc L (.ref b :: .int i :: .ref a :: st) kc ks sh u w r Z := by
  subst hp
  intro p e R s m args below meth c0 F H locs ls hz hP hS hl
  obtain ⟨T, hc⟩ := hc
  show W _ _ _ _ _ _ _ _ _ _ _ _ _ _ _ (F0 m pc ls (.ref (gad g b) :: .int i :: .ref (gad g a) :: st.map (tr g)))
  rw [gad_at hs hz.2, gad_at hb hz.2]
  have hwb := w_ws_at (g := g) (u := u) (w := w) (r := r) hb
  rw [w_obj] at hwb
  refine va_astq F.1.1 F.1.2.1 F.2.1.2.2.1 hP w_D hS a 2 b c (w_ws_at hs) rfl hwb hc hi hd (fun H1 locs1 hP1 hD1 hS1 => ?_)
  rw [w_set (u' := u) (w' := w) (r' := uR r a i.toNatClampNeg (some b)) hs ?_ (fun b hb => ⟨rfl, rfl, uR_other hb⟩)] at hP1
  · exact kk p e R s m args below meth c0 F H1 locs1 ls hz hP1 hS1 hl
  · simp only [w_e, uR, if_pos]
    congr 7
    funext j
    simp only [va_up]
    split
    · simp [gad_at hb hz.2]
    · rfl
theorem wp_alen {a n t : Nat} (v : Int32) (hd : decode (miC mi) pc = .ok (.arraylength, 1)) (hs : sh[a]? = some (t, n)) (ht : t < 3) (hv : Int32.ofNat n = v) (hp : pc + 1 = pc') (kk : Wp g d mi pc' L (.int v :: st) kc ks sh u w r Z) : Wp g d mi pc L (.ref a :: st) kc ks sh u w r Z := by
  subst hp
  intro p e R s m args below meth c0 F H locs ls hz hP hS hl
  show W _ _ _ _ _ _ _ _ _ _ _ _ _ _ _ (F0 m pc ls (.ref (gad g a) :: st.map (tr g)))
  rw [gad_at hs hz.2]
  have hk := kk p e R s m args below meth c0 F H locs ls hz hP hS hl
  match t, ht with
  | 0, _ => exact va_alen F.1.1 F.1.2.1 F.2.1.2.2.1 hP a 0 (w_ws_at hs) (ty := .int) rfl hv hd hk
  | 1, _ => exact va_alen F.1.1 F.1.2.1 F.2.1.2.2.1 hP a 1 (w_ws_at hs) (ty := .long) rfl hv hd hk
  | 2, _ => exact va_alen F.1.1 F.1.2.1 F.2.1.2.2.1 hP a 2 (w_ws_at hs) (ty := .object "SpeaksInTurn$Shelf") rfl hv hd hk
end
