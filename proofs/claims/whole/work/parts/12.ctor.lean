/-! WHAT THE CONSTRUCTORS MAKE -/
def UPl : List (Nat × Nat × Int32) := [(11, 0, 0), (11, 1, 0), (11, 2, 3), (56, 0, -1), (56, 1, -1), (56, 2, -1), (73, 0, -2), (73, 1, -1), (75, 0, -2), (75, 1, -1), (77, 0, -2), (77, 1, -1), (79, 0, -2), (79, 1, -1), (81, 0, -2), (81, 1, -1), (83, 0, -2), (83, 1, -1), (126, 0, -1), (126, 1, -1), (126, 2, -1), (126, 3, -1), (126, 4, -1), (126, 5, -1), (85, 19, -1), (85, 15, 3), (85, 46, -1)]
def RPl : List (Nat × Nat × Nat) := [(1, 0, 2), (1, 1, 3), (1, 2, 4), (1, 3, 5), (1, 4, 6), (1, 5, 7), (1, 6, 8), (1, 7, 9), (1, 8, 10), (1, 9, 11), (1, 10, 12), (1, 11, 13), (14, 0, 15), (14, 1, 16), (14, 3, 17), (14, 4, 18), (1, 12, 14), (0, 0, 1), (19, 0, 20), (19, 1, 21), (19, 2, 22), (19, 3, 23), (0, 1, 19), (24, 1, 25), (24, 2, 26), (24, 6, 27), (24, 7, 28), (24, 4, 1), (29, 0, 30), (29, 1, 31), (29, 2, 32), (29, 3, 33), (29, 4, 34), (29, 5, 35), (29, 6, 36), (29, 11, 37), (29, 12, 38), (29, 13, 39), (29, 14, 40), (29, 10, 1), (24, 0, 29), (41, 0, 42), (41, 1, 43), (41, 2, 44), (41, 3, 45), (41, 4, 46), (41, 5, 47), (41, 6, 48), (41, 11, 49), (41, 12, 50), (41, 13, 51), (41, 14, 52), (41, 10, 1), (24, 5, 41), (0, 2, 24), (53, 2, 54), (53, 3, 55), (53, 4, 56), (53, 0, 1), (57, 0, 58), (57, 1, 59), (57, 2, 60), (57, 3, 61), (57, 4, 62), (57, 5, 63), (57, 6, 64), (57, 11, 65), (57, 12, 66), (57, 13, 67), (57, 14, 68), (57, 10, 1), (53, 1, 57), (0, 3, 53), (69, 0, 70), (69, 3, 71), (0, 4, 69), (0, 5, 72), (73, 3, 74), (72, 0, 73), (75, 3, 76), (72, 1, 75), (77, 3, 78), (72, 2, 77), (79, 3, 80), (72, 3, 79), (81, 3, 82), (72, 4, 81), (83, 3, 84), (72, 5, 83), (85, 0, 86), (85, 1, 87), (85, 2, 88), (85, 3, 89), (85, 7, 90), (85, 10, 91), (85, 11, 92), (85, 12, 93), (85, 16, 94), (85, 18, 95), (85, 25, 96), (85, 32, 97), (85, 33, 98), (85, 34, 99), (85, 35, 100), (85, 36, 101), (85, 37, 102), (85, 38, 103), (85, 39, 104), (85, 40, 105), (85, 41, 106), (85, 42, 107), (85, 43, 108), (85, 44, 109), (85, 45, 110), (85, 50, 111), (85, 51, 112), (85, 52, 113), (85, 53, 114), (85, 54, 115), (85, 55, 116), (85, 56, 117), (85, 57, 118), (85, 58, 119), (85, 59, 120), (85, 60, 121), (85, 61, 122), (85, 62, 123), (85, 67, 124), (85, 68, 125), (85, 72, 126), (85, 73, 127), (85, 74, 128), (85, 75, 129)]
def uP (t : Nat) : UI := (UPl.take t).foldl (fun u q => uI u q.1 q.2.1 q.2.2) (fun _ _ => 0)
def rP (t : Nat) : UR := (RPl.take t).foldl (fun r q => uR r q.1 q.2.1 (some q.2.2)) (fun _ _ => none)
def wZ : UL := fun _ _ => 0
theorem take_next {α : Type} {l : List α} {n : Nat} {x : α} (h : l[n]? = some x) : l.take (n + 1) = l.take n ++ [x] := by
  rw [List.take_add_one, h]; rfl
theorem uP_next {t a k : Nat} {x : Int32} (h : UPl[t]? = some (a, k, x)) : uI (uP t) a k x = uP (t + 1) := by
  unfold uP
  rw [take_next h, List.foldl_append]; rfl
theorem rP_next {t a k b : Nat} (h : RPl[t]? = some (a, k, b)) : uR (rP t) a k (some b) = rP (t + 1) := by
  unfold rP
  rw [take_next h, List.foldl_append]; rfl
theorem foldu_far {a : Nat} : ∀ {l : List (Nat × Nat × Int32)} {u : UI}, l.all (fun q => !(q.1 == a)) = true → (l.foldl (fun u q => uI u q.1 q.2.1 q.2.2) u) a = u a
  | [], _, _ => rfl
  | q :: l, u, h => by
    rw [List.all_cons, Bool.and_eq_true] at h
    rw [List.foldl_cons, foldu_far h.2]
    exact uI_other (fun e => by rw [e] at h; simp at h)
theorem foldr_far {a : Nat} : ∀ {l : List (Nat × Nat × Nat)} {r : UR}, l.all (fun q => !(q.1 == a)) = true → (l.foldl (fun r q => uR r q.1 q.2.1 (some q.2.2)) r) a = r a
  | [], _, _ => rfl
  | q :: l, u, h => by
    rw [List.all_cons, Bool.and_eq_true] at h
    rw [List.foldl_cons, foldr_far h.2]
    exact uR_other (fun e => by rw [e] at h; simp at h)
theorem fresh_u {t a : Nat} (h : (UPl.take t).all (fun q => !(q.1 == a)) = true) : uP t a = fun _ => 0 := foldu_far h
theorem fresh_r {t a : Nat} (h : (RPl.take t).all (fun q => !(q.1 == a)) = true) : rP t a = fun _ => none := foldr_far h
theorem take_at {a b : Nat} {q : Nat × Nat} (h : shF[b]? = some q) (hb : b < a) : (shF.take a)[b]? = some q := by rw [List.getElem?_take, if_pos hb]; exact h
theorem take_len {a : Nat} {q : Nat × Nat} (h : shF[a]? = some q) : (shF.take a).length = a := by
  have := (List.getElem?_eq_some_iff.mp h).1
  rw [List.length_take]; omega
theorem len_sh : shF.length ≤ 1000 := by rw [shF_len]; decide
theorem w_push {g : Gx} {sh : Sh} {q : Nat × Nat} {u : UI} {w : UL} {r : UR} : w_ws g (sh ++ [q]) u w r = w_ws g sh u w r ++ [(gB g + sh.length, w_e g q u w r sh.length)] := by
  apply List.ext_getElem?
  intro k
  by_cases hk : k < sh.length
  · have h1 : (sh ++ [q])[k]? = some sh[k] := by rw [List.getElem?_append_left hk]; exact List.getElem?_eq_getElem hk
    rw [w_ws_at h1, List.getElem?_append_left (by rw [w_ws_len]; exact hk), w_ws_at (List.getElem?_eq_getElem hk)]
  · by_cases hk2 : k = sh.length
    · subst hk2
      have h1 : (sh ++ [q])[sh.length]? = some q := by rw [List.getElem?_append_right (Nat.le_refl _)]; simp
      rw [w_ws_at h1, List.getElem?_append_right (by rw [w_ws_len]; exact Nat.le_refl _), w_ws_len]; simp
    · rw [List.getElem?_eq_none (by rw [w_ws_len, List.length_append]; simp; omega), List.getElem?_eq_none (by rw [List.length_append, w_ws_len]; simp; omega)]
theorem w_grow {g : Gx} {sh : Sh} {q : Nat × Nat} {u : UI} {w : UL} {r : UR} {H H1 : Heap} (hP : va_P (gD g) vwCl (w_ws g sh u w r) H) (o1 : ∀ x : Nat, x < gB g + sh.length → H1[x]? = H[x]?) (he : va_at (gD g) vwCl (gB g + sh.length, w_e g q u w r sh.length) H1) : va_P (gD g) vwCl (w_ws g (sh ++ [q]) u w r) H1 := by
  rw [w_push]
  refine (hP.kept (fun k x hx => ?_)).app (fun k x hx => ?_)
  · obtain ⟨h1, h2⟩ := w_ws_of hx
    apply o1
    rw [h2]
    simp only
    omega
  · have hz : k < 1 := (List.getElem?_eq_some_iff.mp hx).1
    rw [show k = 0 by omega] at hx
    cases hx
    exact he
def qC (a t1 t2 : Nat) : Qy := fun v sh u w r => v = none ∧ sh = shF.take a ∧ u = uP t1 ∧ w = wZ ∧ r = rP t2
section
variable {g : Gx} {d : Nat} {mi : Mi} {pc pc' : Nat} {L : List (Option Value)} {st : List Value} {kc ks kc' ks' : Nat} {sh : Sh} {u : UI} {w : UL} {r : UR} {Z : En} {a tu tr : Nat}
theorem wp_objInit {idx b : Nat} (hd : decode (miC mi) pc = .ok (.invokespecial idx, 3)) (h1 : Cond.methodLink (miY mi).cls idx Lib.objectInit ∈ TBg) (h2 : Cond.instanceMethod Lib.objectInit ∈ TBg) (h3 : Cond.code Lib.objectInit object_method_1_code 1 none ∈ TBg) (hdd : 1 ≤ d) (hcat : (st.map fun v => v.category).sum ≤ 8) (hp : pc + 3 = pc') (k : Wp g d mi pc' L st kc ks sh u w r Z) : Wp g d mi pc L (.ref b :: st) kc ks sh u w r Z := by
  subst hp
  intro p e R s m args below meth c F H locs ls hz hP hS hl
  have hts := F.2.1.2.1
  refine W.objInit F.1.1 F.1.2.1 F.2.1.1 (hts _ h1) (hts _ h2) (hts _ h3) rfl (hl.1.trans F.1.2.2.1.symm) rfl hd (Nat.le_trans hdd F.2.2.1) ?_ (k p e R s m args below meth c F H locs ls hz hP hS hl)
  have h6 := F.2.2.2.1
  show 2 * 0 + ((st.map (tr g)).map fun v => v.category).sum + 12 ≤ _
  rw [w_sum]
  omega
theorem w_tyI {U : State} {c1 cA : ClassId} {ty : FieldType} (h : va_RA U c1 ty) (hi : ty = .int ∨ ty = .long) (hN : U.vm.findClass ("[" ++ ty.toString) = some cA) : cA = c1 := by
  rcases hi with rfl | rfl
  · exact Option.some.inj (hN.symm.trans h)
  · exact Option.some.inj (hN.symm.trans h)
theorem wc_newI {v : Int32} {n : Nat} (hd : decode (miC mi) pc = .ok (.newarray .int, 2)) (hv : ¬ v < 0 ∧ v.toNatClampNeg = n) (hn : n ≤ 100000) (hq : Cond.arrayClass .int ∈ TBg) (hs0 : shF[a]? = some (0, n)) (hz0 : u a = fun _ => 0) (hk : kc + 1 ≤ miK mi) (hs : ks + n ≤ miM mi) (ekc : kc + 1 = kc') (eks : ks + n = ks') (hp : pc + 2 = pc') (k : Wp g d mi pc' L (.ref a :: st) kc' ks' (shF.take (a + 1)) u w r Z) : Wp g d mi pc L (.int v :: st) kc ks (shF.take a) u w r Z := by
  subst hp; subst ekc; subst eks
  intro p e R s m args below meth c F H locs ls hz hP hS hl
  refine w_size F.2.1.2.2.2.1 hz.1 hP hS (fun hsz => ?_)
  have ha := take_len hs0
  rw [take_next hs0] at k
  refine va_newaK (atype := .int) (N := n) F.1.1 F.1.2.1 (F.2.1.2.1 _ hq) rfl hd rfl hv.1 hv.2 (by simp [componentBytes, newarray.typeOf]; omega) (Nat.le_trans hk F.2.2.2.2.1) (Nat.le_trans hs F.2.2.2.2.2) hsz (fun H1 cA e1 z1 o1 hAr hNm => ?_)
  have hcA : cA = (gC g).1 := w_tyI (F.2.1.2.2.1.2 0 _ rfl).2 (Or.inl rfl) hNm
  subst hcA
  have hal : a < shF.length := (List.getElem?_eq_some_iff.mp hs0).1
  have hl9 : a < 1000 := Nat.lt_of_lt_of_le hal len_sh
  have := k p e R s m args below meth c F H1 locs ls ⟨by rw [List.length_append, ha]; have := hz.1; rw [ha] at this; simp; omega, by rw [List.length_append, ha]; simp; omega⟩ (w_grow hP o1 (by
    show H1[gB g + (shF.take a).length]? = some (vp_cell (gC g).1 (n, .inl (u (shF.take a).length)))
    rw [vp_cell_i, ha, hz0]
    rw [ha] at e1
    exact e1)) ⟨Nat.le_trans hS.1 (by omega), fun x h1 h2 => (o1 x (by have := hS.1; omega)).trans (hS.2.1 x h1 h2), hS.2.2⟩ hl
  rw [List.map_cons, show tr g (.ref a) = .ref (gB g + a) from congrArg Value.ref (if_pos hl9)] at this
  rw [ha]
  exact this
theorem wc_newL {v : Int32} {n : Nat} (hd : decode (miC mi) pc = .ok (.newarray .long, 2)) (hv : ¬ v < 0 ∧ v.toNatClampNeg = n) (hn : n ≤ 100000) (hq : Cond.arrayClass .long ∈ TBg) (hs0 : shF[a]? = some (1, n)) (hk : kc + 1 ≤ miK mi) (hs : ks + n ≤ miM mi) (ekc : kc + 1 = kc') (eks : ks + n = ks') (hp : pc + 2 = pc') (k : Wp g d mi pc' L (.ref a :: st) kc' ks' (shF.take (a + 1)) u wZ r Z) : Wp g d mi pc L (.int v :: st) kc ks (shF.take a) u wZ r Z := by
  subst hp; subst ekc; subst eks
  intro p e R s m args below meth c F H locs ls hz hP hS hl
  refine w_size F.2.1.2.2.2.1 hz.1 hP hS (fun hsz => ?_)
  have ha := take_len hs0
  rw [take_next hs0] at k
  refine va_newaK (atype := .long) (N := n) F.1.1 F.1.2.1 (F.2.1.2.1 _ hq) rfl hd rfl hv.1 hv.2 (by simp [componentBytes, newarray.typeOf]; omega) (Nat.le_trans hk F.2.2.2.2.1) (Nat.le_trans hs F.2.2.2.2.2) hsz (fun H1 cA e1 z1 o1 hAr hNm => ?_)
  have hcA : cA = (gC g).2.1 := w_tyI (F.2.1.2.2.1.2 1 _ rfl).2 (Or.inr rfl) hNm
  subst hcA
  have hal : a < shF.length := (List.getElem?_eq_some_iff.mp hs0).1
  have hl9 : a < 1000 := Nat.lt_of_lt_of_le hal len_sh
  have := k p e R s m args below meth c F H1 locs ls ⟨by rw [List.length_append, ha]; have := hz.1; rw [ha] at this; simp; omega, by rw [List.length_append, ha]; simp; omega⟩ (w_grow hP o1 (by
    show H1[gB g + (shF.take a).length]? = some (vp_cell (gC g).2.1 (n, .inr (.inl (wZ (shF.take a).length))))
    rw [vp_cell_l, ha]
    rw [ha] at e1
    exact e1)) ⟨Nat.le_trans hS.1 (by omega), fun x h1 h2 => (o1 x (by have := hS.1; omega)).trans (hS.2.1 x h1 h2), hS.2.2⟩ hl
  rw [List.map_cons, show tr g (.ref a) = .ref (gB g + a) from congrArg Value.ref (if_pos hl9)] at this
  rw [ha]
  exact this
theorem wc_newA {idx : Nat} {v : Int32} {n : Nat} (hd : decode (miC mi) pc = .ok (.anewarray idx, 3)) (hv : ¬ v < 0 ∧ v.toNatClampNeg = n) (hn : n ≤ 100000) (hq : Cond.classLink (miY mi).cls idx "SpeaksInTurn$Shelf" ∈ TBg) (hs0 : shF[a]? = some (2, n)) (hz0 : r a = fun _ => none) (hk : kc + 1 ≤ miK mi) (hs : ks + n ≤ miM mi) (ekc : kc + 1 = kc') (eks : ks + n = ks') (hp : pc + 3 = pc') (k : Wp g d mi pc' L (.ref a :: st) kc' ks' (shF.take (a + 1)) u w r Z) : Wp g d mi pc L (.int v :: st) kc ks (shF.take a) u w r Z := by
  subst hp; subst ekc; subst eks
  intro p e R s m args below meth c F H locs ls hz hP hS hl
  refine w_size F.2.1.2.2.2.1 hz.1 hP hS (fun hsz => ?_)
  have ha := take_len hs0
  rw [take_next hs0] at k
  have hv2 := hv.2
  subst hv2
  refine W.anew (C := "SpeaksInTurn$Shelf") F.1.1 F.1.2.1 F.2.1.1 (F.2.1.2.1 _ hq) (va_AO.use F.2.1.2.2.2.2.2.2.2.2.2.2.2) rfl hd rfl hv.1 (by omega) (Nat.le_trans hk F.2.2.2.2.1) (Nat.le_trans hs F.2.2.2.2.2) (fun cA kA comp f1 f2 f3 f4 => ?_)
  generalize hH1 : H.push ({ cls := cA, slots := Array.replicate v.toNatClampNeg .null, vm := .none } : Cell) = H1
  have z1 : H1.size = H.size + 1 := by rw [← hH1, Array.size_push]
  have e1 : H1[H.size]? = some (arrV cA v.toNatClampNeg (fun _ => .null)) := by rw [← hH1, Array.getElem?_push_size, ← arrV_new]
  have o1 : ∀ q : Nat, q < H.size → H1[q]? = H[q]? := fun q hq => by rw [← hH1, Array.getElem?_push, if_neg (Nat.ne_of_lt hq)]
  rw [hsz] at z1 e1 o1
  have hcA : cA = (gC g).2.2 := by
    obtain ⟨kB, cB, b1, b2, b3, b4⟩ := (F.2.1.2.2.1.2 2 _ rfl).2
    exact Option.some.inj (f1.symm.trans b4)
  subst hcA
  have hal : a < shF.length := (List.getElem?_eq_some_iff.mp hs0).1
  have hl9 : a < 1000 := Nat.lt_of_lt_of_le hal len_sh
  have := k p e R s m args below meth c F H1 locs ls ⟨by rw [List.length_append, ha]; have := hz.1; rw [ha] at this; simp; omega, by rw [List.length_append, ha]; simp; omega⟩ (w_grow hP o1 (by
    show H1[gB g + (shF.take a).length]? = some (vp_cell (gC g).2.2 (_, .inr (.inr (.inr (.inr (fun i => (r (shF.take a).length i).map (gad g)))))))
    rw [vp_cell_q, ha, hz0]
    rw [ha] at e1
    exact e1)) ⟨Nat.le_trans hS.1 (by omega), fun x h1 h2 => (o1 x (by have := hS.1; omega)).trans (hS.2.1 x h1 h2), hS.2.2⟩ hl
  rw [List.map_cons, show tr g (.ref a) = .ref (gB g + a) from congrArg Value.ref (if_pos hl9)] at this
  rw [ha] at hsz
  rw [hsz]
  exact this
theorem wc_newO {idx c0 n : Nat} {C : String} {T : u_T} (hd : decode (miC mi) pc = .ok (.new idx, 3)) (h1 : Cond.classLink (miY mi).cls idx C ∈ TBg) (h2 : Cond.instantiable C n ∈ TBg) (h3 : Cond.initialized C ∈ TBg) (hin : ∀ w ∈ u_ws C T n, w ∈ TBg) (hty : ∀ j, j < n → parseFieldDescriptor (T j).2.2.1 = some (tyOf c0 j)) (hc0 : vwCl[c0]? = some (C, T, n)) (hdf : ∀ j, j < n → (isInt (tyOf c0 j) = true ∧ defaultValue (tyOf c0 j) = .int 0) ∨ (isInt (tyOf c0 j) = false ∧ defaultValue (tyOf c0 j) = .null))
    (hs0 : shF[a]? = some (c0 + 3, n)) (hz0 : u a = fun _ => 0) (hz1 : r a = fun _ => none) (hk : kc + 1 ≤ miK mi) (hs : ks + n ≤ miM mi) (ekc : kc + 1 = kc') (eks : ks + n = ks') (hp : pc + 3 = pc') (k : Wp g d mi pc' L (.ref a :: st) kc' ks' (shF.take (a + 1)) u w r Z) : Wp g d mi pc L st kc ks (shF.take a) u w r Z := by
  subst hp; subst ekc; subst eks
  intro p e R s m args below meth c F H locs ls hz hP hS hl
  refine w_size F.2.1.2.2.2.1 hz.1 hP hS (fun hsz => ?_)
  have ha := take_len hs0
  rw [take_next hs0] at k
  have hts := F.2.1.2.1
  have hKn := F.2.1.2.2.1.1 c0 _ hc0
  refine W.newcK F.1.1 F.1.2.1 F.2.1.1 (hts _ h1) (hts _ h2) (hts _ h3) rfl hd (Nat.le_trans hk F.2.2.2.2.1) (Nat.le_trans hs F.2.2.2.2.2) hKn.2.1 hsz (fun H1 kC hkC e1 z1 o1 => ?_)
  have hal : a < shF.length := (List.getElem?_eq_some_iff.mp hs0).1
  have hl9 : a < 1000 := Nat.lt_of_lt_of_le hal len_sh
  have := k p e R s m args below meth c F H1 locs ls ⟨by rw [List.length_append, ha]; have := hz.1; rw [ha] at this; simp; omega, by rw [List.length_append, ha]; simp; omega⟩ (w_grow hP o1 (by
    rw [w_obj]
    refine ⟨_, hc0, (u_born (tyOf c0) hts hin hKn hkC e1 hty).to (fun j hj => ?_)⟩
    rw [vp_V, List.getD_eq_getElem?_getD, w_fld hj, w_f, ha, hz0, hz1]
    rcases hdf j hj with ⟨q1, q2⟩ | ⟨q1, q2⟩
    · rw [if_pos q1, q2]; rfl
    · rw [if_neg (by rw [q1]; exact Bool.false_ne_true), q2]; rfl)) ⟨Nat.le_trans hS.1 (by omega), fun x h1 h2 => (o1 x (by have := hS.1; omega)).trans (hS.2.1 x h1 h2), hS.2.2⟩ hl
  rw [List.map_cons, show tr g (.ref a) = .ref (gB g + a) from congrArg Value.ref (if_pos hl9)] at this
  rw [ha]
  exact this
theorem wc_putI {top k c0 n idx : Nat} {x : Int32} (hd : decode (miC mi) pc = .ok (.putfield idx, 3)) (hs : shF[a]? = some (c0 + 3, n)) (hlt : a < top) (hf : FOk (miY mi).cls idx c0 n k false) (ht : tyOf c0 k = .int) (hu : UPl[tu]? = some (a, k, x)) (hp : pc + 3 = pc') (kk : Wp g d mi pc' L st kc ks (shF.take top) (uP (tu + 1)) w r Z) : Wp g d mi pc L (.int x :: .ref a :: st) kc ks (shF.take top) (uP tu) w r Z :=
  wp_putI hd (take_at hs hlt) hf (by rw [ht]; rfl) (by rw [ht]; exact ⟨rfl, rfl⟩) hp (by rw [uP_next hu]; exact kk)
theorem wc_putR {top b k c0 n idx : Nat} (hd : decode (miC mi) pc = .ok (.putfield idx, 3)) (hs : shF[a]? = some (c0 + 3, n)) (hlt : a < top) (hf : FOk (miY mi).cls idx c0 n k false) (ht : isInt (tyOf c0 k) = false) (hb : ∀ q : Nat, narrow (tyOf c0 k) (.ref q) = .ref q ∧ fits (tyOf c0 k) (.ref q) = true) (hr : RPl[tr]? = some (a, k, b)) (hp : pc + 3 = pc') (kk : Wp g d mi pc' L st kc ks (shF.take top) u w (rP (tr + 1)) Z) : Wp g d mi pc L (.ref b :: .ref a :: st) kc ks (shF.take top) u w (rP tr) Z :=
  wp_putR hd (take_at hs hlt) hf ht hb hp (by rw [rP_next hr]; exact kk)
theorem wc_putFR {top b k c0 n idx : Nat} (hd : decode (miC mi) pc = .ok (.putfield idx, 3)) (hs : shF[a]? = some (c0 + 3, n)) (hlt : a < top) (hf : FOk (miY mi).cls idx c0 n k true) (hc : ∀ q, vwCl[c0]? = some q → q.1 = (miY mi).cls) (hi : (miY mi).name = "<init>") (ht : isInt (tyOf c0 k) = false) (hb : ∀ q : Nat, narrow (tyOf c0 k) (.ref q) = .ref q ∧ fits (tyOf c0 k) (.ref q) = true) (hr : RPl[tr]? = some (a, k, b)) (hp : pc + 3 = pc') (kk : Wp g d mi pc' L st kc ks (shF.take top) u w (rP (tr + 1)) Z) : Wp g d mi pc L (.ref b :: .ref a :: st) kc ks (shF.take top) u w (rP tr) Z :=
  wp_putFR hd (take_at hs hlt) hf hc hi ht hb hp (by rw [rP_next hr]; exact kk)
theorem wc_getR {top b k c0 n idx : Nat} {fin : Bool} (hd : decode (miC mi) pc = .ok (.getfield idx, 3)) (hs : shF[a]? = some (c0 + 3, n)) (hlt : a < top) (hf : FOk (miY mi).cls idx c0 n k fin) (ht : isInt (tyOf c0 k) = false) (hr : r a k = some b) (hp : pc + 3 = pc') (kk : Wp g d mi pc' L (.ref b :: st) kc ks (shF.take top) u w r Z) : Wp g d mi pc L (.ref a :: st) kc ks (shF.take top) u w r Z :=
  wp_getR hd (take_at hs hlt) hf ht hr hp kk
theorem wc_iast {top n : Nat} {i x : Int32} (hd : decode (miC mi) pc = .ok (.iastore, 1)) (hs : shF[a]? = some (0, n)) (hlt : a < top) (hi : i.toNatClampNeg < n ∧ ¬ i < 0) (hu : UPl[tu]? = some (a, i.toNatClampNeg, x)) (hp : pc + 1 = pc') (kk : Wp g d mi pc' L st kc ks (shF.take top) (uP (tu + 1)) w r Z) : Wp g d mi pc L (.int x :: .int i :: .ref a :: st) kc ks (shF.take top) (uP tu) w r Z :=
  wp_iast hd (take_at hs hlt) (fun h => h.elim hi.2 (Nat.not_le.mpr hi.1)) hp (by rw [uP_next hu]; exact kk)
theorem wc_aast {top n b c m2 : Nat} {i : Int32} (hd : decode (miC mi) pc = .ok (.aastore, 1)) (hs : shF[a]? = some (2, n)) (hlt : a < top) (hi : i.toNatClampNeg < n ∧ ¬ i < 0) (hb : shF[b]? = some (c + 3, m2)) (hlt2 : b < top) (hc : ∃ T, vwCl[c]? = some ("SpeaksInTurn$Shelf", T, m2)) (hr : RPl[tr]? = some (a, i.toNatClampNeg, b)) (hp : pc + 1 = pc') (kk : Wp g d mi pc' L st kc ks (shF.take top) u w (rP (tr + 1)) Z) : Wp g d mi pc L (.ref b :: .int i :: .ref a :: st) kc ks (shF.take top) u w (rP tr) Z :=
  wp_aast hd (take_at hs hlt) (fun h => h.elim hi.2 (Nat.not_le.mpr hi.1)) (take_at hb hlt2) hc hp (by rw [rP_next hr]; exact kk)
theorem wc_callI {idx b d' a0 u0 r0 a1 u1 r1 kc2 ks2 : Nat} {mi' : Mi} {As rest : List Value} (hd : decode (miC mi) pc = .ok (.invokespecial idx, 3)) (ok : OkI (miY mi).cls idx mi' As.length) (hM : Mx g d' mi' (.ref b :: As) (shF.take a0) (uP u0) wZ (rP r0) (qC a1 u1 r1)) (hdd : d' + 1 ≤ d) (hst : st = As.reverse ++ .ref b :: rest) (hcat : (rest.map fun v => v.category).sum ≤ 8) (hk : kc + miK mi' ≤ miK mi) (hs : ks + miM mi' ≤ miM mi) (ekc : kc + miK mi' = kc2) (eks : ks + miM mi' = ks2) (hp : pc + 3 = pc')
    (kk : Wp g d mi pc' L rest kc2 ks2 (shF.take a1) (uP u1) wZ (rP r1) Z) : Wp g d mi pc L st kc ks (shF.take a0) (uP u0) wZ (rP r0) Z := by
  subst ekc; subst eks; subst hp
  refine wp_callI hd ok hM hdd hst hcat hk hs (fun v sh' u' w' r' hq => ?_)
  obtain ⟨e1, e2, e3, e4, e5⟩ := hq
  subst e1; subst e2; subst e3; subst e4; subst e5
  exact kk
theorem wc_callIN {idx b d' a0 u0 r0 a1 u1 r1 kc2 ks2 : Nat} {mi' : Mi} {host : String} {As rest : List Value} (hd : decode (miC mi) pc = .ok (.invokespecial idx, 3)) (ok : OkIN (miY mi).cls idx mi' host As.length) (hM : Mx g d' mi' (.ref b :: As) (shF.take a0) (uP u0) wZ (rP r0) (qC a1 u1 r1)) (hdd : d' + 1 ≤ d) (hst : st = As.reverse ++ .ref b :: rest) (hcat : (rest.map fun v => v.category).sum ≤ 8) (hk : kc + miK mi' ≤ miK mi) (hs : ks + miM mi' ≤ miM mi) (ekc : kc + miK mi' = kc2) (eks : ks + miM mi' = ks2) (hp : pc + 3 = pc')
    (kk : Wp g d mi pc' L rest kc2 ks2 (shF.take a1) (uP u1) wZ (rP r1) Z) : Wp g d mi pc L st kc ks (shF.take a0) (uP u0) wZ (rP r0) Z := by
  subst ekc; subst eks; subst hp
  refine wp_callIN hd ok hM hdd hst hcat hk hs (fun v sh' u' w' r' hq => ?_)
  obtain ⟨e1, e2, e3, e4, e5⟩ := hq
  subst e1; subst e2; subst e3; subst e4; subst e5
  exact kk
end

abbrev mi_X0_init : Mi := (yX0_init, cX0_init, 1, none, 2, 74)
theorem dfX0 : ∀ j, j < 6 → (isInt (tyOf 0 j) = true ∧ defaultValue (tyOf 0 j) = .int 0) ∨ (isInt (tyOf 0 j) = false ∧ defaultValue (tyOf 0 j) = .null) := by decide +kernel
abbrev mi_X1_init : Mi := (yX1_init, cX1_init, 1, none, 4, 160)
theorem dfX1 : ∀ j, j < 6 → (isInt (tyOf 1 j) = true ∧ defaultValue (tyOf 1 j) = .int 0) ∨ (isInt (tyOf 1 j) = false ∧ defaultValue (tyOf 1 j) = .null) := by decide +kernel
abbrev mi_X2_init : Mi := (yX2_init, cX2_init, 1, none, 4, 504)
theorem dfX2 : ∀ j, j < 9 → (isInt (tyOf 2 j) = true ∧ defaultValue (tyOf 2 j) = .int 0) ∨ (isInt (tyOf 2 j) = false ∧ defaultValue (tyOf 2 j) = .null) := by decide +kernel
abbrev mi_X3_init : Mi := (yX3_init, cX3_init, 2, none, 11, 1514)
theorem dfX3 : ∀ j, j < 19 → (isInt (tyOf 3 j) = true ∧ defaultValue (tyOf 3 j) = .int 0) ∨ (isInt (tyOf 3 j) = false ∧ defaultValue (tyOf 3 j) = .null) := by decide +kernel
abbrev mi_X4_init : Mi := (yX4_init, cX4_init, 2, none, 28, 3098)
theorem dfX4 : ∀ j, j < 11 → (isInt (tyOf 4 j) = true ∧ defaultValue (tyOf 4 j) = .int 0) ∨ (isInt (tyOf 4 j) = false ∧ defaultValue (tyOf 4 j) = .null) := by decide +kernel
abbrev mi_X5_init : Mi := (yX5_init, cX5_init, 1, none, 1, 60)
theorem dfX5 : ∀ j, j < 4 → (isInt (tyOf 5 j) = true ∧ defaultValue (tyOf 5 j) = .int 0) ∨ (isInt (tyOf 5 j) = false ∧ defaultValue (tyOf 5 j) = .null) := by decide +kernel
abbrev mi_X6_init : Mi := (yX6_init, cX6_init, 1, none, 17, 644)
theorem dfX6 : ∀ j, j < 17 → (isInt (tyOf 6 j) = true ∧ defaultValue (tyOf 6 j) = .int 0) ∨ (isInt (tyOf 6 j) = false ∧ defaultValue (tyOf 6 j) = .null) := by decide +kernel
abbrev mi_X7_init : Mi := (yX7_init, cX7_init, 2, none, 15, 1551)
theorem dfX7 : ∀ j, j < 5 → (isInt (tyOf 7 j) = true ∧ defaultValue (tyOf 7 j) = .int 0) ∨ (isInt (tyOf 7 j) = false ∧ defaultValue (tyOf 7 j) = .null) := by decide +kernel
abbrev mi_X8_init : Mi := (yX8_init, cX8_init, 2, none, 84, 5962)
theorem dfX8 : ∀ j, j < 6 → (isInt (tyOf 8 j) = true ∧ defaultValue (tyOf 8 j) = .int 0) ∨ (isInt (tyOf 8 j) = false ∧ defaultValue (tyOf 8 j) = .null) := by decide +kernel
abbrev mi_X9_init : Mi := (yX9_init, cX9_init, 2, none, 44, 3940)
theorem dfX9 : ∀ j, j < 76 → (isInt (tyOf 9 j) = true ∧ defaultValue (tyOf 9 j) = .int 0) ∨ (isInt (tyOf 9 j) = false ∧ defaultValue (tyOf 9 j) = .null) := by decide +kernel
theorem oi_X4_30 : OkI "SpeaksInTurn$Minutes" 30 mi_X3_init 1 := ⟨⟨q290, q291, q106, q292, rfl, rfl⟩, ⟨by decide +kernel, by decide +kernel, by decide +kernel⟩, by decide⟩
theorem oi_X6_50 : OkIN "SpeaksInTurn$Table" 50 mi_X2_init "SpeaksInTurn" 0 := ⟨⟨by decide +kernel, q137, q103, q138, rfl, rfl⟩, ⟨by decide +kernel, by decide +kernel, by decide +kernel⟩, by decide⟩
theorem oi_X7_27 : OkI "SpeaksInTurn$Thought" 27 mi_X3_init 1 := ⟨⟨q411, q291, q106, q292, rfl, rfl⟩, ⟨by decide +kernel, by decide +kernel, by decide +kernel⟩, by decide⟩
theorem oi_X8_18 : OkIN "SpeaksInTurn" 18 mi_X1_init "SpeaksInTurn" 0 := ⟨⟨by decide +kernel, q254, q104, q255, rfl, rfl⟩, ⟨by decide +kernel, by decide +kernel, by decide +kernel⟩, by decide⟩
theorem oi_X8_25 : OkI "SpeaksInTurn" 25 mi_X4_init 1 := ⟨⟨q284, q285, q105, q286, rfl, rfl⟩, ⟨by decide +kernel, by decide +kernel, by decide +kernel⟩, by decide⟩
theorem oi_X8_34 : OkI "SpeaksInTurn" 34 mi_X7_init 1 := ⟨⟨q406, q407, q107, q408, rfl, rfl⟩, ⟨by decide +kernel, by decide +kernel, by decide +kernel⟩, by decide⟩
theorem oi_X8_41 : OkIN "SpeaksInTurn" 41 mi_X0_init "SpeaksInTurn" 0 := ⟨⟨by decide +kernel, q431, q108, q432, rfl, rfl⟩, ⟨by decide +kernel, by decide +kernel, by decide +kernel⟩, by decide⟩
theorem oi_X8_52 : OkIN "SpeaksInTurn" 52 mi_X5_init "SpeaksInTurn" 0 := ⟨⟨by decide +kernel, q460, q109, q461, rfl, rfl⟩, ⟨by decide +kernel, by decide +kernel, by decide +kernel⟩, by decide⟩
theorem oi_X8_9 : OkIN "SpeaksInTurn" 9 mi_X6_init "SpeaksInTurn" 0 := ⟨⟨by decide +kernel, q131, q102, q132, rfl, rfl⟩, ⟨by decide +kernel, by decide +kernel, by decide +kernel⟩, by decide⟩
theorem oi_L_9 : OkI "SpeaksInTurnLaw" 9 mi_X8_init 0 := ⟨⟨q122, q123, q101, q124, rfl, rfl⟩, ⟨by decide +kernel, by decide +kernel, by decide +kernel⟩, by decide⟩
theorem oi_L_12 : OkI "SpeaksInTurnLaw" 12 mi_X9_init 0 := ⟨⟨q1147, q1148, q110, q1149, rfl, rfl⟩, ⟨by decide +kernel, by decide +kernel, by decide +kernel⟩, by decide⟩
theorem fc_X0_13 : FOk "SpeaksInTurn$Acts" 13 0 6 3 true := ⟨"SpeaksInTurn$Acts", TX0, rfl, inX0, by decide, rfl, rfl, q440, tyX0_ok, nmX0⟩
theorem fc_X0_9 : FOk "SpeaksInTurn$Acts" 9 0 6 0 true := ⟨"SpeaksInTurn$Acts", TX0, rfl, inX0, by decide, rfl, rfl, q434, tyX0_ok, nmX0⟩
theorem fc_X1_13 : FOk "SpeaksInTurn$Changes" 13 1 6 1 true := ⟨"SpeaksInTurn$Changes", TX1, rfl, inX1, by decide, rfl, rfl, q259, tyX1_ok, nmX1⟩
theorem fc_X1_16 : FOk "SpeaksInTurn$Changes" 16 1 6 2 true := ⟨"SpeaksInTurn$Changes", TX1, rfl, inX1, by decide, rfl, rfl, q261, tyX1_ok, nmX1⟩
theorem fc_X1_19 : FOk "SpeaksInTurn$Changes" 19 1 6 3 true := ⟨"SpeaksInTurn$Changes", TX1, rfl, inX1, by decide, rfl, rfl, q263, tyX1_ok, nmX1⟩
theorem fc_X1_9 : FOk "SpeaksInTurn$Changes" 9 1 6 0 true := ⟨"SpeaksInTurn$Changes", TX1, rfl, inX1, by decide, rfl, rfl, q257, tyX1_ok, nmX1⟩
theorem fc_X2_13 : FOk "SpeaksInTurn$Law" 13 2 9 1 true := ⟨"SpeaksInTurn$Law", TX2, rfl, inX2, by decide, rfl, rfl, q141, tyX2_ok, nmX2⟩
theorem fc_X2_16 : FOk "SpeaksInTurn$Law" 16 2 9 3 false := ⟨"SpeaksInTurn$Law", TX2, rfl, inX2, by decide, rfl, rfl, q144, tyX2_ok, nmX2⟩
theorem fc_X2_19 : FOk "SpeaksInTurn$Law" 19 2 9 4 false := ⟨"SpeaksInTurn$Law", TX2, rfl, inX2, by decide, rfl, rfl, q145, tyX2_ok, nmX2⟩
theorem fc_X2_9 : FOk "SpeaksInTurn$Law" 9 2 9 0 true := ⟨"SpeaksInTurn$Law", TX2, rfl, inX2, by decide, rfl, rfl, q140, tyX2_ok, nmX2⟩
theorem fc_X3_15 : FOk "SpeaksInTurn$Meeting" 15 3 19 1 true := ⟨"SpeaksInTurn$Meeting", TX3, rfl, inX3, by decide, rfl, rfl, q297, tyX3_ok, nmX3⟩
theorem fc_X3_18 : FOk "SpeaksInTurn$Meeting" 18 3 19 2 true := ⟨"SpeaksInTurn$Meeting", TX3, rfl, inX3, by decide, rfl, rfl, q300, tyX3_ok, nmX3⟩
theorem fc_X3_21 : FOk "SpeaksInTurn$Meeting" 21 3 19 3 true := ⟨"SpeaksInTurn$Meeting", TX3, rfl, inX3, by decide, rfl, rfl, q302, tyX3_ok, nmX3⟩
theorem fc_X3_24 : FOk "SpeaksInTurn$Meeting" 24 3 19 4 true := ⟨"SpeaksInTurn$Meeting", TX3, rfl, inX3, by decide, rfl, rfl, q304, tyX3_ok, nmX3⟩
theorem fc_X3_27 : FOk "SpeaksInTurn$Meeting" 27 3 19 5 true := ⟨"SpeaksInTurn$Meeting", TX3, rfl, inX3, by decide, rfl, rfl, q306, tyX3_ok, nmX3⟩
theorem fc_X3_30 : FOk "SpeaksInTurn$Meeting" 30 3 19 6 true := ⟨"SpeaksInTurn$Meeting", TX3, rfl, inX3, by decide, rfl, rfl, q308, tyX3_ok, nmX3⟩
theorem fc_X3_35 : FOk "SpeaksInTurn$Meeting" 35 3 19 11 true := ⟨"SpeaksInTurn$Meeting", TX3, rfl, inX3, by decide, rfl, rfl, q319, tyX3_ok, nmX3⟩
theorem fc_X3_38 : FOk "SpeaksInTurn$Meeting" 38 3 19 12 true := ⟨"SpeaksInTurn$Meeting", TX3, rfl, inX3, by decide, rfl, rfl, q320, tyX3_ok, nmX3⟩
theorem fc_X3_41 : FOk "SpeaksInTurn$Meeting" 41 3 19 13 true := ⟨"SpeaksInTurn$Meeting", TX3, rfl, inX3, by decide, rfl, rfl, q321, tyX3_ok, nmX3⟩
theorem fc_X3_44 : FOk "SpeaksInTurn$Meeting" 44 3 19 14 true := ⟨"SpeaksInTurn$Meeting", TX3, rfl, inX3, by decide, rfl, rfl, q322, tyX3_ok, nmX3⟩
theorem fc_X3_47 : FOk "SpeaksInTurn$Meeting" 47 3 19 10 true := ⟨"SpeaksInTurn$Meeting", TX3, rfl, inX3, by decide, rfl, rfl, q318, tyX3_ok, nmX3⟩
theorem fc_X3_9 : FOk "SpeaksInTurn$Meeting" 9 3 19 0 true := ⟨"SpeaksInTurn$Meeting", TX3, rfl, inX3, by decide, rfl, rfl, q294, tyX3_ok, nmX3⟩
theorem fc_X4_15 : FOk "SpeaksInTurn$Minutes" 15 4 11 2 true := ⟨"SpeaksInTurn$Minutes", TX4, rfl, inX4, by decide, rfl, rfl, q370, tyX4_ok, nmX4⟩
theorem fc_X4_18 : FOk "SpeaksInTurn$Minutes" 18 4 11 6 true := ⟨"SpeaksInTurn$Minutes", TX4, rfl, inX4, by decide, rfl, rfl, q376, tyX4_ok, nmX4⟩
theorem fc_X4_21 : FOk "SpeaksInTurn$Minutes" 21 4 11 7 true := ⟨"SpeaksInTurn$Minutes", TX4, rfl, inX4, by decide, rfl, rfl, q377, tyX4_ok, nmX4⟩
theorem fc_X4_24 : FOk "SpeaksInTurn$Minutes" 24 4 11 4 true := ⟨"SpeaksInTurn$Minutes", TX4, rfl, inX4, by decide, rfl, rfl, q374, tyX4_ok, nmX4⟩
theorem fc_X4_33 : FOk "SpeaksInTurn$Minutes" 33 4 11 0 true := ⟨"SpeaksInTurn$Minutes", TX4, rfl, inX4, by decide, rfl, rfl, q366, tyX4_ok, nmX4⟩
theorem fc_X4_37 : FOk "SpeaksInTurn$Minutes" 37 4 11 5 true := ⟨"SpeaksInTurn$Minutes", TX4, rfl, inX4, by decide, rfl, rfl, q375, tyX4_ok, nmX4⟩
theorem fc_X4_9 : FOk "SpeaksInTurn$Minutes" 9 4 11 1 true := ⟨"SpeaksInTurn$Minutes", TX4, rfl, inX4, by decide, rfl, rfl, q368, tyX4_ok, nmX4⟩
theorem fc_X5_15 : FOk "SpeaksInTurn$Shelf" 15 5 4 1 false := ⟨"SpeaksInTurn$Shelf", TX5, rfl, inX5, by decide, rfl, rfl, q465, tyX5_ok, nmX5⟩
theorem fc_X5_18 : FOk "SpeaksInTurn$Shelf" 18 5 4 3 true := ⟨"SpeaksInTurn$Shelf", TX5, rfl, inX5, by decide, rfl, rfl, q469, tyX5_ok, nmX5⟩
theorem fc_X5_9 : FOk "SpeaksInTurn$Shelf" 9 5 4 0 false := ⟨"SpeaksInTurn$Shelf", TX5, rfl, inX5, by decide, rfl, rfl, q463, tyX5_ok, nmX5⟩
theorem fc_X6_15 : FOk "SpeaksInTurn$Table" 15 6 17 1 true := ⟨"SpeaksInTurn$Table", TX6, rfl, inX6, by decide, rfl, rfl, q172, tyX6_ok, nmX6⟩
theorem fc_X6_18 : FOk "SpeaksInTurn$Table" 18 6 17 2 true := ⟨"SpeaksInTurn$Table", TX6, rfl, inX6, by decide, rfl, rfl, q174, tyX6_ok, nmX6⟩
theorem fc_X6_21 : FOk "SpeaksInTurn$Table" 21 6 17 3 true := ⟨"SpeaksInTurn$Table", TX6, rfl, inX6, by decide, rfl, rfl, q176, tyX6_ok, nmX6⟩
theorem fc_X6_24 : FOk "SpeaksInTurn$Table" 24 6 17 4 true := ⟨"SpeaksInTurn$Table", TX6, rfl, inX6, by decide, rfl, rfl, q178, tyX6_ok, nmX6⟩
theorem fc_X6_27 : FOk "SpeaksInTurn$Table" 27 6 17 5 true := ⟨"SpeaksInTurn$Table", TX6, rfl, inX6, by decide, rfl, rfl, q181, tyX6_ok, nmX6⟩
theorem fc_X6_30 : FOk "SpeaksInTurn$Table" 30 6 17 6 true := ⟨"SpeaksInTurn$Table", TX6, rfl, inX6, by decide, rfl, rfl, q184, tyX6_ok, nmX6⟩
theorem fc_X6_33 : FOk "SpeaksInTurn$Table" 33 6 17 7 true := ⟨"SpeaksInTurn$Table", TX6, rfl, inX6, by decide, rfl, rfl, q185, tyX6_ok, nmX6⟩
theorem fc_X6_36 : FOk "SpeaksInTurn$Table" 36 6 17 8 true := ⟨"SpeaksInTurn$Table", TX6, rfl, inX6, by decide, rfl, rfl, q186, tyX6_ok, nmX6⟩
theorem fc_X6_39 : FOk "SpeaksInTurn$Table" 39 6 17 9 true := ⟨"SpeaksInTurn$Table", TX6, rfl, inX6, by decide, rfl, rfl, q187, tyX6_ok, nmX6⟩
theorem fc_X6_42 : FOk "SpeaksInTurn$Table" 42 6 17 10 true := ⟨"SpeaksInTurn$Table", TX6, rfl, inX6, by decide, rfl, rfl, q192, tyX6_ok, nmX6⟩
theorem fc_X6_45 : FOk "SpeaksInTurn$Table" 45 6 17 11 true := ⟨"SpeaksInTurn$Table", TX6, rfl, inX6, by decide, rfl, rfl, q194, tyX6_ok, nmX6⟩
theorem fc_X6_51 : FOk "SpeaksInTurn$Table" 51 6 17 12 true := ⟨"SpeaksInTurn$Table", TX6, rfl, inX6, by decide, rfl, rfl, q196, tyX6_ok, nmX6⟩
theorem fc_X6_9 : FOk "SpeaksInTurn$Table" 9 6 17 0 true := ⟨"SpeaksInTurn$Table", TX6, rfl, inX6, by decide, rfl, rfl, q170, tyX6_ok, nmX6⟩
theorem fc_X7_15 : FOk "SpeaksInTurn$Thought" 15 7 5 3 true := ⟨"SpeaksInTurn$Thought", TX7, rfl, inX7, by decide, rfl, rfl, q415, tyX7_ok, nmX7⟩
theorem fc_X7_18 : FOk "SpeaksInTurn$Thought" 18 7 5 4 true := ⟨"SpeaksInTurn$Thought", TX7, rfl, inX7, by decide, rfl, rfl, q416, tyX7_ok, nmX7⟩
theorem fc_X7_21 : FOk "SpeaksInTurn$Thought" 21 7 5 0 true := ⟨"SpeaksInTurn$Thought", TX7, rfl, inX7, by decide, rfl, rfl, q412, tyX7_ok, nmX7⟩
theorem fc_X7_30 : FOk "SpeaksInTurn$Thought" 30 7 5 1 true := ⟨"SpeaksInTurn$Thought", TX7, rfl, inX7, by decide, rfl, rfl, q413, tyX7_ok, nmX7⟩
theorem fc_X7_9 : FOk "SpeaksInTurn$Thought" 9 7 5 2 true := ⟨"SpeaksInTurn$Thought", TX7, rfl, inX7, by decide, rfl, rfl, q414, tyX7_ok, nmX7⟩
theorem fc_X8_10 : FOk "SpeaksInTurn" 10 8 6 0 true := ⟨"SpeaksInTurn", TX8, rfl, inX8, by decide, rfl, rfl, q483, tyX8_ok, nmX8⟩
theorem fc_X8_19 : FOk "SpeaksInTurn" 19 8 6 1 true := ⟨"SpeaksInTurn", TX8, rfl, inX8, by decide, rfl, rfl, q484, tyX8_ok, nmX8⟩
theorem fc_X8_28 : FOk "SpeaksInTurn" 28 8 6 2 true := ⟨"SpeaksInTurn", TX8, rfl, inX8, by decide, rfl, rfl, q485, tyX8_ok, nmX8⟩
theorem fc_X8_35 : FOk "SpeaksInTurn" 35 8 6 3 true := ⟨"SpeaksInTurn", TX8, rfl, inX8, by decide, rfl, rfl, q486, tyX8_ok, nmX8⟩
theorem fc_X8_42 : FOk "SpeaksInTurn" 42 8 6 4 true := ⟨"SpeaksInTurn", TX8, rfl, inX8, by decide, rfl, rfl, q487, tyX8_ok, nmX8⟩
theorem fc_X8_48 : FOk "SpeaksInTurn" 48 8 6 5 true := ⟨"SpeaksInTurn", TX8, rfl, inX8, by decide, rfl, rfl, q488, tyX8_ok, nmX8⟩
theorem fc_X9_100 : FOk "SpeaksInTurnModel" 100 9 76 55 true := ⟨"SpeaksInTurnModel", TX9, rfl, inX9, by decide, rfl, rfl, q1206, tyX9_ok, nmX9⟩
theorem fc_X9_103 : FOk "SpeaksInTurnModel" 103 9 76 56 true := ⟨"SpeaksInTurnModel", TX9, rfl, inX9, by decide, rfl, rfl, q1207, tyX9_ok, nmX9⟩
theorem fc_X9_106 : FOk "SpeaksInTurnModel" 106 9 76 57 true := ⟨"SpeaksInTurnModel", TX9, rfl, inX9, by decide, rfl, rfl, q1208, tyX9_ok, nmX9⟩
theorem fc_X9_109 : FOk "SpeaksInTurnModel" 109 9 76 58 true := ⟨"SpeaksInTurnModel", TX9, rfl, inX9, by decide, rfl, rfl, q1209, tyX9_ok, nmX9⟩
theorem fc_X9_112 : FOk "SpeaksInTurnModel" 112 9 76 59 true := ⟨"SpeaksInTurnModel", TX9, rfl, inX9, by decide, rfl, rfl, q1210, tyX9_ok, nmX9⟩
theorem fc_X9_115 : FOk "SpeaksInTurnModel" 115 9 76 60 true := ⟨"SpeaksInTurnModel", TX9, rfl, inX9, by decide, rfl, rfl, q1211, tyX9_ok, nmX9⟩
theorem fc_X9_118 : FOk "SpeaksInTurnModel" 118 9 76 61 true := ⟨"SpeaksInTurnModel", TX9, rfl, inX9, by decide, rfl, rfl, q1212, tyX9_ok, nmX9⟩
theorem fc_X9_121 : FOk "SpeaksInTurnModel" 121 9 76 62 true := ⟨"SpeaksInTurnModel", TX9, rfl, inX9, by decide, rfl, rfl, q1213, tyX9_ok, nmX9⟩
theorem fc_X9_124 : FOk "SpeaksInTurnModel" 124 9 76 67 true := ⟨"SpeaksInTurnModel", TX9, rfl, inX9, by decide, rfl, rfl, q1218, tyX9_ok, nmX9⟩
theorem fc_X9_127 : FOk "SpeaksInTurnModel" 127 9 76 68 true := ⟨"SpeaksInTurnModel", TX9, rfl, inX9, by decide, rfl, rfl, q1219, tyX9_ok, nmX9⟩
theorem fc_X9_13 : FOk "SpeaksInTurnModel" 13 9 76 1 true := ⟨"SpeaksInTurnModel", TX9, rfl, inX9, by decide, rfl, rfl, q1152, tyX9_ok, nmX9⟩
theorem fc_X9_130 : FOk "SpeaksInTurnModel" 130 9 76 72 true := ⟨"SpeaksInTurnModel", TX9, rfl, inX9, by decide, rfl, rfl, q1223, tyX9_ok, nmX9⟩
theorem fc_X9_133 : FOk "SpeaksInTurnModel" 133 9 76 73 true := ⟨"SpeaksInTurnModel", TX9, rfl, inX9, by decide, rfl, rfl, q1224, tyX9_ok, nmX9⟩
theorem fc_X9_136 : FOk "SpeaksInTurnModel" 136 9 76 74 true := ⟨"SpeaksInTurnModel", TX9, rfl, inX9, by decide, rfl, rfl, q1225, tyX9_ok, nmX9⟩
theorem fc_X9_140 : FOk "SpeaksInTurnModel" 140 9 76 75 true := ⟨"SpeaksInTurnModel", TX9, rfl, inX9, by decide, rfl, rfl, q1226, tyX9_ok, nmX9⟩
theorem fc_X9_143 : FOk "SpeaksInTurnModel" 143 9 76 19 false := ⟨"SpeaksInTurnModel", TX9, rfl, inX9, by decide, rfl, rfl, q1170, tyX9_ok, nmX9⟩
theorem fc_X9_147 : FOk "SpeaksInTurnModel" 147 9 76 15 false := ⟨"SpeaksInTurnModel", TX9, rfl, inX9, by decide, rfl, rfl, q1166, tyX9_ok, nmX9⟩
theorem fc_X9_150 : FOk "SpeaksInTurnModel" 150 9 76 46 false := ⟨"SpeaksInTurnModel", TX9, rfl, inX9, by decide, rfl, rfl, q1197, tyX9_ok, nmX9⟩
theorem fc_X9_16 : FOk "SpeaksInTurnModel" 16 9 76 2 true := ⟨"SpeaksInTurnModel", TX9, rfl, inX9, by decide, rfl, rfl, q1153, tyX9_ok, nmX9⟩
theorem fc_X9_19 : FOk "SpeaksInTurnModel" 19 9 76 3 true := ⟨"SpeaksInTurnModel", TX9, rfl, inX9, by decide, rfl, rfl, q1154, tyX9_ok, nmX9⟩
theorem fc_X9_22 : FOk "SpeaksInTurnModel" 22 9 76 7 true := ⟨"SpeaksInTurnModel", TX9, rfl, inX9, by decide, rfl, rfl, q1158, tyX9_ok, nmX9⟩
theorem fc_X9_25 : FOk "SpeaksInTurnModel" 25 9 76 10 true := ⟨"SpeaksInTurnModel", TX9, rfl, inX9, by decide, rfl, rfl, q1161, tyX9_ok, nmX9⟩
theorem fc_X9_28 : FOk "SpeaksInTurnModel" 28 9 76 11 true := ⟨"SpeaksInTurnModel", TX9, rfl, inX9, by decide, rfl, rfl, q1162, tyX9_ok, nmX9⟩
theorem fc_X9_31 : FOk "SpeaksInTurnModel" 31 9 76 12 true := ⟨"SpeaksInTurnModel", TX9, rfl, inX9, by decide, rfl, rfl, q1163, tyX9_ok, nmX9⟩
theorem fc_X9_34 : FOk "SpeaksInTurnModel" 34 9 76 16 true := ⟨"SpeaksInTurnModel", TX9, rfl, inX9, by decide, rfl, rfl, q1167, tyX9_ok, nmX9⟩
theorem fc_X9_37 : FOk "SpeaksInTurnModel" 37 9 76 18 true := ⟨"SpeaksInTurnModel", TX9, rfl, inX9, by decide, rfl, rfl, q1169, tyX9_ok, nmX9⟩
theorem fc_X9_40 : FOk "SpeaksInTurnModel" 40 9 76 25 true := ⟨"SpeaksInTurnModel", TX9, rfl, inX9, by decide, rfl, rfl, q1176, tyX9_ok, nmX9⟩
theorem fc_X9_43 : FOk "SpeaksInTurnModel" 43 9 76 32 true := ⟨"SpeaksInTurnModel", TX9, rfl, inX9, by decide, rfl, rfl, q1183, tyX9_ok, nmX9⟩
theorem fc_X9_46 : FOk "SpeaksInTurnModel" 46 9 76 33 true := ⟨"SpeaksInTurnModel", TX9, rfl, inX9, by decide, rfl, rfl, q1184, tyX9_ok, nmX9⟩
theorem fc_X9_49 : FOk "SpeaksInTurnModel" 49 9 76 34 true := ⟨"SpeaksInTurnModel", TX9, rfl, inX9, by decide, rfl, rfl, q1185, tyX9_ok, nmX9⟩
theorem fc_X9_52 : FOk "SpeaksInTurnModel" 52 9 76 35 true := ⟨"SpeaksInTurnModel", TX9, rfl, inX9, by decide, rfl, rfl, q1186, tyX9_ok, nmX9⟩
theorem fc_X9_55 : FOk "SpeaksInTurnModel" 55 9 76 36 true := ⟨"SpeaksInTurnModel", TX9, rfl, inX9, by decide, rfl, rfl, q1187, tyX9_ok, nmX9⟩
theorem fc_X9_58 : FOk "SpeaksInTurnModel" 58 9 76 37 true := ⟨"SpeaksInTurnModel", TX9, rfl, inX9, by decide, rfl, rfl, q1188, tyX9_ok, nmX9⟩
theorem fc_X9_61 : FOk "SpeaksInTurnModel" 61 9 76 38 true := ⟨"SpeaksInTurnModel", TX9, rfl, inX9, by decide, rfl, rfl, q1189, tyX9_ok, nmX9⟩
theorem fc_X9_64 : FOk "SpeaksInTurnModel" 64 9 76 39 true := ⟨"SpeaksInTurnModel", TX9, rfl, inX9, by decide, rfl, rfl, q1190, tyX9_ok, nmX9⟩
theorem fc_X9_67 : FOk "SpeaksInTurnModel" 67 9 76 40 true := ⟨"SpeaksInTurnModel", TX9, rfl, inX9, by decide, rfl, rfl, q1191, tyX9_ok, nmX9⟩
theorem fc_X9_70 : FOk "SpeaksInTurnModel" 70 9 76 41 true := ⟨"SpeaksInTurnModel", TX9, rfl, inX9, by decide, rfl, rfl, q1192, tyX9_ok, nmX9⟩
theorem fc_X9_73 : FOk "SpeaksInTurnModel" 73 9 76 42 true := ⟨"SpeaksInTurnModel", TX9, rfl, inX9, by decide, rfl, rfl, q1193, tyX9_ok, nmX9⟩
theorem fc_X9_76 : FOk "SpeaksInTurnModel" 76 9 76 43 true := ⟨"SpeaksInTurnModel", TX9, rfl, inX9, by decide, rfl, rfl, q1194, tyX9_ok, nmX9⟩
theorem fc_X9_79 : FOk "SpeaksInTurnModel" 79 9 76 44 true := ⟨"SpeaksInTurnModel", TX9, rfl, inX9, by decide, rfl, rfl, q1195, tyX9_ok, nmX9⟩
theorem fc_X9_82 : FOk "SpeaksInTurnModel" 82 9 76 45 true := ⟨"SpeaksInTurnModel", TX9, rfl, inX9, by decide, rfl, rfl, q1196, tyX9_ok, nmX9⟩
theorem fc_X9_85 : FOk "SpeaksInTurnModel" 85 9 76 50 true := ⟨"SpeaksInTurnModel", TX9, rfl, inX9, by decide, rfl, rfl, q1201, tyX9_ok, nmX9⟩
theorem fc_X9_88 : FOk "SpeaksInTurnModel" 88 9 76 51 true := ⟨"SpeaksInTurnModel", TX9, rfl, inX9, by decide, rfl, rfl, q1202, tyX9_ok, nmX9⟩
theorem fc_X9_9 : FOk "SpeaksInTurnModel" 9 9 76 0 true := ⟨"SpeaksInTurnModel", TX9, rfl, inX9, by decide, rfl, rfl, q1151, tyX9_ok, nmX9⟩
theorem fc_X9_91 : FOk "SpeaksInTurnModel" 91 9 76 52 true := ⟨"SpeaksInTurnModel", TX9, rfl, inX9, by decide, rfl, rfl, q1203, tyX9_ok, nmX9⟩
theorem fc_X9_94 : FOk "SpeaksInTurnModel" 94 9 76 53 true := ⟨"SpeaksInTurnModel", TX9, rfl, inX9, by decide, rfl, rfl, q1204, tyX9_ok, nmX9⟩
theorem fc_X9_97 : FOk "SpeaksInTurnModel" 97 9 76 54 true := ⟨"SpeaksInTurnModel", TX9, rfl, inX9, by decide, rfl, rfl, q1205, tyX9_ok, nmX9⟩
theorem c_3 {g : Gx} : Mx g 1 mi_X2_init [.ref 14] (shF.take 15) (uP 3) wZ (rP 12) (qC 19 3 16) := by
  refine mx_of pn_X2 (Nat.le_of_ble_eq_true rfl) (?_ : Wp g 1 mi_X2_init 0 [some (.ref 14)] [] 0 0 (shF.take 15) (uP 3) wZ (rP 12) (zM g mi_X2_init (qC 19 3 16)))
  refine wp_aload_n (pc' := 1) dX2_init_0 rfl rfl ?_
  refine wp_objInit (pc' := 4) dX2_init_1 q139 q126 q127 (by decide) (Nat.le_of_ble_eq_true rfl) rfl ?_
  refine wp_aload_n (pc' := 5) dX2_init_4 rfl rfl ?_
  refine wp_bipush (pc' := 7) (120 : Int32) dX2_init_5 (by decide +kernel) rfl ?_
  refine wc_newI (pc' := 9) (a := 15) dX2_init_7 ⟨by decide +kernel, by decide +kernel⟩ (by decide) q169 s_15 (fresh_u (by decide +kernel)) (by decide) (by decide) rfl rfl rfl ?_
  refine wc_putFR (pc' := 12) (a := 14) (k := 0) (b := 15) dX2_init_9 s_14 (by decide) fc_X2_9 (fun q hq => by cases hq; rfl) rfl rfl (fun q => ⟨rfl, rfl⟩) rfl rfl ?_
  refine wp_aload_n (pc' := 13) dX2_init_12 rfl rfl ?_
  refine wp_sipush (pc' := 16) (128 : Int32) dX2_init_13 (by decide +kernel) rfl ?_
  refine wc_newI (pc' := 18) (a := 16) dX2_init_16 ⟨by decide +kernel, by decide +kernel⟩ (by decide) q169 s_16 (fresh_u (by decide +kernel)) (by decide) (by decide) rfl rfl rfl ?_
  refine wc_putFR (pc' := 21) (a := 14) (k := 1) (b := 16) dX2_init_18 s_14 (by decide) fc_X2_13 (fun q hq => by cases hq; rfl) rfl rfl (fun q => ⟨rfl, rfl⟩) rfl rfl ?_
  refine wp_aload_n (pc' := 22) dX2_init_21 rfl rfl ?_
  refine wp_sipush (pc' := 25) (128 : Int32) dX2_init_22 (by decide +kernel) rfl ?_
  refine wc_newI (pc' := 27) (a := 17) dX2_init_25 ⟨by decide +kernel, by decide +kernel⟩ (by decide) q169 s_17 (fresh_u (by decide +kernel)) (by decide) (by decide) rfl rfl rfl ?_
  refine wc_putR (pc' := 30) (a := 14) (k := 3) (b := 17) dX2_init_27 s_14 (by decide) fc_X2_16 rfl (fun q => ⟨rfl, rfl⟩) rfl rfl ?_
  refine wp_aload_n (pc' := 31) dX2_init_30 rfl rfl ?_
  refine wp_sipush (pc' := 34) (128 : Int32) dX2_init_31 (by decide +kernel) rfl ?_
  refine wc_newI (pc' := 36) (a := 18) dX2_init_34 ⟨by decide +kernel, by decide +kernel⟩ (by decide) q169 s_18 (fresh_u (by decide +kernel)) (by decide) (by decide) rfl rfl rfl ?_
  refine wc_putR (pc' := 39) (a := 14) (k := 4) (b := 18) dX2_init_36 s_14 (by decide) fc_X2_19 rfl (fun q => ⟨rfl, rfl⟩) rfl rfl ?_
  exact wp_vret dX2_init_39 rfl (by decide) (by decide) ⟨rfl, rfl, rfl, rfl, rfl⟩
theorem c_2 {g : Gx} : Mx g 2 mi_X6_init [.ref 1] (shF.take 2) (uP 0) wZ (rP 0) (qC 19 3 17) := by
  refine mx_of pn_X6 (Nat.le_of_ble_eq_true rfl) (?_ : Wp g 2 mi_X6_init 0 [some (.ref 1)] [] 0 0 (shF.take 2) (uP 0) wZ (rP 0) (zM g mi_X6_init (qC 19 3 17)))
  refine wp_aload_n (pc' := 1) dX6_init_0 rfl rfl ?_
  refine wp_objInit (pc' := 4) dX6_init_1 q133 q126 q127 (by decide) (Nat.le_of_ble_eq_true rfl) rfl ?_
  refine wp_aload_n (pc' := 5) dX6_init_4 rfl rfl ?_
  refine wp_bipush (pc' := 7) (10 : Int32) dX6_init_5 (by decide +kernel) rfl ?_
  refine wc_newI (pc' := 9) (a := 2) dX6_init_7 ⟨by decide +kernel, by decide +kernel⟩ (by decide) q169 s_2 (fresh_u (by decide +kernel)) (by decide) (by decide) rfl rfl rfl ?_
  refine wc_putFR (pc' := 12) (a := 1) (k := 0) (b := 2) dX6_init_9 s_1 (by decide) fc_X6_9 (fun q hq => by cases hq; rfl) rfl rfl (fun q => ⟨rfl, rfl⟩) rfl rfl ?_
  refine wp_aload_n (pc' := 13) dX6_init_12 rfl rfl ?_
  refine wp_bipush (pc' := 15) (10 : Int32) dX6_init_13 (by decide +kernel) rfl ?_
  refine wc_newI (pc' := 17) (a := 3) dX6_init_15 ⟨by decide +kernel, by decide +kernel⟩ (by decide) q169 s_3 (fresh_u (by decide +kernel)) (by decide) (by decide) rfl rfl rfl ?_
  refine wc_putFR (pc' := 20) (a := 1) (k := 1) (b := 3) dX6_init_17 s_1 (by decide) fc_X6_15 (fun q hq => by cases hq; rfl) rfl rfl (fun q => ⟨rfl, rfl⟩) rfl rfl ?_
  refine wp_aload_n (pc' := 21) dX6_init_20 rfl rfl ?_
  refine wp_bipush (pc' := 23) (10 : Int32) dX6_init_21 (by decide +kernel) rfl ?_
  refine wc_newI (pc' := 25) (a := 4) dX6_init_23 ⟨by decide +kernel, by decide +kernel⟩ (by decide) q169 s_4 (fresh_u (by decide +kernel)) (by decide) (by decide) rfl rfl rfl ?_
  refine wc_putFR (pc' := 28) (a := 1) (k := 2) (b := 4) dX6_init_25 s_1 (by decide) fc_X6_18 (fun q hq => by cases hq; rfl) rfl rfl (fun q => ⟨rfl, rfl⟩) rfl rfl ?_
  refine wp_aload_n (pc' := 29) dX6_init_28 rfl rfl ?_
  refine wp_bipush (pc' := 31) (10 : Int32) dX6_init_29 (by decide +kernel) rfl ?_
  refine wc_newI (pc' := 33) (a := 5) dX6_init_31 ⟨by decide +kernel, by decide +kernel⟩ (by decide) q169 s_5 (fresh_u (by decide +kernel)) (by decide) (by decide) rfl rfl rfl ?_
  refine wc_putFR (pc' := 36) (a := 1) (k := 3) (b := 5) dX6_init_33 s_1 (by decide) fc_X6_21 (fun q hq => by cases hq; rfl) rfl rfl (fun q => ⟨rfl, rfl⟩) rfl rfl ?_
  refine wp_aload_n (pc' := 37) dX6_init_36 rfl rfl ?_
  refine wp_bipush (pc' := 39) (6 : Int32) dX6_init_37 (by decide +kernel) rfl ?_
  refine wc_newI (pc' := 41) (a := 6) dX6_init_39 ⟨by decide +kernel, by decide +kernel⟩ (by decide) q169 s_6 (fresh_u (by decide +kernel)) (by decide) (by decide) rfl rfl rfl ?_
  refine wc_putFR (pc' := 44) (a := 1) (k := 4) (b := 6) dX6_init_41 s_1 (by decide) fc_X6_24 (fun q hq => by cases hq; rfl) rfl rfl (fun q => ⟨rfl, rfl⟩) rfl rfl ?_
  refine wp_aload_n (pc' := 45) dX6_init_44 rfl rfl ?_
  refine wp_bipush (pc' := 47) (6 : Int32) dX6_init_45 (by decide +kernel) rfl ?_
  refine wc_newI (pc' := 49) (a := 7) dX6_init_47 ⟨by decide +kernel, by decide +kernel⟩ (by decide) q169 s_7 (fresh_u (by decide +kernel)) (by decide) (by decide) rfl rfl rfl ?_
  refine wc_putFR (pc' := 52) (a := 1) (k := 5) (b := 7) dX6_init_49 s_1 (by decide) fc_X6_27 (fun q hq => by cases hq; rfl) rfl rfl (fun q => ⟨rfl, rfl⟩) rfl rfl ?_
  refine wp_aload_n (pc' := 53) dX6_init_52 rfl rfl ?_
  refine wp_bipush (pc' := 55) (20 : Int32) dX6_init_53 (by decide +kernel) rfl ?_
  refine wc_newI (pc' := 57) (a := 8) dX6_init_55 ⟨by decide +kernel, by decide +kernel⟩ (by decide) q169 s_8 (fresh_u (by decide +kernel)) (by decide) (by decide) rfl rfl rfl ?_
  refine wc_putFR (pc' := 60) (a := 1) (k := 6) (b := 8) dX6_init_57 s_1 (by decide) fc_X6_30 (fun q hq => by cases hq; rfl) rfl rfl (fun q => ⟨rfl, rfl⟩) rfl rfl ?_
  refine wp_aload_n (pc' := 61) dX6_init_60 rfl rfl ?_
  refine wp_bipush (pc' := 63) (20 : Int32) dX6_init_61 (by decide +kernel) rfl ?_
  refine wc_newI (pc' := 65) (a := 9) dX6_init_63 ⟨by decide +kernel, by decide +kernel⟩ (by decide) q169 s_9 (fresh_u (by decide +kernel)) (by decide) (by decide) rfl rfl rfl ?_
  refine wc_putFR (pc' := 68) (a := 1) (k := 7) (b := 9) dX6_init_65 s_1 (by decide) fc_X6_33 (fun q hq => by cases hq; rfl) rfl rfl (fun q => ⟨rfl, rfl⟩) rfl rfl ?_
  refine wp_aload_n (pc' := 69) dX6_init_68 rfl rfl ?_
  refine wp_bipush (pc' := 71) (20 : Int32) dX6_init_69 (by decide +kernel) rfl ?_
  refine wc_newI (pc' := 73) (a := 10) dX6_init_71 ⟨by decide +kernel, by decide +kernel⟩ (by decide) q169 s_10 (fresh_u (by decide +kernel)) (by decide) (by decide) rfl rfl rfl ?_
  refine wc_putFR (pc' := 76) (a := 1) (k := 8) (b := 10) dX6_init_73 s_1 (by decide) fc_X6_36 (fun q hq => by cases hq; rfl) rfl rfl (fun q => ⟨rfl, rfl⟩) rfl rfl ?_
  refine wp_aload_n (pc' := 77) dX6_init_76 rfl rfl ?_
  refine wp_iconst (pc' := 78) (3 : Int32) dX6_init_77 (by decide +kernel) rfl ?_
  refine wc_newI (pc' := 80) (a := 11) dX6_init_78 ⟨by decide +kernel, by decide +kernel⟩ (by decide) q169 s_11 (fresh_u (by decide +kernel)) (by decide) (by decide) rfl rfl rfl ?_
  refine wp_dup (pc' := 81) dX6_init_80 rfl rfl ?_
  refine wp_iconst (pc' := 82) (0 : Int32) dX6_init_81 (by decide +kernel) rfl ?_
  refine wp_iconst (pc' := 83) (0 : Int32) dX6_init_82 (by decide +kernel) rfl ?_
  refine wc_iast (pc' := 84) (a := 11) (i := (0 : Int32)) (x := (0 : Int32)) dX6_init_83 s_11 (by decide) (by decide +kernel) rfl rfl ?_
  refine wp_dup (pc' := 85) dX6_init_84 rfl rfl ?_
  refine wp_iconst (pc' := 86) (1 : Int32) dX6_init_85 (by decide +kernel) rfl ?_
  refine wp_iconst (pc' := 87) (0 : Int32) dX6_init_86 (by decide +kernel) rfl ?_
  refine wc_iast (pc' := 88) (a := 11) (i := (1 : Int32)) (x := (0 : Int32)) dX6_init_87 s_11 (by decide) (by decide +kernel) rfl rfl ?_
  refine wp_dup (pc' := 89) dX6_init_88 rfl rfl ?_
  refine wp_iconst (pc' := 90) (2 : Int32) dX6_init_89 (by decide +kernel) rfl ?_
  refine wp_iconst (pc' := 91) (3 : Int32) dX6_init_90 (by decide +kernel) rfl ?_
  refine wc_iast (pc' := 92) (a := 11) (i := (2 : Int32)) (x := (3 : Int32)) dX6_init_91 s_11 (by decide) (by decide +kernel) rfl rfl ?_
  refine wc_putFR (pc' := 95) (a := 1) (k := 9) (b := 11) dX6_init_92 s_1 (by decide) fc_X6_39 (fun q hq => by cases hq; rfl) rfl rfl (fun q => ⟨rfl, rfl⟩) rfl rfl ?_
  refine wp_aload_n (pc' := 96) dX6_init_95 rfl rfl ?_
  refine wp_bipush (pc' := 98) (10 : Int32) dX6_init_96 (by decide +kernel) rfl ?_
  refine wc_newI (pc' := 100) (a := 12) dX6_init_98 ⟨by decide +kernel, by decide +kernel⟩ (by decide) q169 s_12 (fresh_u (by decide +kernel)) (by decide) (by decide) rfl rfl rfl ?_
  refine wc_putFR (pc' := 103) (a := 1) (k := 10) (b := 12) dX6_init_100 s_1 (by decide) fc_X6_42 (fun q hq => by cases hq; rfl) rfl rfl (fun q => ⟨rfl, rfl⟩) rfl rfl ?_
  refine wp_aload_n (pc' := 104) dX6_init_103 rfl rfl ?_
  refine wp_bipush (pc' := 106) (6 : Int32) dX6_init_104 (by decide +kernel) rfl ?_
  refine wc_newI (pc' := 108) (a := 13) dX6_init_106 ⟨by decide +kernel, by decide +kernel⟩ (by decide) q169 s_13 (fresh_u (by decide +kernel)) (by decide) (by decide) rfl rfl rfl ?_
  refine wc_putFR (pc' := 111) (a := 1) (k := 11) (b := 13) dX6_init_108 s_1 (by decide) fc_X6_45 (fun q hq => by cases hq; rfl) rfl rfl (fun q => ⟨rfl, rfl⟩) rfl rfl ?_
  refine wp_aload_n (pc' := 112) dX6_init_111 rfl rfl ?_
  refine wc_newO (pc' := 115) (a := 14) (c0 := 2) (T := TX2) dX6_init_112 q134 q135 q103 inX2 tyX2_ok rfl dfX2 s_14 (fresh_u (by decide +kernel)) (fresh_r (by decide +kernel)) (by decide) (by decide) rfl rfl rfl ?_
  refine wp_dup (pc' := 116) dX6_init_115 rfl rfl ?_
  refine wc_callIN (pc' := 119) (As := []) (rest := [.ref 14, .ref 1]) (kc2 := 17) (ks2 := 644) dX6_init_116 oi_X6_50 (c_3) (by decide) rfl (Nat.le_of_ble_eq_true rfl) (by decide) (by decide) rfl rfl rfl ?_
  refine wc_putFR (pc' := 122) (a := 1) (k := 12) (b := 14) dX6_init_119 s_1 (by decide) fc_X6_51 (fun q hq => by cases hq; rfl) rfl rfl (fun q => ⟨rfl, rfl⟩) rfl rfl ?_
  exact wp_vret dX6_init_122 rfl (by decide) (by decide) ⟨rfl, rfl, rfl, rfl, rfl⟩
theorem c_4 {g : Gx} : Mx g 1 mi_X1_init [.ref 19] (shF.take 20) (uP 3) wZ (rP 18) (qC 24 3 22) := by
  refine mx_of pn_X1 (Nat.le_of_ble_eq_true rfl) (?_ : Wp g 1 mi_X1_init 0 [some (.ref 19)] [] 0 0 (shF.take 20) (uP 3) wZ (rP 18) (zM g mi_X1_init (qC 24 3 22)))
  refine wp_aload_n (pc' := 1) dX1_init_0 rfl rfl ?_
  refine wp_objInit (pc' := 4) dX1_init_1 q256 q126 q127 (by decide) (Nat.le_of_ble_eq_true rfl) rfl ?_
  refine wp_aload_n (pc' := 5) dX1_init_4 rfl rfl ?_
  refine wp_bipush (pc' := 7) (40 : Int32) dX1_init_5 (by decide +kernel) rfl ?_
  refine wc_newI (pc' := 9) (a := 20) dX1_init_7 ⟨by decide +kernel, by decide +kernel⟩ (by decide) q169 s_20 (fresh_u (by decide +kernel)) (by decide) (by decide) rfl rfl rfl ?_
  refine wc_putFR (pc' := 12) (a := 19) (k := 0) (b := 20) dX1_init_9 s_19 (by decide) fc_X1_9 (fun q hq => by cases hq; rfl) rfl rfl (fun q => ⟨rfl, rfl⟩) rfl rfl ?_
  refine wp_aload_n (pc' := 13) dX1_init_12 rfl rfl ?_
  refine wp_bipush (pc' := 15) (40 : Int32) dX1_init_13 (by decide +kernel) rfl ?_
  refine wc_newI (pc' := 17) (a := 21) dX1_init_15 ⟨by decide +kernel, by decide +kernel⟩ (by decide) q169 s_21 (fresh_u (by decide +kernel)) (by decide) (by decide) rfl rfl rfl ?_
  refine wc_putFR (pc' := 20) (a := 19) (k := 1) (b := 21) dX1_init_17 s_19 (by decide) fc_X1_13 (fun q hq => by cases hq; rfl) rfl rfl (fun q => ⟨rfl, rfl⟩) rfl rfl ?_
  refine wp_aload_n (pc' := 21) dX1_init_20 rfl rfl ?_
  refine wp_bipush (pc' := 23) (40 : Int32) dX1_init_21 (by decide +kernel) rfl ?_
  refine wc_newI (pc' := 25) (a := 22) dX1_init_23 ⟨by decide +kernel, by decide +kernel⟩ (by decide) q169 s_22 (fresh_u (by decide +kernel)) (by decide) (by decide) rfl rfl rfl ?_
  refine wc_putFR (pc' := 28) (a := 19) (k := 2) (b := 22) dX1_init_25 s_19 (by decide) fc_X1_16 (fun q hq => by cases hq; rfl) rfl rfl (fun q => ⟨rfl, rfl⟩) rfl rfl ?_
  refine wp_aload_n (pc' := 29) dX1_init_28 rfl rfl ?_
  refine wp_bipush (pc' := 31) (40 : Int32) dX1_init_29 (by decide +kernel) rfl ?_
  refine wc_newI (pc' := 33) (a := 23) dX1_init_31 ⟨by decide +kernel, by decide +kernel⟩ (by decide) q169 s_23 (fresh_u (by decide +kernel)) (by decide) (by decide) rfl rfl rfl ?_
  refine wc_putFR (pc' := 36) (a := 19) (k := 3) (b := 23) dX1_init_33 s_19 (by decide) fc_X1_19 (fun q hq => by cases hq; rfl) rfl rfl (fun q => ⟨rfl, rfl⟩) rfl rfl ?_
  exact wp_vret dX1_init_36 rfl (by decide) (by decide) ⟨rfl, rfl, rfl, rfl, rfl⟩
theorem c_6 {g : Gx} : Mx g 1 mi_X3_init [.ref 29, .ref 1] (shF.take 30) (uP 3) wZ (rP 28) (qC 41 3 40) := by
  refine mx_of pn_X3 (Nat.le_of_ble_eq_true rfl) (?_ : Wp g 1 mi_X3_init 0 [some (.ref 29), some (.ref 1)] [] 0 0 (shF.take 30) (uP 3) wZ (rP 28) (zM g mi_X3_init (qC 41 3 40)))
  refine wp_aload_n (pc' := 1) dX3_init_0 rfl rfl ?_
  refine wp_objInit (pc' := 4) dX3_init_1 q293 q126 q127 (by decide) (Nat.le_of_ble_eq_true rfl) rfl ?_
  refine wp_aload_n (pc' := 5) dX3_init_4 rfl rfl ?_
  refine wp_sipush (pc' := 8) (1400 : Int32) dX3_init_5 (by decide +kernel) rfl ?_
  refine wc_newI (pc' := 10) (a := 30) dX3_init_8 ⟨by decide +kernel, by decide +kernel⟩ (by decide) q169 s_30 (fresh_u (by decide +kernel)) (by decide) (by decide) rfl rfl rfl ?_
  refine wc_putFR (pc' := 13) (a := 29) (k := 0) (b := 30) dX3_init_10 s_29 (by decide) fc_X3_9 (fun q hq => by cases hq; rfl) rfl rfl (fun q => ⟨rfl, rfl⟩) rfl rfl ?_
  refine wp_aload_n (pc' := 14) dX3_init_13 rfl rfl ?_
  refine wp_bipush (pc' := 16) (6 : Int32) dX3_init_14 (by decide +kernel) rfl ?_
  refine wc_newI (pc' := 18) (a := 31) dX3_init_16 ⟨by decide +kernel, by decide +kernel⟩ (by decide) q169 s_31 (fresh_u (by decide +kernel)) (by decide) (by decide) rfl rfl rfl ?_
  refine wc_putFR (pc' := 21) (a := 29) (k := 1) (b := 31) dX3_init_18 s_29 (by decide) fc_X3_15 (fun q hq => by cases hq; rfl) rfl rfl (fun q => ⟨rfl, rfl⟩) rfl rfl ?_
  refine wp_aload_n (pc' := 22) dX3_init_21 rfl rfl ?_
  refine wp_bipush (pc' := 24) (20 : Int32) dX3_init_22 (by decide +kernel) rfl ?_
  refine wc_newI (pc' := 26) (a := 32) dX3_init_24 ⟨by decide +kernel, by decide +kernel⟩ (by decide) q169 s_32 (fresh_u (by decide +kernel)) (by decide) (by decide) rfl rfl rfl ?_
  refine wc_putFR (pc' := 29) (a := 29) (k := 2) (b := 32) dX3_init_26 s_29 (by decide) fc_X3_18 (fun q hq => by cases hq; rfl) rfl rfl (fun q => ⟨rfl, rfl⟩) rfl rfl ?_
  refine wp_aload_n (pc' := 30) dX3_init_29 rfl rfl ?_
  refine wp_bipush (pc' := 32) (20 : Int32) dX3_init_30 (by decide +kernel) rfl ?_
  refine wc_newI (pc' := 34) (a := 33) dX3_init_32 ⟨by decide +kernel, by decide +kernel⟩ (by decide) q169 s_33 (fresh_u (by decide +kernel)) (by decide) (by decide) rfl rfl rfl ?_
  refine wc_putFR (pc' := 37) (a := 29) (k := 3) (b := 33) dX3_init_34 s_29 (by decide) fc_X3_21 (fun q hq => by cases hq; rfl) rfl rfl (fun q => ⟨rfl, rfl⟩) rfl rfl ?_
  refine wp_aload_n (pc' := 38) dX3_init_37 rfl rfl ?_
  refine wp_bipush (pc' := 40) (10 : Int32) dX3_init_38 (by decide +kernel) rfl ?_
  refine wc_newI (pc' := 42) (a := 34) dX3_init_40 ⟨by decide +kernel, by decide +kernel⟩ (by decide) q169 s_34 (fresh_u (by decide +kernel)) (by decide) (by decide) rfl rfl rfl ?_
  refine wc_putFR (pc' := 45) (a := 29) (k := 4) (b := 34) dX3_init_42 s_29 (by decide) fc_X3_24 (fun q hq => by cases hq; rfl) rfl rfl (fun q => ⟨rfl, rfl⟩) rfl rfl ?_
  refine wp_aload_n (pc' := 46) dX3_init_45 rfl rfl ?_
  refine wp_bipush (pc' := 48) (10 : Int32) dX3_init_46 (by decide +kernel) rfl ?_
  refine wc_newI (pc' := 50) (a := 35) dX3_init_48 ⟨by decide +kernel, by decide +kernel⟩ (by decide) q169 s_35 (fresh_u (by decide +kernel)) (by decide) (by decide) rfl rfl rfl ?_
  refine wc_putFR (pc' := 53) (a := 29) (k := 5) (b := 35) dX3_init_50 s_29 (by decide) fc_X3_27 (fun q hq => by cases hq; rfl) rfl rfl (fun q => ⟨rfl, rfl⟩) rfl rfl ?_
  refine wp_aload_n (pc' := 54) dX3_init_53 rfl rfl ?_
  refine wp_bipush (pc' := 56) (10 : Int32) dX3_init_54 (by decide +kernel) rfl ?_
  refine wc_newI (pc' := 58) (a := 36) dX3_init_56 ⟨by decide +kernel, by decide +kernel⟩ (by decide) q169 s_36 (fresh_u (by decide +kernel)) (by decide) (by decide) rfl rfl rfl ?_
  refine wc_putFR (pc' := 61) (a := 29) (k := 6) (b := 36) dX3_init_58 s_29 (by decide) fc_X3_30 (fun q hq => by cases hq; rfl) rfl rfl (fun q => ⟨rfl, rfl⟩) rfl rfl ?_
  refine wp_aload_n (pc' := 62) dX3_init_61 rfl rfl ?_
  refine wp_bipush (pc' := 64) (8 : Int32) dX3_init_62 (by decide +kernel) rfl ?_
  refine wc_newI (pc' := 66) (a := 37) dX3_init_64 ⟨by decide +kernel, by decide +kernel⟩ (by decide) q169 s_37 (fresh_u (by decide +kernel)) (by decide) (by decide) rfl rfl rfl ?_
  refine wc_putFR (pc' := 69) (a := 29) (k := 11) (b := 37) dX3_init_66 s_29 (by decide) fc_X3_35 (fun q hq => by cases hq; rfl) rfl rfl (fun q => ⟨rfl, rfl⟩) rfl rfl ?_
  refine wp_aload_n (pc' := 70) dX3_init_69 rfl rfl ?_
  refine wp_bipush (pc' := 72) (10 : Int32) dX3_init_70 (by decide +kernel) rfl ?_
  refine wc_newI (pc' := 74) (a := 38) dX3_init_72 ⟨by decide +kernel, by decide +kernel⟩ (by decide) q169 s_38 (fresh_u (by decide +kernel)) (by decide) (by decide) rfl rfl rfl ?_
  refine wc_putFR (pc' := 77) (a := 29) (k := 12) (b := 38) dX3_init_74 s_29 (by decide) fc_X3_38 (fun q hq => by cases hq; rfl) rfl rfl (fun q => ⟨rfl, rfl⟩) rfl rfl ?_
  refine wp_aload_n (pc' := 78) dX3_init_77 rfl rfl ?_
  refine wp_bipush (pc' := 80) (10 : Int32) dX3_init_78 (by decide +kernel) rfl ?_
  refine wc_newI (pc' := 82) (a := 39) dX3_init_80 ⟨by decide +kernel, by decide +kernel⟩ (by decide) q169 s_39 (fresh_u (by decide +kernel)) (by decide) (by decide) rfl rfl rfl ?_
  refine wc_putFR (pc' := 85) (a := 29) (k := 13) (b := 39) dX3_init_82 s_29 (by decide) fc_X3_41 (fun q hq => by cases hq; rfl) rfl rfl (fun q => ⟨rfl, rfl⟩) rfl rfl ?_
  refine wp_aload_n (pc' := 86) dX3_init_85 rfl rfl ?_
  refine wp_bipush (pc' := 88) (10 : Int32) dX3_init_86 (by decide +kernel) rfl ?_
  refine wc_newI (pc' := 90) (a := 40) dX3_init_88 ⟨by decide +kernel, by decide +kernel⟩ (by decide) q169 s_40 (fresh_u (by decide +kernel)) (by decide) (by decide) rfl rfl rfl ?_
  refine wc_putFR (pc' := 93) (a := 29) (k := 14) (b := 40) dX3_init_90 s_29 (by decide) fc_X3_44 (fun q hq => by cases hq; rfl) rfl rfl (fun q => ⟨rfl, rfl⟩) rfl rfl ?_
  refine wp_aload_n (pc' := 94) dX3_init_93 rfl rfl ?_
  refine wp_aload_n (pc' := 95) dX3_init_94 rfl rfl ?_
  refine wc_putFR (pc' := 98) (a := 29) (k := 10) (b := 1) dX3_init_95 s_29 (by decide) fc_X3_47 (fun q hq => by cases hq; rfl) rfl rfl (fun q => ⟨rfl, rfl⟩) rfl rfl ?_
  exact wp_vret dX3_init_98 rfl (by decide) (by decide) ⟨rfl, rfl, rfl, rfl, rfl⟩
theorem c_7 {g : Gx} : Mx g 1 mi_X3_init [.ref 41, .ref 1] (shF.take 42) (uP 3) wZ (rP 41) (qC 53 3 53) := by
  refine mx_of pn_X3 (Nat.le_of_ble_eq_true rfl) (?_ : Wp g 1 mi_X3_init 0 [some (.ref 41), some (.ref 1)] [] 0 0 (shF.take 42) (uP 3) wZ (rP 41) (zM g mi_X3_init (qC 53 3 53)))
  refine wp_aload_n (pc' := 1) dX3_init_0 rfl rfl ?_
  refine wp_objInit (pc' := 4) dX3_init_1 q293 q126 q127 (by decide) (Nat.le_of_ble_eq_true rfl) rfl ?_
  refine wp_aload_n (pc' := 5) dX3_init_4 rfl rfl ?_
  refine wp_sipush (pc' := 8) (1400 : Int32) dX3_init_5 (by decide +kernel) rfl ?_
  refine wc_newI (pc' := 10) (a := 42) dX3_init_8 ⟨by decide +kernel, by decide +kernel⟩ (by decide) q169 s_42 (fresh_u (by decide +kernel)) (by decide) (by decide) rfl rfl rfl ?_
  refine wc_putFR (pc' := 13) (a := 41) (k := 0) (b := 42) dX3_init_10 s_41 (by decide) fc_X3_9 (fun q hq => by cases hq; rfl) rfl rfl (fun q => ⟨rfl, rfl⟩) rfl rfl ?_
  refine wp_aload_n (pc' := 14) dX3_init_13 rfl rfl ?_
  refine wp_bipush (pc' := 16) (6 : Int32) dX3_init_14 (by decide +kernel) rfl ?_
  refine wc_newI (pc' := 18) (a := 43) dX3_init_16 ⟨by decide +kernel, by decide +kernel⟩ (by decide) q169 s_43 (fresh_u (by decide +kernel)) (by decide) (by decide) rfl rfl rfl ?_
  refine wc_putFR (pc' := 21) (a := 41) (k := 1) (b := 43) dX3_init_18 s_41 (by decide) fc_X3_15 (fun q hq => by cases hq; rfl) rfl rfl (fun q => ⟨rfl, rfl⟩) rfl rfl ?_
  refine wp_aload_n (pc' := 22) dX3_init_21 rfl rfl ?_
  refine wp_bipush (pc' := 24) (20 : Int32) dX3_init_22 (by decide +kernel) rfl ?_
  refine wc_newI (pc' := 26) (a := 44) dX3_init_24 ⟨by decide +kernel, by decide +kernel⟩ (by decide) q169 s_44 (fresh_u (by decide +kernel)) (by decide) (by decide) rfl rfl rfl ?_
  refine wc_putFR (pc' := 29) (a := 41) (k := 2) (b := 44) dX3_init_26 s_41 (by decide) fc_X3_18 (fun q hq => by cases hq; rfl) rfl rfl (fun q => ⟨rfl, rfl⟩) rfl rfl ?_
  refine wp_aload_n (pc' := 30) dX3_init_29 rfl rfl ?_
  refine wp_bipush (pc' := 32) (20 : Int32) dX3_init_30 (by decide +kernel) rfl ?_
  refine wc_newI (pc' := 34) (a := 45) dX3_init_32 ⟨by decide +kernel, by decide +kernel⟩ (by decide) q169 s_45 (fresh_u (by decide +kernel)) (by decide) (by decide) rfl rfl rfl ?_
  refine wc_putFR (pc' := 37) (a := 41) (k := 3) (b := 45) dX3_init_34 s_41 (by decide) fc_X3_21 (fun q hq => by cases hq; rfl) rfl rfl (fun q => ⟨rfl, rfl⟩) rfl rfl ?_
  refine wp_aload_n (pc' := 38) dX3_init_37 rfl rfl ?_
  refine wp_bipush (pc' := 40) (10 : Int32) dX3_init_38 (by decide +kernel) rfl ?_
  refine wc_newI (pc' := 42) (a := 46) dX3_init_40 ⟨by decide +kernel, by decide +kernel⟩ (by decide) q169 s_46 (fresh_u (by decide +kernel)) (by decide) (by decide) rfl rfl rfl ?_
  refine wc_putFR (pc' := 45) (a := 41) (k := 4) (b := 46) dX3_init_42 s_41 (by decide) fc_X3_24 (fun q hq => by cases hq; rfl) rfl rfl (fun q => ⟨rfl, rfl⟩) rfl rfl ?_
  refine wp_aload_n (pc' := 46) dX3_init_45 rfl rfl ?_
  refine wp_bipush (pc' := 48) (10 : Int32) dX3_init_46 (by decide +kernel) rfl ?_
  refine wc_newI (pc' := 50) (a := 47) dX3_init_48 ⟨by decide +kernel, by decide +kernel⟩ (by decide) q169 s_47 (fresh_u (by decide +kernel)) (by decide) (by decide) rfl rfl rfl ?_
  refine wc_putFR (pc' := 53) (a := 41) (k := 5) (b := 47) dX3_init_50 s_41 (by decide) fc_X3_27 (fun q hq => by cases hq; rfl) rfl rfl (fun q => ⟨rfl, rfl⟩) rfl rfl ?_
  refine wp_aload_n (pc' := 54) dX3_init_53 rfl rfl ?_
  refine wp_bipush (pc' := 56) (10 : Int32) dX3_init_54 (by decide +kernel) rfl ?_
  refine wc_newI (pc' := 58) (a := 48) dX3_init_56 ⟨by decide +kernel, by decide +kernel⟩ (by decide) q169 s_48 (fresh_u (by decide +kernel)) (by decide) (by decide) rfl rfl rfl ?_
  refine wc_putFR (pc' := 61) (a := 41) (k := 6) (b := 48) dX3_init_58 s_41 (by decide) fc_X3_30 (fun q hq => by cases hq; rfl) rfl rfl (fun q => ⟨rfl, rfl⟩) rfl rfl ?_
  refine wp_aload_n (pc' := 62) dX3_init_61 rfl rfl ?_
  refine wp_bipush (pc' := 64) (8 : Int32) dX3_init_62 (by decide +kernel) rfl ?_
  refine wc_newI (pc' := 66) (a := 49) dX3_init_64 ⟨by decide +kernel, by decide +kernel⟩ (by decide) q169 s_49 (fresh_u (by decide +kernel)) (by decide) (by decide) rfl rfl rfl ?_
  refine wc_putFR (pc' := 69) (a := 41) (k := 11) (b := 49) dX3_init_66 s_41 (by decide) fc_X3_35 (fun q hq => by cases hq; rfl) rfl rfl (fun q => ⟨rfl, rfl⟩) rfl rfl ?_
  refine wp_aload_n (pc' := 70) dX3_init_69 rfl rfl ?_
  refine wp_bipush (pc' := 72) (10 : Int32) dX3_init_70 (by decide +kernel) rfl ?_
  refine wc_newI (pc' := 74) (a := 50) dX3_init_72 ⟨by decide +kernel, by decide +kernel⟩ (by decide) q169 s_50 (fresh_u (by decide +kernel)) (by decide) (by decide) rfl rfl rfl ?_
  refine wc_putFR (pc' := 77) (a := 41) (k := 12) (b := 50) dX3_init_74 s_41 (by decide) fc_X3_38 (fun q hq => by cases hq; rfl) rfl rfl (fun q => ⟨rfl, rfl⟩) rfl rfl ?_
  refine wp_aload_n (pc' := 78) dX3_init_77 rfl rfl ?_
  refine wp_bipush (pc' := 80) (10 : Int32) dX3_init_78 (by decide +kernel) rfl ?_
  refine wc_newI (pc' := 82) (a := 51) dX3_init_80 ⟨by decide +kernel, by decide +kernel⟩ (by decide) q169 s_51 (fresh_u (by decide +kernel)) (by decide) (by decide) rfl rfl rfl ?_
  refine wc_putFR (pc' := 85) (a := 41) (k := 13) (b := 51) dX3_init_82 s_41 (by decide) fc_X3_41 (fun q hq => by cases hq; rfl) rfl rfl (fun q => ⟨rfl, rfl⟩) rfl rfl ?_
  refine wp_aload_n (pc' := 86) dX3_init_85 rfl rfl ?_
  refine wp_bipush (pc' := 88) (10 : Int32) dX3_init_86 (by decide +kernel) rfl ?_
  refine wc_newI (pc' := 90) (a := 52) dX3_init_88 ⟨by decide +kernel, by decide +kernel⟩ (by decide) q169 s_52 (fresh_u (by decide +kernel)) (by decide) (by decide) rfl rfl rfl ?_
  refine wc_putFR (pc' := 93) (a := 41) (k := 14) (b := 52) dX3_init_90 s_41 (by decide) fc_X3_44 (fun q hq => by cases hq; rfl) rfl rfl (fun q => ⟨rfl, rfl⟩) rfl rfl ?_
  refine wp_aload_n (pc' := 94) dX3_init_93 rfl rfl ?_
  refine wp_aload_n (pc' := 95) dX3_init_94 rfl rfl ?_
  refine wc_putFR (pc' := 98) (a := 41) (k := 10) (b := 1) dX3_init_95 s_41 (by decide) fc_X3_47 (fun q hq => by cases hq; rfl) rfl rfl (fun q => ⟨rfl, rfl⟩) rfl rfl ?_
  exact wp_vret dX3_init_98 rfl (by decide) (by decide) ⟨rfl, rfl, rfl, rfl, rfl⟩
theorem c_5 {g : Gx} : Mx g 2 mi_X4_init [.ref 24, .ref 1] (shF.take 25) (uP 3) wZ (rP 23) (qC 53 3 54) := by
  refine mx_of pn_X4 (Nat.le_of_ble_eq_true rfl) (?_ : Wp g 2 mi_X4_init 0 [some (.ref 24), some (.ref 1)] [] 0 0 (shF.take 25) (uP 3) wZ (rP 23) (zM g mi_X4_init (qC 53 3 54)))
  refine wp_aload_n (pc' := 1) dX4_init_0 rfl rfl ?_
  refine wp_objInit (pc' := 4) dX4_init_1 q287 q126 q127 (by decide) (Nat.le_of_ble_eq_true rfl) rfl ?_
  refine wp_aload_n (pc' := 5) dX4_init_4 rfl rfl ?_
  refine wp_bipush (pc' := 7) (10 : Int32) dX4_init_5 (by decide +kernel) rfl ?_
  refine wc_newI (pc' := 9) (a := 25) dX4_init_7 ⟨by decide +kernel, by decide +kernel⟩ (by decide) q169 s_25 (fresh_u (by decide +kernel)) (by decide) (by decide) rfl rfl rfl ?_
  refine wc_putFR (pc' := 12) (a := 24) (k := 1) (b := 25) dX4_init_9 s_24 (by decide) fc_X4_9 (fun q hq => by cases hq; rfl) rfl rfl (fun q => ⟨rfl, rfl⟩) rfl rfl ?_
  refine wp_aload_n (pc' := 13) dX4_init_12 rfl rfl ?_
  refine wp_bipush (pc' := 15) (6 : Int32) dX4_init_13 (by decide +kernel) rfl ?_
  refine wc_newI (pc' := 17) (a := 26) dX4_init_15 ⟨by decide +kernel, by decide +kernel⟩ (by decide) q169 s_26 (fresh_u (by decide +kernel)) (by decide) (by decide) rfl rfl rfl ?_
  refine wc_putFR (pc' := 20) (a := 24) (k := 2) (b := 26) dX4_init_17 s_24 (by decide) fc_X4_15 (fun q hq => by cases hq; rfl) rfl rfl (fun q => ⟨rfl, rfl⟩) rfl rfl ?_
  refine wp_aload_n (pc' := 21) dX4_init_20 rfl rfl ?_
  refine wp_bipush (pc' := 23) (6 : Int32) dX4_init_21 (by decide +kernel) rfl ?_
  refine wc_newI (pc' := 25) (a := 27) dX4_init_23 ⟨by decide +kernel, by decide +kernel⟩ (by decide) q169 s_27 (fresh_u (by decide +kernel)) (by decide) (by decide) rfl rfl rfl ?_
  refine wc_putFR (pc' := 28) (a := 24) (k := 6) (b := 27) dX4_init_25 s_24 (by decide) fc_X4_18 (fun q hq => by cases hq; rfl) rfl rfl (fun q => ⟨rfl, rfl⟩) rfl rfl ?_
  refine wp_aload_n (pc' := 29) dX4_init_28 rfl rfl ?_
  refine wp_bipush (pc' := 31) (10 : Int32) dX4_init_29 (by decide +kernel) rfl ?_
  refine wc_newI (pc' := 33) (a := 28) dX4_init_31 ⟨by decide +kernel, by decide +kernel⟩ (by decide) q169 s_28 (fresh_u (by decide +kernel)) (by decide) (by decide) rfl rfl rfl ?_
  refine wc_putFR (pc' := 36) (a := 24) (k := 7) (b := 28) dX4_init_33 s_24 (by decide) fc_X4_21 (fun q hq => by cases hq; rfl) rfl rfl (fun q => ⟨rfl, rfl⟩) rfl rfl ?_
  refine wp_aload_n (pc' := 37) dX4_init_36 rfl rfl ?_
  refine wp_aload_n (pc' := 38) dX4_init_37 rfl rfl ?_
  refine wc_putFR (pc' := 41) (a := 24) (k := 4) (b := 1) dX4_init_38 s_24 (by decide) fc_X4_24 (fun q hq => by cases hq; rfl) rfl rfl (fun q => ⟨rfl, rfl⟩) rfl rfl ?_
  refine wp_aload_n (pc' := 42) dX4_init_41 rfl rfl ?_
  refine wc_newO (pc' := 45) (a := 29) (c0 := 3) (T := TX3) dX4_init_42 q288 q289 q106 inX3 tyX3_ok rfl dfX3 s_29 (fresh_u (by decide +kernel)) (fresh_r (by decide +kernel)) (by decide) (by decide) rfl rfl rfl ?_
  refine wp_dup (pc' := 46) dX4_init_45 rfl rfl ?_
  refine wp_aload_n (pc' := 47) dX4_init_46 rfl rfl ?_
  refine wc_callI (pc' := 50) (As := [.ref 1]) (rest := [.ref 29, .ref 24]) (kc2 := 16) (ks2 := 1565) dX4_init_47 oi_X4_30 (c_6) (by decide) rfl (Nat.le_of_ble_eq_true rfl) (by decide) (by decide) rfl rfl rfl ?_
  refine wc_putFR (pc' := 53) (a := 24) (k := 0) (b := 29) dX4_init_50 s_24 (by decide) fc_X4_33 (fun q hq => by cases hq; rfl) rfl rfl (fun q => ⟨rfl, rfl⟩) rfl rfl ?_
  refine wp_aload_n (pc' := 54) dX4_init_53 rfl rfl ?_
  refine wc_newO (pc' := 57) (a := 41) (c0 := 3) (T := TX3) dX4_init_54 q288 q289 q106 inX3 tyX3_ok rfl dfX3 s_41 (fresh_u (by decide +kernel)) (fresh_r (by decide +kernel)) (by decide) (by decide) rfl rfl rfl ?_
  refine wp_dup (pc' := 58) dX4_init_57 rfl rfl ?_
  refine wp_aload_n (pc' := 59) dX4_init_58 rfl rfl ?_
  refine wc_callI (pc' := 62) (As := [.ref 1]) (rest := [.ref 41, .ref 24]) (kc2 := 28) (ks2 := 3098) dX4_init_59 oi_X4_30 (c_7) (by decide) rfl (Nat.le_of_ble_eq_true rfl) (by decide) (by decide) rfl rfl rfl ?_
  refine wc_putFR (pc' := 65) (a := 24) (k := 5) (b := 41) dX4_init_62 s_24 (by decide) fc_X4_37 (fun q hq => by cases hq; rfl) rfl rfl (fun q => ⟨rfl, rfl⟩) rfl rfl ?_
  exact wp_vret dX4_init_65 rfl (by decide) (by decide) ⟨rfl, rfl, rfl, rfl, rfl⟩
theorem c_9 {g : Gx} : Mx g 1 mi_X3_init [.ref 57, .ref 1] (shF.take 58) (uP 6) wZ (rP 59) (qC 69 6 71) := by
  refine mx_of pn_X3 (Nat.le_of_ble_eq_true rfl) (?_ : Wp g 1 mi_X3_init 0 [some (.ref 57), some (.ref 1)] [] 0 0 (shF.take 58) (uP 6) wZ (rP 59) (zM g mi_X3_init (qC 69 6 71)))
  refine wp_aload_n (pc' := 1) dX3_init_0 rfl rfl ?_
  refine wp_objInit (pc' := 4) dX3_init_1 q293 q126 q127 (by decide) (Nat.le_of_ble_eq_true rfl) rfl ?_
  refine wp_aload_n (pc' := 5) dX3_init_4 rfl rfl ?_
  refine wp_sipush (pc' := 8) (1400 : Int32) dX3_init_5 (by decide +kernel) rfl ?_
  refine wc_newI (pc' := 10) (a := 58) dX3_init_8 ⟨by decide +kernel, by decide +kernel⟩ (by decide) q169 s_58 (fresh_u (by decide +kernel)) (by decide) (by decide) rfl rfl rfl ?_
  refine wc_putFR (pc' := 13) (a := 57) (k := 0) (b := 58) dX3_init_10 s_57 (by decide) fc_X3_9 (fun q hq => by cases hq; rfl) rfl rfl (fun q => ⟨rfl, rfl⟩) rfl rfl ?_
  refine wp_aload_n (pc' := 14) dX3_init_13 rfl rfl ?_
  refine wp_bipush (pc' := 16) (6 : Int32) dX3_init_14 (by decide +kernel) rfl ?_
  refine wc_newI (pc' := 18) (a := 59) dX3_init_16 ⟨by decide +kernel, by decide +kernel⟩ (by decide) q169 s_59 (fresh_u (by decide +kernel)) (by decide) (by decide) rfl rfl rfl ?_
  refine wc_putFR (pc' := 21) (a := 57) (k := 1) (b := 59) dX3_init_18 s_57 (by decide) fc_X3_15 (fun q hq => by cases hq; rfl) rfl rfl (fun q => ⟨rfl, rfl⟩) rfl rfl ?_
  refine wp_aload_n (pc' := 22) dX3_init_21 rfl rfl ?_
  refine wp_bipush (pc' := 24) (20 : Int32) dX3_init_22 (by decide +kernel) rfl ?_
  refine wc_newI (pc' := 26) (a := 60) dX3_init_24 ⟨by decide +kernel, by decide +kernel⟩ (by decide) q169 s_60 (fresh_u (by decide +kernel)) (by decide) (by decide) rfl rfl rfl ?_
  refine wc_putFR (pc' := 29) (a := 57) (k := 2) (b := 60) dX3_init_26 s_57 (by decide) fc_X3_18 (fun q hq => by cases hq; rfl) rfl rfl (fun q => ⟨rfl, rfl⟩) rfl rfl ?_
  refine wp_aload_n (pc' := 30) dX3_init_29 rfl rfl ?_
  refine wp_bipush (pc' := 32) (20 : Int32) dX3_init_30 (by decide +kernel) rfl ?_
  refine wc_newI (pc' := 34) (a := 61) dX3_init_32 ⟨by decide +kernel, by decide +kernel⟩ (by decide) q169 s_61 (fresh_u (by decide +kernel)) (by decide) (by decide) rfl rfl rfl ?_
  refine wc_putFR (pc' := 37) (a := 57) (k := 3) (b := 61) dX3_init_34 s_57 (by decide) fc_X3_21 (fun q hq => by cases hq; rfl) rfl rfl (fun q => ⟨rfl, rfl⟩) rfl rfl ?_
  refine wp_aload_n (pc' := 38) dX3_init_37 rfl rfl ?_
  refine wp_bipush (pc' := 40) (10 : Int32) dX3_init_38 (by decide +kernel) rfl ?_
  refine wc_newI (pc' := 42) (a := 62) dX3_init_40 ⟨by decide +kernel, by decide +kernel⟩ (by decide) q169 s_62 (fresh_u (by decide +kernel)) (by decide) (by decide) rfl rfl rfl ?_
  refine wc_putFR (pc' := 45) (a := 57) (k := 4) (b := 62) dX3_init_42 s_57 (by decide) fc_X3_24 (fun q hq => by cases hq; rfl) rfl rfl (fun q => ⟨rfl, rfl⟩) rfl rfl ?_
  refine wp_aload_n (pc' := 46) dX3_init_45 rfl rfl ?_
  refine wp_bipush (pc' := 48) (10 : Int32) dX3_init_46 (by decide +kernel) rfl ?_
  refine wc_newI (pc' := 50) (a := 63) dX3_init_48 ⟨by decide +kernel, by decide +kernel⟩ (by decide) q169 s_63 (fresh_u (by decide +kernel)) (by decide) (by decide) rfl rfl rfl ?_
  refine wc_putFR (pc' := 53) (a := 57) (k := 5) (b := 63) dX3_init_50 s_57 (by decide) fc_X3_27 (fun q hq => by cases hq; rfl) rfl rfl (fun q => ⟨rfl, rfl⟩) rfl rfl ?_
  refine wp_aload_n (pc' := 54) dX3_init_53 rfl rfl ?_
  refine wp_bipush (pc' := 56) (10 : Int32) dX3_init_54 (by decide +kernel) rfl ?_
  refine wc_newI (pc' := 58) (a := 64) dX3_init_56 ⟨by decide +kernel, by decide +kernel⟩ (by decide) q169 s_64 (fresh_u (by decide +kernel)) (by decide) (by decide) rfl rfl rfl ?_
  refine wc_putFR (pc' := 61) (a := 57) (k := 6) (b := 64) dX3_init_58 s_57 (by decide) fc_X3_30 (fun q hq => by cases hq; rfl) rfl rfl (fun q => ⟨rfl, rfl⟩) rfl rfl ?_
  refine wp_aload_n (pc' := 62) dX3_init_61 rfl rfl ?_
  refine wp_bipush (pc' := 64) (8 : Int32) dX3_init_62 (by decide +kernel) rfl ?_
  refine wc_newI (pc' := 66) (a := 65) dX3_init_64 ⟨by decide +kernel, by decide +kernel⟩ (by decide) q169 s_65 (fresh_u (by decide +kernel)) (by decide) (by decide) rfl rfl rfl ?_
  refine wc_putFR (pc' := 69) (a := 57) (k := 11) (b := 65) dX3_init_66 s_57 (by decide) fc_X3_35 (fun q hq => by cases hq; rfl) rfl rfl (fun q => ⟨rfl, rfl⟩) rfl rfl ?_
  refine wp_aload_n (pc' := 70) dX3_init_69 rfl rfl ?_
  refine wp_bipush (pc' := 72) (10 : Int32) dX3_init_70 (by decide +kernel) rfl ?_
  refine wc_newI (pc' := 74) (a := 66) dX3_init_72 ⟨by decide +kernel, by decide +kernel⟩ (by decide) q169 s_66 (fresh_u (by decide +kernel)) (by decide) (by decide) rfl rfl rfl ?_
  refine wc_putFR (pc' := 77) (a := 57) (k := 12) (b := 66) dX3_init_74 s_57 (by decide) fc_X3_38 (fun q hq => by cases hq; rfl) rfl rfl (fun q => ⟨rfl, rfl⟩) rfl rfl ?_
  refine wp_aload_n (pc' := 78) dX3_init_77 rfl rfl ?_
  refine wp_bipush (pc' := 80) (10 : Int32) dX3_init_78 (by decide +kernel) rfl ?_
  refine wc_newI (pc' := 82) (a := 67) dX3_init_80 ⟨by decide +kernel, by decide +kernel⟩ (by decide) q169 s_67 (fresh_u (by decide +kernel)) (by decide) (by decide) rfl rfl rfl ?_
  refine wc_putFR (pc' := 85) (a := 57) (k := 13) (b := 67) dX3_init_82 s_57 (by decide) fc_X3_41 (fun q hq => by cases hq; rfl) rfl rfl (fun q => ⟨rfl, rfl⟩) rfl rfl ?_
  refine wp_aload_n (pc' := 86) dX3_init_85 rfl rfl ?_
  refine wp_bipush (pc' := 88) (10 : Int32) dX3_init_86 (by decide +kernel) rfl ?_
  refine wc_newI (pc' := 90) (a := 68) dX3_init_88 ⟨by decide +kernel, by decide +kernel⟩ (by decide) q169 s_68 (fresh_u (by decide +kernel)) (by decide) (by decide) rfl rfl rfl ?_
  refine wc_putFR (pc' := 93) (a := 57) (k := 14) (b := 68) dX3_init_90 s_57 (by decide) fc_X3_44 (fun q hq => by cases hq; rfl) rfl rfl (fun q => ⟨rfl, rfl⟩) rfl rfl ?_
  refine wp_aload_n (pc' := 94) dX3_init_93 rfl rfl ?_
  refine wp_aload_n (pc' := 95) dX3_init_94 rfl rfl ?_
  refine wc_putFR (pc' := 98) (a := 57) (k := 10) (b := 1) dX3_init_95 s_57 (by decide) fc_X3_47 (fun q hq => by cases hq; rfl) rfl rfl (fun q => ⟨rfl, rfl⟩) rfl rfl ?_
  exact wp_vret dX3_init_98 rfl (by decide) (by decide) ⟨rfl, rfl, rfl, rfl, rfl⟩
theorem c_8 {g : Gx} : Mx g 2 mi_X7_init [.ref 53, .ref 1] (shF.take 54) (uP 3) wZ (rP 55) (qC 69 6 72) := by
  refine mx_of pn_X7 (Nat.le_of_ble_eq_true rfl) (?_ : Wp g 2 mi_X7_init 0 [some (.ref 53), some (.ref 1)] [] 0 0 (shF.take 54) (uP 3) wZ (rP 55) (zM g mi_X7_init (qC 69 6 72)))
  refine wp_aload_n (pc' := 1) dX7_init_0 rfl rfl ?_
  refine wp_objInit (pc' := 4) dX7_init_1 q409 q126 q127 (by decide) (Nat.le_of_ble_eq_true rfl) rfl ?_
  refine wp_aload_n (pc' := 5) dX7_init_4 rfl rfl ?_
  refine wp_bipush (pc' := 7) (6 : Int32) dX7_init_5 (by decide +kernel) rfl ?_
  refine wc_newI (pc' := 9) (a := 54) dX7_init_7 ⟨by decide +kernel, by decide +kernel⟩ (by decide) q169 s_54 (fresh_u (by decide +kernel)) (by decide) (by decide) rfl rfl rfl ?_
  refine wc_putFR (pc' := 12) (a := 53) (k := 2) (b := 54) dX7_init_9 s_53 (by decide) fc_X7_9 (fun q hq => by cases hq; rfl) rfl rfl (fun q => ⟨rfl, rfl⟩) rfl rfl ?_
  refine wp_aload_n (pc' := 13) dX7_init_12 rfl rfl ?_
  refine wp_bipush (pc' := 15) (9 : Int32) dX7_init_13 (by decide +kernel) rfl ?_
  refine wc_newI (pc' := 17) (a := 55) dX7_init_15 ⟨by decide +kernel, by decide +kernel⟩ (by decide) q169 s_55 (fresh_u (by decide +kernel)) (by decide) (by decide) rfl rfl rfl ?_
  refine wc_putFR (pc' := 20) (a := 53) (k := 3) (b := 55) dX7_init_17 s_53 (by decide) fc_X7_15 (fun q hq => by cases hq; rfl) rfl rfl (fun q => ⟨rfl, rfl⟩) rfl rfl ?_
  refine wp_aload_n (pc' := 21) dX7_init_20 rfl rfl ?_
  refine wp_iconst (pc' := 22) (3 : Int32) dX7_init_21 (by decide +kernel) rfl ?_
  refine wc_newI (pc' := 24) (a := 56) dX7_init_22 ⟨by decide +kernel, by decide +kernel⟩ (by decide) q169 s_56 (fresh_u (by decide +kernel)) (by decide) (by decide) rfl rfl rfl ?_
  refine wp_dup (pc' := 25) dX7_init_24 rfl rfl ?_
  refine wp_iconst (pc' := 26) (0 : Int32) dX7_init_25 (by decide +kernel) rfl ?_
  refine wp_iconst (pc' := 27) (-1 : Int32) dX7_init_26 (by decide +kernel) rfl ?_
  refine wc_iast (pc' := 28) (a := 56) (i := (0 : Int32)) (x := (-1 : Int32)) dX7_init_27 s_56 (by decide) (by decide +kernel) rfl rfl ?_
  refine wp_dup (pc' := 29) dX7_init_28 rfl rfl ?_
  refine wp_iconst (pc' := 30) (1 : Int32) dX7_init_29 (by decide +kernel) rfl ?_
  refine wp_iconst (pc' := 31) (-1 : Int32) dX7_init_30 (by decide +kernel) rfl ?_
  refine wc_iast (pc' := 32) (a := 56) (i := (1 : Int32)) (x := (-1 : Int32)) dX7_init_31 s_56 (by decide) (by decide +kernel) rfl rfl ?_
  refine wp_dup (pc' := 33) dX7_init_32 rfl rfl ?_
  refine wp_iconst (pc' := 34) (2 : Int32) dX7_init_33 (by decide +kernel) rfl ?_
  refine wp_iconst (pc' := 35) (-1 : Int32) dX7_init_34 (by decide +kernel) rfl ?_
  refine wc_iast (pc' := 36) (a := 56) (i := (2 : Int32)) (x := (-1 : Int32)) dX7_init_35 s_56 (by decide) (by decide +kernel) rfl rfl ?_
  refine wc_putFR (pc' := 39) (a := 53) (k := 4) (b := 56) dX7_init_36 s_53 (by decide) fc_X7_18 (fun q hq => by cases hq; rfl) rfl rfl (fun q => ⟨rfl, rfl⟩) rfl rfl ?_
  refine wp_aload_n (pc' := 40) dX7_init_39 rfl rfl ?_
  refine wp_aload_n (pc' := 41) dX7_init_40 rfl rfl ?_
  refine wc_putFR (pc' := 44) (a := 53) (k := 0) (b := 1) dX7_init_41 s_53 (by decide) fc_X7_21 (fun q hq => by cases hq; rfl) rfl rfl (fun q => ⟨rfl, rfl⟩) rfl rfl ?_
  refine wp_aload_n (pc' := 45) dX7_init_44 rfl rfl ?_
  refine wc_newO (pc' := 48) (a := 57) (c0 := 3) (T := TX3) dX7_init_45 q410 q289 q106 inX3 tyX3_ok rfl dfX3 s_57 (fresh_u (by decide +kernel)) (fresh_r (by decide +kernel)) (by decide) (by decide) rfl rfl rfl ?_
  refine wp_dup (pc' := 49) dX7_init_48 rfl rfl ?_
  refine wp_aload_n (pc' := 50) dX7_init_49 rfl rfl ?_
  refine wc_callI (pc' := 53) (As := [.ref 1]) (rest := [.ref 57, .ref 53]) (kc2 := 15) (ks2 := 1551) dX7_init_50 oi_X7_27 (c_9) (by decide) rfl (Nat.le_of_ble_eq_true rfl) (by decide) (by decide) rfl rfl rfl ?_
  refine wc_putFR (pc' := 56) (a := 53) (k := 1) (b := 57) dX7_init_53 s_53 (by decide) fc_X7_30 (fun q hq => by cases hq; rfl) rfl rfl (fun q => ⟨rfl, rfl⟩) rfl rfl ?_
  exact wp_vret dX7_init_56 rfl (by decide) (by decide) ⟨rfl, rfl, rfl, rfl, rfl⟩
theorem c_10 {g : Gx} : Mx g 1 mi_X0_init [.ref 69] (shF.take 70) (uP 6) wZ (rP 73) (qC 72 6 75) := by
  refine mx_of pn_X0 (Nat.le_of_ble_eq_true rfl) (?_ : Wp g 1 mi_X0_init 0 [some (.ref 69)] [] 0 0 (shF.take 70) (uP 6) wZ (rP 73) (zM g mi_X0_init (qC 72 6 75)))
  refine wp_aload_n (pc' := 1) dX0_init_0 rfl rfl ?_
  refine wp_objInit (pc' := 4) dX0_init_1 q433 q126 q127 (by decide) (Nat.le_of_ble_eq_true rfl) rfl ?_
  refine wp_aload_n (pc' := 5) dX0_init_4 rfl rfl ?_
  refine wp_bipush (pc' := 7) (24 : Int32) dX0_init_5 (by decide +kernel) rfl ?_
  refine wc_newI (pc' := 9) (a := 70) dX0_init_7 ⟨by decide +kernel, by decide +kernel⟩ (by decide) q169 s_70 (fresh_u (by decide +kernel)) (by decide) (by decide) rfl rfl rfl ?_
  refine wc_putFR (pc' := 12) (a := 69) (k := 0) (b := 70) dX0_init_9 s_69 (by decide) fc_X0_9 (fun q hq => by cases hq; rfl) rfl rfl (fun q => ⟨rfl, rfl⟩) rfl rfl ?_
  refine wp_aload_n (pc' := 13) dX0_init_12 rfl rfl ?_
  refine wp_bipush (pc' := 15) (50 : Int32) dX0_init_13 (by decide +kernel) rfl ?_
  refine wc_newI (pc' := 17) (a := 71) dX0_init_15 ⟨by decide +kernel, by decide +kernel⟩ (by decide) q169 s_71 (fresh_u (by decide +kernel)) (by decide) (by decide) rfl rfl rfl ?_
  refine wc_putFR (pc' := 20) (a := 69) (k := 3) (b := 71) dX0_init_17 s_69 (by decide) fc_X0_13 (fun q hq => by cases hq; rfl) rfl rfl (fun q => ⟨rfl, rfl⟩) rfl rfl ?_
  exact wp_vret dX0_init_20 rfl (by decide) (by decide) ⟨rfl, rfl, rfl, rfl, rfl⟩
theorem c_11 {g : Gx} : Mx g 1 mi_X5_init [.ref 73] (shF.take 74) (uP 6) wZ (rP 77) (qC 75 8 78) := by
  refine mx_of pn_X5 (Nat.le_of_ble_eq_true rfl) (?_ : Wp g 1 mi_X5_init 0 [some (.ref 73)] [] 0 0 (shF.take 74) (uP 6) wZ (rP 77) (zM g mi_X5_init (qC 75 8 78)))
  refine wp_aload_n (pc' := 1) dX5_init_0 rfl rfl ?_
  refine wp_objInit (pc' := 4) dX5_init_1 q462 q126 q127 (by decide) (Nat.le_of_ble_eq_true rfl) rfl ?_
  refine wp_aload_n (pc' := 5) dX5_init_4 rfl rfl ?_
  refine wp_bipush (pc' := 7) (-2 : Int32) dX5_init_5 (by decide +kernel) rfl ?_
  refine wc_putI (pc' := 10) (a := 73) (k := 0) (x := (-2 : Int32)) dX5_init_7 s_73 (by decide) fc_X5_9 rfl rfl rfl ?_
  refine wp_aload_n (pc' := 11) dX5_init_10 rfl rfl ?_
  refine wp_iconst (pc' := 12) (-1 : Int32) dX5_init_11 (by decide +kernel) rfl ?_
  refine wc_putI (pc' := 15) (a := 73) (k := 1) (x := (-1 : Int32)) dX5_init_12 s_73 (by decide) fc_X5_15 rfl rfl rfl ?_
  refine wp_aload_n (pc' := 16) dX5_init_15 rfl rfl ?_
  refine wp_bipush (pc' := 18) (60 : Int32) dX5_init_16 (by decide +kernel) rfl ?_
  refine wc_newL (pc' := 20) (a := 74) dX5_init_18 ⟨by decide +kernel, by decide +kernel⟩ (by decide) q482 s_74 (by decide) (by decide) rfl rfl rfl ?_
  refine wc_putFR (pc' := 23) (a := 73) (k := 3) (b := 74) dX5_init_20 s_73 (by decide) fc_X5_18 (fun q hq => by cases hq; rfl) rfl rfl (fun q => ⟨rfl, rfl⟩) rfl rfl ?_
  exact wp_vret dX5_init_23 rfl (by decide) (by decide) ⟨rfl, rfl, rfl, rfl, rfl⟩
theorem c_12 {g : Gx} : Mx g 1 mi_X5_init [.ref 75] (shF.take 76) (uP 8) wZ (rP 79) (qC 77 10 80) := by
  refine mx_of pn_X5 (Nat.le_of_ble_eq_true rfl) (?_ : Wp g 1 mi_X5_init 0 [some (.ref 75)] [] 0 0 (shF.take 76) (uP 8) wZ (rP 79) (zM g mi_X5_init (qC 77 10 80)))
  refine wp_aload_n (pc' := 1) dX5_init_0 rfl rfl ?_
  refine wp_objInit (pc' := 4) dX5_init_1 q462 q126 q127 (by decide) (Nat.le_of_ble_eq_true rfl) rfl ?_
  refine wp_aload_n (pc' := 5) dX5_init_4 rfl rfl ?_
  refine wp_bipush (pc' := 7) (-2 : Int32) dX5_init_5 (by decide +kernel) rfl ?_
  refine wc_putI (pc' := 10) (a := 75) (k := 0) (x := (-2 : Int32)) dX5_init_7 s_75 (by decide) fc_X5_9 rfl rfl rfl ?_
  refine wp_aload_n (pc' := 11) dX5_init_10 rfl rfl ?_
  refine wp_iconst (pc' := 12) (-1 : Int32) dX5_init_11 (by decide +kernel) rfl ?_
  refine wc_putI (pc' := 15) (a := 75) (k := 1) (x := (-1 : Int32)) dX5_init_12 s_75 (by decide) fc_X5_15 rfl rfl rfl ?_
  refine wp_aload_n (pc' := 16) dX5_init_15 rfl rfl ?_
  refine wp_bipush (pc' := 18) (60 : Int32) dX5_init_16 (by decide +kernel) rfl ?_
  refine wc_newL (pc' := 20) (a := 76) dX5_init_18 ⟨by decide +kernel, by decide +kernel⟩ (by decide) q482 s_76 (by decide) (by decide) rfl rfl rfl ?_
  refine wc_putFR (pc' := 23) (a := 75) (k := 3) (b := 76) dX5_init_20 s_75 (by decide) fc_X5_18 (fun q hq => by cases hq; rfl) rfl rfl (fun q => ⟨rfl, rfl⟩) rfl rfl ?_
  exact wp_vret dX5_init_23 rfl (by decide) (by decide) ⟨rfl, rfl, rfl, rfl, rfl⟩
theorem c_13 {g : Gx} : Mx g 1 mi_X5_init [.ref 77] (shF.take 78) (uP 10) wZ (rP 81) (qC 79 12 82) := by
  refine mx_of pn_X5 (Nat.le_of_ble_eq_true rfl) (?_ : Wp g 1 mi_X5_init 0 [some (.ref 77)] [] 0 0 (shF.take 78) (uP 10) wZ (rP 81) (zM g mi_X5_init (qC 79 12 82)))
  refine wp_aload_n (pc' := 1) dX5_init_0 rfl rfl ?_
  refine wp_objInit (pc' := 4) dX5_init_1 q462 q126 q127 (by decide) (Nat.le_of_ble_eq_true rfl) rfl ?_
  refine wp_aload_n (pc' := 5) dX5_init_4 rfl rfl ?_
  refine wp_bipush (pc' := 7) (-2 : Int32) dX5_init_5 (by decide +kernel) rfl ?_
  refine wc_putI (pc' := 10) (a := 77) (k := 0) (x := (-2 : Int32)) dX5_init_7 s_77 (by decide) fc_X5_9 rfl rfl rfl ?_
  refine wp_aload_n (pc' := 11) dX5_init_10 rfl rfl ?_
  refine wp_iconst (pc' := 12) (-1 : Int32) dX5_init_11 (by decide +kernel) rfl ?_
  refine wc_putI (pc' := 15) (a := 77) (k := 1) (x := (-1 : Int32)) dX5_init_12 s_77 (by decide) fc_X5_15 rfl rfl rfl ?_
  refine wp_aload_n (pc' := 16) dX5_init_15 rfl rfl ?_
  refine wp_bipush (pc' := 18) (60 : Int32) dX5_init_16 (by decide +kernel) rfl ?_
  refine wc_newL (pc' := 20) (a := 78) dX5_init_18 ⟨by decide +kernel, by decide +kernel⟩ (by decide) q482 s_78 (by decide) (by decide) rfl rfl rfl ?_
  refine wc_putFR (pc' := 23) (a := 77) (k := 3) (b := 78) dX5_init_20 s_77 (by decide) fc_X5_18 (fun q hq => by cases hq; rfl) rfl rfl (fun q => ⟨rfl, rfl⟩) rfl rfl ?_
  exact wp_vret dX5_init_23 rfl (by decide) (by decide) ⟨rfl, rfl, rfl, rfl, rfl⟩
theorem c_14 {g : Gx} : Mx g 1 mi_X5_init [.ref 79] (shF.take 80) (uP 12) wZ (rP 83) (qC 81 14 84) := by
  refine mx_of pn_X5 (Nat.le_of_ble_eq_true rfl) (?_ : Wp g 1 mi_X5_init 0 [some (.ref 79)] [] 0 0 (shF.take 80) (uP 12) wZ (rP 83) (zM g mi_X5_init (qC 81 14 84)))
  refine wp_aload_n (pc' := 1) dX5_init_0 rfl rfl ?_
  refine wp_objInit (pc' := 4) dX5_init_1 q462 q126 q127 (by decide) (Nat.le_of_ble_eq_true rfl) rfl ?_
  refine wp_aload_n (pc' := 5) dX5_init_4 rfl rfl ?_
  refine wp_bipush (pc' := 7) (-2 : Int32) dX5_init_5 (by decide +kernel) rfl ?_
  refine wc_putI (pc' := 10) (a := 79) (k := 0) (x := (-2 : Int32)) dX5_init_7 s_79 (by decide) fc_X5_9 rfl rfl rfl ?_
  refine wp_aload_n (pc' := 11) dX5_init_10 rfl rfl ?_
  refine wp_iconst (pc' := 12) (-1 : Int32) dX5_init_11 (by decide +kernel) rfl ?_
  refine wc_putI (pc' := 15) (a := 79) (k := 1) (x := (-1 : Int32)) dX5_init_12 s_79 (by decide) fc_X5_15 rfl rfl rfl ?_
  refine wp_aload_n (pc' := 16) dX5_init_15 rfl rfl ?_
  refine wp_bipush (pc' := 18) (60 : Int32) dX5_init_16 (by decide +kernel) rfl ?_
  refine wc_newL (pc' := 20) (a := 80) dX5_init_18 ⟨by decide +kernel, by decide +kernel⟩ (by decide) q482 s_80 (by decide) (by decide) rfl rfl rfl ?_
  refine wc_putFR (pc' := 23) (a := 79) (k := 3) (b := 80) dX5_init_20 s_79 (by decide) fc_X5_18 (fun q hq => by cases hq; rfl) rfl rfl (fun q => ⟨rfl, rfl⟩) rfl rfl ?_
  exact wp_vret dX5_init_23 rfl (by decide) (by decide) ⟨rfl, rfl, rfl, rfl, rfl⟩
theorem c_15 {g : Gx} : Mx g 1 mi_X5_init [.ref 81] (shF.take 82) (uP 14) wZ (rP 85) (qC 83 16 86) := by
  refine mx_of pn_X5 (Nat.le_of_ble_eq_true rfl) (?_ : Wp g 1 mi_X5_init 0 [some (.ref 81)] [] 0 0 (shF.take 82) (uP 14) wZ (rP 85) (zM g mi_X5_init (qC 83 16 86)))
  refine wp_aload_n (pc' := 1) dX5_init_0 rfl rfl ?_
  refine wp_objInit (pc' := 4) dX5_init_1 q462 q126 q127 (by decide) (Nat.le_of_ble_eq_true rfl) rfl ?_
  refine wp_aload_n (pc' := 5) dX5_init_4 rfl rfl ?_
  refine wp_bipush (pc' := 7) (-2 : Int32) dX5_init_5 (by decide +kernel) rfl ?_
  refine wc_putI (pc' := 10) (a := 81) (k := 0) (x := (-2 : Int32)) dX5_init_7 s_81 (by decide) fc_X5_9 rfl rfl rfl ?_
  refine wp_aload_n (pc' := 11) dX5_init_10 rfl rfl ?_
  refine wp_iconst (pc' := 12) (-1 : Int32) dX5_init_11 (by decide +kernel) rfl ?_
  refine wc_putI (pc' := 15) (a := 81) (k := 1) (x := (-1 : Int32)) dX5_init_12 s_81 (by decide) fc_X5_15 rfl rfl rfl ?_
  refine wp_aload_n (pc' := 16) dX5_init_15 rfl rfl ?_
  refine wp_bipush (pc' := 18) (60 : Int32) dX5_init_16 (by decide +kernel) rfl ?_
  refine wc_newL (pc' := 20) (a := 82) dX5_init_18 ⟨by decide +kernel, by decide +kernel⟩ (by decide) q482 s_82 (by decide) (by decide) rfl rfl rfl ?_
  refine wc_putFR (pc' := 23) (a := 81) (k := 3) (b := 82) dX5_init_20 s_81 (by decide) fc_X5_18 (fun q hq => by cases hq; rfl) rfl rfl (fun q => ⟨rfl, rfl⟩) rfl rfl ?_
  exact wp_vret dX5_init_23 rfl (by decide) (by decide) ⟨rfl, rfl, rfl, rfl, rfl⟩
theorem c_16 {g : Gx} : Mx g 1 mi_X5_init [.ref 83] (shF.take 84) (uP 16) wZ (rP 87) (qC 85 18 88) := by
  refine mx_of pn_X5 (Nat.le_of_ble_eq_true rfl) (?_ : Wp g 1 mi_X5_init 0 [some (.ref 83)] [] 0 0 (shF.take 84) (uP 16) wZ (rP 87) (zM g mi_X5_init (qC 85 18 88)))
  refine wp_aload_n (pc' := 1) dX5_init_0 rfl rfl ?_
  refine wp_objInit (pc' := 4) dX5_init_1 q462 q126 q127 (by decide) (Nat.le_of_ble_eq_true rfl) rfl ?_
  refine wp_aload_n (pc' := 5) dX5_init_4 rfl rfl ?_
  refine wp_bipush (pc' := 7) (-2 : Int32) dX5_init_5 (by decide +kernel) rfl ?_
  refine wc_putI (pc' := 10) (a := 83) (k := 0) (x := (-2 : Int32)) dX5_init_7 s_83 (by decide) fc_X5_9 rfl rfl rfl ?_
  refine wp_aload_n (pc' := 11) dX5_init_10 rfl rfl ?_
  refine wp_iconst (pc' := 12) (-1 : Int32) dX5_init_11 (by decide +kernel) rfl ?_
  refine wc_putI (pc' := 15) (a := 83) (k := 1) (x := (-1 : Int32)) dX5_init_12 s_83 (by decide) fc_X5_15 rfl rfl rfl ?_
  refine wp_aload_n (pc' := 16) dX5_init_15 rfl rfl ?_
  refine wp_bipush (pc' := 18) (60 : Int32) dX5_init_16 (by decide +kernel) rfl ?_
  refine wc_newL (pc' := 20) (a := 84) dX5_init_18 ⟨by decide +kernel, by decide +kernel⟩ (by decide) q482 s_84 (by decide) (by decide) rfl rfl rfl ?_
  refine wc_putFR (pc' := 23) (a := 83) (k := 3) (b := 84) dX5_init_20 s_83 (by decide) fc_X5_18 (fun q hq => by cases hq; rfl) rfl rfl (fun q => ⟨rfl, rfl⟩) rfl rfl ?_
  exact wp_vret dX5_init_23 rfl (by decide) (by decide) ⟨rfl, rfl, rfl, rfl, rfl⟩
theorem c_1 {g : Gx} : Mx g 3 mi_X8_init [.ref 0] (shF.take 1) (uP 0) wZ (rP 0) (qC 85 18 89) := by
  refine mx_of pn_X8 (Nat.le_of_ble_eq_true rfl) (?_ : Wp g 3 mi_X8_init 0 [some (.ref 0), none] [] 0 0 (shF.take 1) (uP 0) wZ (rP 0) (zM g mi_X8_init (qC 85 18 89)))
  refine wp_aload_n (pc' := 1) dX8_init_0 rfl rfl ?_
  refine wp_objInit (pc' := 4) dX8_init_1 q125 q126 q127 (by decide) (Nat.le_of_ble_eq_true rfl) rfl ?_
  refine wp_aload_n (pc' := 5) dX8_init_4 rfl rfl ?_
  refine wc_newO (pc' := 8) (a := 1) (c0 := 6) (T := TX6) dX8_init_5 q128 q129 q102 inX6 tyX6_ok rfl dfX6 s_1 (fresh_u (by decide +kernel)) (fresh_r (by decide +kernel)) (by decide) (by decide) rfl rfl rfl ?_
  refine wp_dup (pc' := 9) dX8_init_8 rfl rfl ?_
  refine wc_callIN (pc' := 12) (As := []) (rest := [.ref 1, .ref 0]) (kc2 := 18) (ks2 := 661) dX8_init_9 oi_X8_9 (c_2) (by decide) rfl (Nat.le_of_ble_eq_true rfl) (by decide) (by decide) rfl rfl rfl ?_
  refine wc_putFR (pc' := 15) (a := 0) (k := 0) (b := 1) dX8_init_12 s_0 (by decide) fc_X8_10 (fun q hq => by cases hq; rfl) rfl rfl (fun q => ⟨rfl, rfl⟩) rfl rfl ?_
  refine wp_aload_n (pc' := 16) dX8_init_15 rfl rfl ?_
  refine wc_newO (pc' := 19) (a := 19) (c0 := 1) (T := TX1) dX8_init_16 q251 q252 q104 inX1 tyX1_ok rfl dfX1 s_19 (fresh_u (by decide +kernel)) (fresh_r (by decide +kernel)) (by decide) (by decide) rfl rfl rfl ?_
  refine wp_dup (pc' := 20) dX8_init_19 rfl rfl ?_
  refine wc_callIN (pc' := 23) (As := []) (rest := [.ref 19, .ref 0]) (kc2 := 23) (ks2 := 827) dX8_init_20 oi_X8_18 (c_4) (by decide) rfl (Nat.le_of_ble_eq_true rfl) (by decide) (by decide) rfl rfl rfl ?_
  refine wc_putFR (pc' := 26) (a := 0) (k := 1) (b := 19) dX8_init_23 s_0 (by decide) fc_X8_19 (fun q hq => by cases hq; rfl) rfl rfl (fun q => ⟨rfl, rfl⟩) rfl rfl ?_
  refine wp_aload_n (pc' := 27) dX8_init_26 rfl rfl ?_
  refine wc_newO (pc' := 30) (a := 24) (c0 := 4) (T := TX4) dX8_init_27 q282 q283 q105 inX4 tyX4_ok rfl dfX4 s_24 (fresh_u (by decide +kernel)) (fresh_r (by decide +kernel)) (by decide) (by decide) rfl rfl rfl ?_
  refine wp_dup (pc' := 31) dX8_init_30 rfl rfl ?_
  refine wp_aload_n (pc' := 32) dX8_init_31 rfl rfl ?_
  refine wc_getR (pc' := 35) (a := 0) (b := 1) dX8_init_32 s_0 (by decide) fc_X8_10 rfl (by decide +kernel) rfl ?_
  refine wc_callI (pc' := 38) (As := [.ref 1]) (rest := [.ref 24, .ref 0]) (kc2 := 52) (ks2 := 3936) dX8_init_35 oi_X8_25 (c_5) (by decide) rfl (Nat.le_of_ble_eq_true rfl) (by decide) (by decide) rfl rfl rfl ?_
  refine wc_putFR (pc' := 41) (a := 0) (k := 2) (b := 24) dX8_init_38 s_0 (by decide) fc_X8_28 (fun q hq => by cases hq; rfl) rfl rfl (fun q => ⟨rfl, rfl⟩) rfl rfl ?_
  refine wp_aload_n (pc' := 42) dX8_init_41 rfl rfl ?_
  refine wc_newO (pc' := 45) (a := 53) (c0 := 7) (T := TX7) dX8_init_42 q404 q405 q107 inX7 tyX7_ok rfl dfX7 s_53 (fresh_u (by decide +kernel)) (fresh_r (by decide +kernel)) (by decide) (by decide) rfl rfl rfl ?_
  refine wp_dup (pc' := 46) dX8_init_45 rfl rfl ?_
  refine wp_aload_n (pc' := 47) dX8_init_46 rfl rfl ?_
  refine wc_getR (pc' := 50) (a := 0) (b := 1) dX8_init_47 s_0 (by decide) fc_X8_10 rfl (by decide +kernel) rfl ?_
  refine wc_callI (pc' := 53) (As := [.ref 1]) (rest := [.ref 53, .ref 0]) (kc2 := 68) (ks2 := 5492) dX8_init_50 oi_X8_34 (c_8) (by decide) rfl (Nat.le_of_ble_eq_true rfl) (by decide) (by decide) rfl rfl rfl ?_
  refine wc_putFR (pc' := 56) (a := 0) (k := 3) (b := 53) dX8_init_53 s_0 (by decide) fc_X8_35 (fun q hq => by cases hq; rfl) rfl rfl (fun q => ⟨rfl, rfl⟩) rfl rfl ?_
  refine wp_aload_n (pc' := 57) dX8_init_56 rfl rfl ?_
  refine wc_newO (pc' := 60) (a := 69) (c0 := 0) (T := TX0) dX8_init_57 q428 q429 q108 inX0 tyX0_ok rfl dfX0 s_69 (fresh_u (by decide +kernel)) (fresh_r (by decide +kernel)) (by decide) (by decide) rfl rfl rfl ?_
  refine wp_dup (pc' := 61) dX8_init_60 rfl rfl ?_
  refine wc_callIN (pc' := 64) (As := []) (rest := [.ref 69, .ref 0]) (kc2 := 71) (ks2 := 5572) dX8_init_61 oi_X8_41 (c_10) (by decide) rfl (Nat.le_of_ble_eq_true rfl) (by decide) (by decide) rfl rfl rfl ?_
  refine wc_putFR (pc' := 67) (a := 0) (k := 4) (b := 69) dX8_init_64 s_0 (by decide) fc_X8_42 (fun q hq => by cases hq; rfl) rfl rfl (fun q => ⟨rfl, rfl⟩) rfl rfl ?_
  refine wp_aload_n (pc' := 68) dX8_init_67 rfl rfl ?_
  refine wp_bipush (pc' := 70) (6 : Int32) dX8_init_68 (by decide +kernel) rfl ?_
  refine wc_newA (pc' := 73) (a := 72) dX8_init_70 ⟨by decide +kernel, by decide +kernel⟩ (by decide) q456 s_72 (fresh_r (by decide +kernel)) (by decide) (by decide) rfl rfl rfl ?_
  refine wc_putFR (pc' := 76) (a := 0) (k := 5) (b := 72) dX8_init_73 s_0 (by decide) fc_X8_48 (fun q hq => by cases hq; rfl) rfl rfl (fun q => ⟨rfl, rfl⟩) rfl rfl ?_
  refine wp_iconst (pc' := 77) (0 : Int32) dX8_init_76 (by decide +kernel) rfl ?_
  refine wp_istore_n (pc' := 78) (L' := [some (.ref 0), some (.int (0 : Int32))]) dX8_init_77 (by decide) rfl rfl rfl ?_
  refine wp_iload_n (pc' := 79) dX8_init_78 rfl rfl ?_
  refine wp_bipush (pc' := 81) (6 : Int32) dX8_init_79 (by decide +kernel) rfl ?_
  refine wp_icmp_ge 103 dX8_init_81 rfl rfl (fun h => absurd h (by decide)) (fun _ => ?_)
  refine wp_aload_n (pc' := 85) dX8_init_84 rfl rfl ?_
  refine wc_getR (pc' := 88) (a := 0) (b := 72) dX8_init_85 s_0 (by decide) fc_X8_48 rfl (by decide +kernel) rfl ?_
  refine wp_iload_n (pc' := 89) dX8_init_88 rfl rfl ?_
  refine wc_newO (pc' := 92) (a := 73) (c0 := 5) (T := TX5) dX8_init_89 q456 q458 q109 inX5 tyX5_ok rfl dfX5 s_73 (fresh_u (by decide +kernel)) (fresh_r (by decide +kernel)) (by decide) (by decide) rfl rfl rfl ?_
  refine wp_dup (pc' := 93) dX8_init_92 rfl rfl ?_
  refine wc_callIN (pc' := 96) (As := []) (rest := [.ref 73, .int (0 : Int32), .ref 72]) (kc2 := 74) (ks2 := 5642) dX8_init_93 oi_X8_52 (c_11) (by decide) rfl (Nat.le_of_ble_eq_true rfl) (by decide) (by decide) rfl rfl rfl ?_
  refine wc_aast (pc' := 97) (a := 72) (b := 73) (i := (0 : Int32)) dX8_init_96 s_72 (by decide) (by decide +kernel) s_73 (by decide) ⟨_, rfl⟩ rfl rfl ?_
  refine wp_iinc (pc' := 100) (v := (1 : Int32)) (L' := [some (.ref 0), some (.int (1 : Int32))]) dX8_init_97 rfl (by decide +kernel) (by decide) rfl rfl rfl ?_
  refine wp_goto 78 dX8_init_100 rfl ?_
  refine wp_iload_n (pc' := 79) dX8_init_78 rfl rfl ?_
  refine wp_bipush (pc' := 81) (6 : Int32) dX8_init_79 (by decide +kernel) rfl ?_
  refine wp_icmp_ge 103 dX8_init_81 rfl rfl (fun h => absurd h (by decide)) (fun _ => ?_)
  refine wp_aload_n (pc' := 85) dX8_init_84 rfl rfl ?_
  refine wc_getR (pc' := 88) (a := 0) (b := 72) dX8_init_85 s_0 (by decide) fc_X8_48 rfl (by decide +kernel) rfl ?_
  refine wp_iload_n (pc' := 89) dX8_init_88 rfl rfl ?_
  refine wc_newO (pc' := 92) (a := 75) (c0 := 5) (T := TX5) dX8_init_89 q456 q458 q109 inX5 tyX5_ok rfl dfX5 s_75 (fresh_u (by decide +kernel)) (fresh_r (by decide +kernel)) (by decide) (by decide) rfl rfl rfl ?_
  refine wp_dup (pc' := 93) dX8_init_92 rfl rfl ?_
  refine wc_callIN (pc' := 96) (As := []) (rest := [.ref 75, .int (1 : Int32), .ref 72]) (kc2 := 76) (ks2 := 5706) dX8_init_93 oi_X8_52 (c_12) (by decide) rfl (Nat.le_of_ble_eq_true rfl) (by decide) (by decide) rfl rfl rfl ?_
  refine wc_aast (pc' := 97) (a := 72) (b := 75) (i := (1 : Int32)) dX8_init_96 s_72 (by decide) (by decide +kernel) s_75 (by decide) ⟨_, rfl⟩ rfl rfl ?_
  refine wp_iinc (pc' := 100) (v := (2 : Int32)) (L' := [some (.ref 0), some (.int (2 : Int32))]) dX8_init_97 rfl (by decide +kernel) (by decide) rfl rfl rfl ?_
  refine wp_goto 78 dX8_init_100 rfl ?_
  refine wp_iload_n (pc' := 79) dX8_init_78 rfl rfl ?_
  refine wp_bipush (pc' := 81) (6 : Int32) dX8_init_79 (by decide +kernel) rfl ?_
  refine wp_icmp_ge 103 dX8_init_81 rfl rfl (fun h => absurd h (by decide)) (fun _ => ?_)
  refine wp_aload_n (pc' := 85) dX8_init_84 rfl rfl ?_
  refine wc_getR (pc' := 88) (a := 0) (b := 72) dX8_init_85 s_0 (by decide) fc_X8_48 rfl (by decide +kernel) rfl ?_
  refine wp_iload_n (pc' := 89) dX8_init_88 rfl rfl ?_
  refine wc_newO (pc' := 92) (a := 77) (c0 := 5) (T := TX5) dX8_init_89 q456 q458 q109 inX5 tyX5_ok rfl dfX5 s_77 (fresh_u (by decide +kernel)) (fresh_r (by decide +kernel)) (by decide) (by decide) rfl rfl rfl ?_
  refine wp_dup (pc' := 93) dX8_init_92 rfl rfl ?_
  refine wc_callIN (pc' := 96) (As := []) (rest := [.ref 77, .int (2 : Int32), .ref 72]) (kc2 := 78) (ks2 := 5770) dX8_init_93 oi_X8_52 (c_13) (by decide) rfl (Nat.le_of_ble_eq_true rfl) (by decide) (by decide) rfl rfl rfl ?_
  refine wc_aast (pc' := 97) (a := 72) (b := 77) (i := (2 : Int32)) dX8_init_96 s_72 (by decide) (by decide +kernel) s_77 (by decide) ⟨_, rfl⟩ rfl rfl ?_
  refine wp_iinc (pc' := 100) (v := (3 : Int32)) (L' := [some (.ref 0), some (.int (3 : Int32))]) dX8_init_97 rfl (by decide +kernel) (by decide) rfl rfl rfl ?_
  refine wp_goto 78 dX8_init_100 rfl ?_
  refine wp_iload_n (pc' := 79) dX8_init_78 rfl rfl ?_
  refine wp_bipush (pc' := 81) (6 : Int32) dX8_init_79 (by decide +kernel) rfl ?_
  refine wp_icmp_ge 103 dX8_init_81 rfl rfl (fun h => absurd h (by decide)) (fun _ => ?_)
  refine wp_aload_n (pc' := 85) dX8_init_84 rfl rfl ?_
  refine wc_getR (pc' := 88) (a := 0) (b := 72) dX8_init_85 s_0 (by decide) fc_X8_48 rfl (by decide +kernel) rfl ?_
  refine wp_iload_n (pc' := 89) dX8_init_88 rfl rfl ?_
  refine wc_newO (pc' := 92) (a := 79) (c0 := 5) (T := TX5) dX8_init_89 q456 q458 q109 inX5 tyX5_ok rfl dfX5 s_79 (fresh_u (by decide +kernel)) (fresh_r (by decide +kernel)) (by decide) (by decide) rfl rfl rfl ?_
  refine wp_dup (pc' := 93) dX8_init_92 rfl rfl ?_
  refine wc_callIN (pc' := 96) (As := []) (rest := [.ref 79, .int (3 : Int32), .ref 72]) (kc2 := 80) (ks2 := 5834) dX8_init_93 oi_X8_52 (c_14) (by decide) rfl (Nat.le_of_ble_eq_true rfl) (by decide) (by decide) rfl rfl rfl ?_
  refine wc_aast (pc' := 97) (a := 72) (b := 79) (i := (3 : Int32)) dX8_init_96 s_72 (by decide) (by decide +kernel) s_79 (by decide) ⟨_, rfl⟩ rfl rfl ?_
  refine wp_iinc (pc' := 100) (v := (4 : Int32)) (L' := [some (.ref 0), some (.int (4 : Int32))]) dX8_init_97 rfl (by decide +kernel) (by decide) rfl rfl rfl ?_
  refine wp_goto 78 dX8_init_100 rfl ?_
  refine wp_iload_n (pc' := 79) dX8_init_78 rfl rfl ?_
  refine wp_bipush (pc' := 81) (6 : Int32) dX8_init_79 (by decide +kernel) rfl ?_
  refine wp_icmp_ge 103 dX8_init_81 rfl rfl (fun h => absurd h (by decide)) (fun _ => ?_)
  refine wp_aload_n (pc' := 85) dX8_init_84 rfl rfl ?_
  refine wc_getR (pc' := 88) (a := 0) (b := 72) dX8_init_85 s_0 (by decide) fc_X8_48 rfl (by decide +kernel) rfl ?_
  refine wp_iload_n (pc' := 89) dX8_init_88 rfl rfl ?_
  refine wc_newO (pc' := 92) (a := 81) (c0 := 5) (T := TX5) dX8_init_89 q456 q458 q109 inX5 tyX5_ok rfl dfX5 s_81 (fresh_u (by decide +kernel)) (fresh_r (by decide +kernel)) (by decide) (by decide) rfl rfl rfl ?_
  refine wp_dup (pc' := 93) dX8_init_92 rfl rfl ?_
  refine wc_callIN (pc' := 96) (As := []) (rest := [.ref 81, .int (4 : Int32), .ref 72]) (kc2 := 82) (ks2 := 5898) dX8_init_93 oi_X8_52 (c_15) (by decide) rfl (Nat.le_of_ble_eq_true rfl) (by decide) (by decide) rfl rfl rfl ?_
  refine wc_aast (pc' := 97) (a := 72) (b := 81) (i := (4 : Int32)) dX8_init_96 s_72 (by decide) (by decide +kernel) s_81 (by decide) ⟨_, rfl⟩ rfl rfl ?_
  refine wp_iinc (pc' := 100) (v := (5 : Int32)) (L' := [some (.ref 0), some (.int (5 : Int32))]) dX8_init_97 rfl (by decide +kernel) (by decide) rfl rfl rfl ?_
  refine wp_goto 78 dX8_init_100 rfl ?_
  refine wp_iload_n (pc' := 79) dX8_init_78 rfl rfl ?_
  refine wp_bipush (pc' := 81) (6 : Int32) dX8_init_79 (by decide +kernel) rfl ?_
  refine wp_icmp_ge 103 dX8_init_81 rfl rfl (fun h => absurd h (by decide)) (fun _ => ?_)
  refine wp_aload_n (pc' := 85) dX8_init_84 rfl rfl ?_
  refine wc_getR (pc' := 88) (a := 0) (b := 72) dX8_init_85 s_0 (by decide) fc_X8_48 rfl (by decide +kernel) rfl ?_
  refine wp_iload_n (pc' := 89) dX8_init_88 rfl rfl ?_
  refine wc_newO (pc' := 92) (a := 83) (c0 := 5) (T := TX5) dX8_init_89 q456 q458 q109 inX5 tyX5_ok rfl dfX5 s_83 (fresh_u (by decide +kernel)) (fresh_r (by decide +kernel)) (by decide) (by decide) rfl rfl rfl ?_
  refine wp_dup (pc' := 93) dX8_init_92 rfl rfl ?_
  refine wc_callIN (pc' := 96) (As := []) (rest := [.ref 83, .int (5 : Int32), .ref 72]) (kc2 := 84) (ks2 := 5962) dX8_init_93 oi_X8_52 (c_16) (by decide) rfl (Nat.le_of_ble_eq_true rfl) (by decide) (by decide) rfl rfl rfl ?_
  refine wc_aast (pc' := 97) (a := 72) (b := 83) (i := (5 : Int32)) dX8_init_96 s_72 (by decide) (by decide +kernel) s_83 (by decide) ⟨_, rfl⟩ rfl rfl ?_
  refine wp_iinc (pc' := 100) (v := (6 : Int32)) (L' := [some (.ref 0), some (.int (6 : Int32))]) dX8_init_97 rfl (by decide +kernel) (by decide) rfl rfl rfl ?_
  refine wp_goto 78 dX8_init_100 rfl ?_
  refine wp_iload_n (pc' := 79) dX8_init_78 rfl rfl ?_
  refine wp_bipush (pc' := 81) (6 : Int32) dX8_init_79 (by decide +kernel) rfl ?_
  refine wp_icmp_ge 103 dX8_init_81 rfl rfl (fun _ => ?_) (fun h => absurd (by decide) h)
  exact wp_vret dX8_init_103 rfl (by decide) (by decide) ⟨rfl, rfl, rfl, rfl, rfl⟩
theorem c_17 {g : Gx} : Mx g 1 mi_X9_init [.ref 85] (shF.take 86) (uP 18) wZ (rP 89) (qC 130 27 133) := by
  refine mx_of pn_X9 (Nat.le_of_ble_eq_true rfl) (?_ : Wp g 1 mi_X9_init 0 [some (.ref 85), none] [] 0 0 (shF.take 86) (uP 18) wZ (rP 89) (zM g mi_X9_init (qC 130 27 133)))
  refine wp_aload_n (pc' := 1) dX9_init_0 rfl rfl ?_
  refine wp_objInit (pc' := 4) dX9_init_1 q1150 q126 q127 (by decide) (Nat.le_of_ble_eq_true rfl) rfl ?_
  refine wp_aload_n (pc' := 5) dX9_init_4 rfl rfl ?_
  refine wp_bipush (pc' := 7) (42 : Int32) dX9_init_5 (by decide +kernel) rfl ?_
  refine wc_newI (pc' := 9) (a := 86) dX9_init_7 ⟨by decide +kernel, by decide +kernel⟩ (by decide) q169 s_86 (fresh_u (by decide +kernel)) (by decide) (by decide) rfl rfl rfl ?_
  refine wc_putFR (pc' := 12) (a := 85) (k := 0) (b := 86) dX9_init_9 s_85 (by decide) fc_X9_9 (fun q hq => by cases hq; rfl) rfl rfl (fun q => ⟨rfl, rfl⟩) rfl rfl ?_
  refine wp_aload_n (pc' := 13) dX9_init_12 rfl rfl ?_
  refine wp_bipush (pc' := 15) (40 : Int32) dX9_init_13 (by decide +kernel) rfl ?_
  refine wc_newI (pc' := 17) (a := 87) dX9_init_15 ⟨by decide +kernel, by decide +kernel⟩ (by decide) q169 s_87 (fresh_u (by decide +kernel)) (by decide) (by decide) rfl rfl rfl ?_
  refine wc_putFR (pc' := 20) (a := 85) (k := 1) (b := 87) dX9_init_17 s_85 (by decide) fc_X9_13 (fun q hq => by cases hq; rfl) rfl rfl (fun q => ⟨rfl, rfl⟩) rfl rfl ?_
  refine wp_aload_n (pc' := 21) dX9_init_20 rfl rfl ?_
  refine wp_bipush (pc' := 23) (40 : Int32) dX9_init_21 (by decide +kernel) rfl ?_
  refine wc_newI (pc' := 25) (a := 88) dX9_init_23 ⟨by decide +kernel, by decide +kernel⟩ (by decide) q169 s_88 (fresh_u (by decide +kernel)) (by decide) (by decide) rfl rfl rfl ?_
  refine wc_putFR (pc' := 28) (a := 85) (k := 2) (b := 88) dX9_init_25 s_85 (by decide) fc_X9_16 (fun q hq => by cases hq; rfl) rfl rfl (fun q => ⟨rfl, rfl⟩) rfl rfl ?_
  refine wp_aload_n (pc' := 29) dX9_init_28 rfl rfl ?_
  refine wp_bipush (pc' := 31) (40 : Int32) dX9_init_29 (by decide +kernel) rfl ?_
  refine wc_newI (pc' := 33) (a := 89) dX9_init_31 ⟨by decide +kernel, by decide +kernel⟩ (by decide) q169 s_89 (fresh_u (by decide +kernel)) (by decide) (by decide) rfl rfl rfl ?_
  refine wc_putFR (pc' := 36) (a := 85) (k := 3) (b := 89) dX9_init_33 s_85 (by decide) fc_X9_19 (fun q hq => by cases hq; rfl) rfl rfl (fun q => ⟨rfl, rfl⟩) rfl rfl ?_
  refine wp_aload_n (pc' := 37) dX9_init_36 rfl rfl ?_
  refine wp_bipush (pc' := 39) (10 : Int32) dX9_init_37 (by decide +kernel) rfl ?_
  refine wc_newI (pc' := 41) (a := 90) dX9_init_39 ⟨by decide +kernel, by decide +kernel⟩ (by decide) q169 s_90 (fresh_u (by decide +kernel)) (by decide) (by decide) rfl rfl rfl ?_
  refine wc_putFR (pc' := 44) (a := 85) (k := 7) (b := 90) dX9_init_41 s_85 (by decide) fc_X9_22 (fun q hq => by cases hq; rfl) rfl rfl (fun q => ⟨rfl, rfl⟩) rfl rfl ?_
  refine wp_aload_n (pc' := 45) dX9_init_44 rfl rfl ?_
  refine wp_bipush (pc' := 47) (20 : Int32) dX9_init_45 (by decide +kernel) rfl ?_
  refine wc_newI (pc' := 49) (a := 91) dX9_init_47 ⟨by decide +kernel, by decide +kernel⟩ (by decide) q169 s_91 (fresh_u (by decide +kernel)) (by decide) (by decide) rfl rfl rfl ?_
  refine wc_putFR (pc' := 52) (a := 85) (k := 10) (b := 91) dX9_init_49 s_85 (by decide) fc_X9_25 (fun q hq => by cases hq; rfl) rfl rfl (fun q => ⟨rfl, rfl⟩) rfl rfl ?_
  refine wp_aload_n (pc' := 53) dX9_init_52 rfl rfl ?_
  refine wp_bipush (pc' := 55) (20 : Int32) dX9_init_53 (by decide +kernel) rfl ?_
  refine wc_newI (pc' := 57) (a := 92) dX9_init_55 ⟨by decide +kernel, by decide +kernel⟩ (by decide) q169 s_92 (fresh_u (by decide +kernel)) (by decide) (by decide) rfl rfl rfl ?_
  refine wc_putFR (pc' := 60) (a := 85) (k := 11) (b := 92) dX9_init_57 s_85 (by decide) fc_X9_28 (fun q hq => by cases hq; rfl) rfl rfl (fun q => ⟨rfl, rfl⟩) rfl rfl ?_
  refine wp_aload_n (pc' := 61) dX9_init_60 rfl rfl ?_
  refine wp_bipush (pc' := 63) (20 : Int32) dX9_init_61 (by decide +kernel) rfl ?_
  refine wc_newI (pc' := 65) (a := 93) dX9_init_63 ⟨by decide +kernel, by decide +kernel⟩ (by decide) q169 s_93 (fresh_u (by decide +kernel)) (by decide) (by decide) rfl rfl rfl ?_
  refine wc_putFR (pc' := 68) (a := 85) (k := 12) (b := 93) dX9_init_65 s_85 (by decide) fc_X9_31 (fun q hq => by cases hq; rfl) rfl rfl (fun q => ⟨rfl, rfl⟩) rfl rfl ?_
  refine wp_aload_n (pc' := 69) dX9_init_68 rfl rfl ?_
  refine wp_bipush (pc' := 71) (120 : Int32) dX9_init_69 (by decide +kernel) rfl ?_
  refine wc_newI (pc' := 73) (a := 94) dX9_init_71 ⟨by decide +kernel, by decide +kernel⟩ (by decide) q169 s_94 (fresh_u (by decide +kernel)) (by decide) (by decide) rfl rfl rfl ?_
  refine wc_putFR (pc' := 76) (a := 85) (k := 16) (b := 94) dX9_init_73 s_85 (by decide) fc_X9_34 (fun q hq => by cases hq; rfl) rfl rfl (fun q => ⟨rfl, rfl⟩) rfl rfl ?_
  refine wp_aload_n (pc' := 77) dX9_init_76 rfl rfl ?_
  refine wp_bipush (pc' := 79) (120 : Int32) dX9_init_77 (by decide +kernel) rfl ?_
  refine wc_newI (pc' := 81) (a := 95) dX9_init_79 ⟨by decide +kernel, by decide +kernel⟩ (by decide) q169 s_95 (fresh_u (by decide +kernel)) (by decide) (by decide) rfl rfl rfl ?_
  refine wc_putFR (pc' := 84) (a := 85) (k := 18) (b := 95) dX9_init_81 s_85 (by decide) fc_X9_37 (fun q hq => by cases hq; rfl) rfl rfl (fun q => ⟨rfl, rfl⟩) rfl rfl ?_
  refine wp_aload_n (pc' := 85) dX9_init_84 rfl rfl ?_
  refine wp_bipush (pc' := 87) (8 : Int32) dX9_init_85 (by decide +kernel) rfl ?_
  refine wc_newI (pc' := 89) (a := 96) dX9_init_87 ⟨by decide +kernel, by decide +kernel⟩ (by decide) q169 s_96 (fresh_u (by decide +kernel)) (by decide) (by decide) rfl rfl rfl ?_
  refine wc_putFR (pc' := 92) (a := 85) (k := 25) (b := 96) dX9_init_89 s_85 (by decide) fc_X9_40 (fun q hq => by cases hq; rfl) rfl rfl (fun q => ⟨rfl, rfl⟩) rfl rfl ?_
  refine wp_aload_n (pc' := 93) dX9_init_92 rfl rfl ?_
  refine wp_bipush (pc' := 95) (10 : Int32) dX9_init_93 (by decide +kernel) rfl ?_
  refine wc_newI (pc' := 97) (a := 97) dX9_init_95 ⟨by decide +kernel, by decide +kernel⟩ (by decide) q169 s_97 (fresh_u (by decide +kernel)) (by decide) (by decide) rfl rfl rfl ?_
  refine wc_putFR (pc' := 100) (a := 85) (k := 32) (b := 97) dX9_init_97 s_85 (by decide) fc_X9_43 (fun q hq => by cases hq; rfl) rfl rfl (fun q => ⟨rfl, rfl⟩) rfl rfl ?_
  refine wp_aload_n (pc' := 101) dX9_init_100 rfl rfl ?_
  refine wp_bipush (pc' := 103) (10 : Int32) dX9_init_101 (by decide +kernel) rfl ?_
  refine wc_newI (pc' := 105) (a := 98) dX9_init_103 ⟨by decide +kernel, by decide +kernel⟩ (by decide) q169 s_98 (fresh_u (by decide +kernel)) (by decide) (by decide) rfl rfl rfl ?_
  refine wc_putFR (pc' := 108) (a := 85) (k := 33) (b := 98) dX9_init_105 s_85 (by decide) fc_X9_46 (fun q hq => by cases hq; rfl) rfl rfl (fun q => ⟨rfl, rfl⟩) rfl rfl ?_
  refine wp_aload_n (pc' := 109) dX9_init_108 rfl rfl ?_
  refine wp_bipush (pc' := 111) (10 : Int32) dX9_init_109 (by decide +kernel) rfl ?_
  refine wc_newI (pc' := 113) (a := 99) dX9_init_111 ⟨by decide +kernel, by decide +kernel⟩ (by decide) q169 s_99 (fresh_u (by decide +kernel)) (by decide) (by decide) rfl rfl rfl ?_
  refine wc_putFR (pc' := 116) (a := 85) (k := 34) (b := 99) dX9_init_113 s_85 (by decide) fc_X9_49 (fun q hq => by cases hq; rfl) rfl rfl (fun q => ⟨rfl, rfl⟩) rfl rfl ?_
  refine wp_aload_n (pc' := 117) dX9_init_116 rfl rfl ?_
  refine wp_bipush (pc' := 119) (20 : Int32) dX9_init_117 (by decide +kernel) rfl ?_
  refine wc_newI (pc' := 121) (a := 100) dX9_init_119 ⟨by decide +kernel, by decide +kernel⟩ (by decide) q169 s_100 (fresh_u (by decide +kernel)) (by decide) (by decide) rfl rfl rfl ?_
  refine wc_putFR (pc' := 124) (a := 85) (k := 35) (b := 100) dX9_init_121 s_85 (by decide) fc_X9_52 (fun q hq => by cases hq; rfl) rfl rfl (fun q => ⟨rfl, rfl⟩) rfl rfl ?_
  refine wp_aload_n (pc' := 125) dX9_init_124 rfl rfl ?_
  refine wp_bipush (pc' := 127) (20 : Int32) dX9_init_125 (by decide +kernel) rfl ?_
  refine wc_newI (pc' := 129) (a := 101) dX9_init_127 ⟨by decide +kernel, by decide +kernel⟩ (by decide) q169 s_101 (fresh_u (by decide +kernel)) (by decide) (by decide) rfl rfl rfl ?_
  refine wc_putFR (pc' := 132) (a := 85) (k := 36) (b := 101) dX9_init_129 s_85 (by decide) fc_X9_55 (fun q hq => by cases hq; rfl) rfl rfl (fun q => ⟨rfl, rfl⟩) rfl rfl ?_
  refine wp_aload_n (pc' := 133) dX9_init_132 rfl rfl ?_
  refine wp_bipush (pc' := 135) (6 : Int32) dX9_init_133 (by decide +kernel) rfl ?_
  refine wc_newI (pc' := 137) (a := 102) dX9_init_135 ⟨by decide +kernel, by decide +kernel⟩ (by decide) q169 s_102 (fresh_u (by decide +kernel)) (by decide) (by decide) rfl rfl rfl ?_
  refine wc_putFR (pc' := 140) (a := 85) (k := 37) (b := 102) dX9_init_137 s_85 (by decide) fc_X9_58 (fun q hq => by cases hq; rfl) rfl rfl (fun q => ⟨rfl, rfl⟩) rfl rfl ?_
  refine wp_aload_n (pc' := 141) dX9_init_140 rfl rfl ?_
  refine wp_bipush (pc' := 143) (6 : Int32) dX9_init_141 (by decide +kernel) rfl ?_
  refine wc_newI (pc' := 145) (a := 103) dX9_init_143 ⟨by decide +kernel, by decide +kernel⟩ (by decide) q169 s_103 (fresh_u (by decide +kernel)) (by decide) (by decide) rfl rfl rfl ?_
  refine wc_putFR (pc' := 148) (a := 85) (k := 38) (b := 103) dX9_init_145 s_85 (by decide) fc_X9_61 (fun q hq => by cases hq; rfl) rfl rfl (fun q => ⟨rfl, rfl⟩) rfl rfl ?_
  refine wp_aload_n (pc' := 149) dX9_init_148 rfl rfl ?_
  refine wp_sipush (pc' := 152) (200 : Int32) dX9_init_149 (by decide +kernel) rfl ?_
  refine wc_newI (pc' := 154) (a := 104) dX9_init_152 ⟨by decide +kernel, by decide +kernel⟩ (by decide) q169 s_104 (fresh_u (by decide +kernel)) (by decide) (by decide) rfl rfl rfl ?_
  refine wc_putFR (pc' := 157) (a := 85) (k := 39) (b := 104) dX9_init_154 s_85 (by decide) fc_X9_64 (fun q hq => by cases hq; rfl) rfl rfl (fun q => ⟨rfl, rfl⟩) rfl rfl ?_
  refine wp_aload_n (pc' := 158) dX9_init_157 rfl rfl ?_
  refine wp_sipush (pc' := 161) (200 : Int32) dX9_init_158 (by decide +kernel) rfl ?_
  refine wc_newI (pc' := 163) (a := 105) dX9_init_161 ⟨by decide +kernel, by decide +kernel⟩ (by decide) q169 s_105 (fresh_u (by decide +kernel)) (by decide) (by decide) rfl rfl rfl ?_
  refine wc_putFR (pc' := 166) (a := 85) (k := 40) (b := 105) dX9_init_163 s_85 (by decide) fc_X9_67 (fun q hq => by cases hq; rfl) rfl rfl (fun q => ⟨rfl, rfl⟩) rfl rfl ?_
  refine wp_aload_n (pc' := 167) dX9_init_166 rfl rfl ?_
  refine wp_sipush (pc' := 170) (200 : Int32) dX9_init_167 (by decide +kernel) rfl ?_
  refine wc_newI (pc' := 172) (a := 106) dX9_init_170 ⟨by decide +kernel, by decide +kernel⟩ (by decide) q169 s_106 (fresh_u (by decide +kernel)) (by decide) (by decide) rfl rfl rfl ?_
  refine wc_putFR (pc' := 175) (a := 85) (k := 41) (b := 106) dX9_init_172 s_85 (by decide) fc_X9_70 (fun q hq => by cases hq; rfl) rfl rfl (fun q => ⟨rfl, rfl⟩) rfl rfl ?_
  refine wp_aload_n (pc' := 176) dX9_init_175 rfl rfl ?_
  refine wp_sipush (pc' := 179) (200 : Int32) dX9_init_176 (by decide +kernel) rfl ?_
  refine wc_newI (pc' := 181) (a := 107) dX9_init_179 ⟨by decide +kernel, by decide +kernel⟩ (by decide) q169 s_107 (fresh_u (by decide +kernel)) (by decide) (by decide) rfl rfl rfl ?_
  refine wc_putFR (pc' := 184) (a := 85) (k := 42) (b := 107) dX9_init_181 s_85 (by decide) fc_X9_73 (fun q hq => by cases hq; rfl) rfl rfl (fun q => ⟨rfl, rfl⟩) rfl rfl ?_
  refine wp_aload_n (pc' := 185) dX9_init_184 rfl rfl ?_
  refine wp_sipush (pc' := 188) (200 : Int32) dX9_init_185 (by decide +kernel) rfl ?_
  refine wc_newI (pc' := 190) (a := 108) dX9_init_188 ⟨by decide +kernel, by decide +kernel⟩ (by decide) q169 s_108 (fresh_u (by decide +kernel)) (by decide) (by decide) rfl rfl rfl ?_
  refine wc_putFR (pc' := 193) (a := 85) (k := 43) (b := 108) dX9_init_190 s_85 (by decide) fc_X9_76 (fun q hq => by cases hq; rfl) rfl rfl (fun q => ⟨rfl, rfl⟩) rfl rfl ?_
  refine wp_aload_n (pc' := 194) dX9_init_193 rfl rfl ?_
  refine wp_sipush (pc' := 197) (200 : Int32) dX9_init_194 (by decide +kernel) rfl ?_
  refine wc_newI (pc' := 199) (a := 109) dX9_init_197 ⟨by decide +kernel, by decide +kernel⟩ (by decide) q169 s_109 (fresh_u (by decide +kernel)) (by decide) (by decide) rfl rfl rfl ?_
  refine wc_putFR (pc' := 202) (a := 85) (k := 44) (b := 109) dX9_init_199 s_85 (by decide) fc_X9_79 (fun q hq => by cases hq; rfl) rfl rfl (fun q => ⟨rfl, rfl⟩) rfl rfl ?_
  refine wp_aload_n (pc' := 203) dX9_init_202 rfl rfl ?_
  refine wp_sipush (pc' := 206) (200 : Int32) dX9_init_203 (by decide +kernel) rfl ?_
  refine wc_newI (pc' := 208) (a := 110) dX9_init_206 ⟨by decide +kernel, by decide +kernel⟩ (by decide) q169 s_110 (fresh_u (by decide +kernel)) (by decide) (by decide) rfl rfl rfl ?_
  refine wc_putFR (pc' := 211) (a := 85) (k := 45) (b := 110) dX9_init_208 s_85 (by decide) fc_X9_82 (fun q hq => by cases hq; rfl) rfl rfl (fun q => ⟨rfl, rfl⟩) rfl rfl ?_
  refine wp_aload_n (pc' := 212) dX9_init_211 rfl rfl ?_
  refine wp_bipush (pc' := 214) (10 : Int32) dX9_init_212 (by decide +kernel) rfl ?_
  refine wc_newI (pc' := 216) (a := 111) dX9_init_214 ⟨by decide +kernel, by decide +kernel⟩ (by decide) q169 s_111 (fresh_u (by decide +kernel)) (by decide) (by decide) rfl rfl rfl ?_
  refine wc_putFR (pc' := 219) (a := 85) (k := 50) (b := 111) dX9_init_216 s_85 (by decide) fc_X9_85 (fun q hq => by cases hq; rfl) rfl rfl (fun q => ⟨rfl, rfl⟩) rfl rfl ?_
  refine wp_aload_n (pc' := 220) dX9_init_219 rfl rfl ?_
  refine wp_sipush (pc' := 223) (200 : Int32) dX9_init_220 (by decide +kernel) rfl ?_
  refine wc_newI (pc' := 225) (a := 112) dX9_init_223 ⟨by decide +kernel, by decide +kernel⟩ (by decide) q169 s_112 (fresh_u (by decide +kernel)) (by decide) (by decide) rfl rfl rfl ?_
  refine wc_putFR (pc' := 228) (a := 85) (k := 51) (b := 112) dX9_init_225 s_85 (by decide) fc_X9_88 (fun q hq => by cases hq; rfl) rfl rfl (fun q => ⟨rfl, rfl⟩) rfl rfl ?_
  refine wp_aload_n (pc' := 229) dX9_init_228 rfl rfl ?_
  refine wp_sipush (pc' := 232) (200 : Int32) dX9_init_229 (by decide +kernel) rfl ?_
  refine wc_newI (pc' := 234) (a := 113) dX9_init_232 ⟨by decide +kernel, by decide +kernel⟩ (by decide) q169 s_113 (fresh_u (by decide +kernel)) (by decide) (by decide) rfl rfl rfl ?_
  refine wc_putFR (pc' := 237) (a := 85) (k := 52) (b := 113) dX9_init_234 s_85 (by decide) fc_X9_91 (fun q hq => by cases hq; rfl) rfl rfl (fun q => ⟨rfl, rfl⟩) rfl rfl ?_
  refine wp_aload_n (pc' := 238) dX9_init_237 rfl rfl ?_
  refine wp_sipush (pc' := 241) (200 : Int32) dX9_init_238 (by decide +kernel) rfl ?_
  refine wc_newI (pc' := 243) (a := 114) dX9_init_241 ⟨by decide +kernel, by decide +kernel⟩ (by decide) q169 s_114 (fresh_u (by decide +kernel)) (by decide) (by decide) rfl rfl rfl ?_
  refine wc_putFR (pc' := 246) (a := 85) (k := 53) (b := 114) dX9_init_243 s_85 (by decide) fc_X9_94 (fun q hq => by cases hq; rfl) rfl rfl (fun q => ⟨rfl, rfl⟩) rfl rfl ?_
  refine wp_aload_n (pc' := 247) dX9_init_246 rfl rfl ?_
  refine wp_sipush (pc' := 250) (200 : Int32) dX9_init_247 (by decide +kernel) rfl ?_
  refine wc_newI (pc' := 252) (a := 115) dX9_init_250 ⟨by decide +kernel, by decide +kernel⟩ (by decide) q169 s_115 (fresh_u (by decide +kernel)) (by decide) (by decide) rfl rfl rfl ?_
  refine wc_putFR (pc' := 255) (a := 85) (k := 54) (b := 115) dX9_init_252 s_85 (by decide) fc_X9_97 (fun q hq => by cases hq; rfl) rfl rfl (fun q => ⟨rfl, rfl⟩) rfl rfl ?_
  refine wp_aload_n (pc' := 256) dX9_init_255 rfl rfl ?_
  refine wp_sipush (pc' := 259) (200 : Int32) dX9_init_256 (by decide +kernel) rfl ?_
  refine wc_newI (pc' := 261) (a := 116) dX9_init_259 ⟨by decide +kernel, by decide +kernel⟩ (by decide) q169 s_116 (fresh_u (by decide +kernel)) (by decide) (by decide) rfl rfl rfl ?_
  refine wc_putFR (pc' := 264) (a := 85) (k := 55) (b := 116) dX9_init_261 s_85 (by decide) fc_X9_100 (fun q hq => by cases hq; rfl) rfl rfl (fun q => ⟨rfl, rfl⟩) rfl rfl ?_
  refine wp_aload_n (pc' := 265) dX9_init_264 rfl rfl ?_
  refine wp_sipush (pc' := 268) (200 : Int32) dX9_init_265 (by decide +kernel) rfl ?_
  refine wc_newI (pc' := 270) (a := 117) dX9_init_268 ⟨by decide +kernel, by decide +kernel⟩ (by decide) q169 s_117 (fresh_u (by decide +kernel)) (by decide) (by decide) rfl rfl rfl ?_
  refine wc_putFR (pc' := 273) (a := 85) (k := 56) (b := 117) dX9_init_270 s_85 (by decide) fc_X9_103 (fun q hq => by cases hq; rfl) rfl rfl (fun q => ⟨rfl, rfl⟩) rfl rfl ?_
  refine wp_aload_n (pc' := 274) dX9_init_273 rfl rfl ?_
  refine wp_sipush (pc' := 277) (200 : Int32) dX9_init_274 (by decide +kernel) rfl ?_
  refine wc_newI (pc' := 279) (a := 118) dX9_init_277 ⟨by decide +kernel, by decide +kernel⟩ (by decide) q169 s_118 (fresh_u (by decide +kernel)) (by decide) (by decide) rfl rfl rfl ?_
  refine wc_putFR (pc' := 282) (a := 85) (k := 57) (b := 118) dX9_init_279 s_85 (by decide) fc_X9_106 (fun q hq => by cases hq; rfl) rfl rfl (fun q => ⟨rfl, rfl⟩) rfl rfl ?_
  refine wp_aload_n (pc' := 283) dX9_init_282 rfl rfl ?_
  refine wp_bipush (pc' := 285) (6 : Int32) dX9_init_283 (by decide +kernel) rfl ?_
  refine wc_newI (pc' := 287) (a := 119) dX9_init_285 ⟨by decide +kernel, by decide +kernel⟩ (by decide) q169 s_119 (fresh_u (by decide +kernel)) (by decide) (by decide) rfl rfl rfl ?_
  refine wc_putFR (pc' := 290) (a := 85) (k := 58) (b := 119) dX9_init_287 s_85 (by decide) fc_X9_109 (fun q hq => by cases hq; rfl) rfl rfl (fun q => ⟨rfl, rfl⟩) rfl rfl ?_
  refine wp_aload_n (pc' := 291) dX9_init_290 rfl rfl ?_
  refine wp_bipush (pc' := 293) (6 : Int32) dX9_init_291 (by decide +kernel) rfl ?_
  refine wc_newI (pc' := 295) (a := 120) dX9_init_293 ⟨by decide +kernel, by decide +kernel⟩ (by decide) q169 s_120 (fresh_u (by decide +kernel)) (by decide) (by decide) rfl rfl rfl ?_
  refine wc_putFR (pc' := 298) (a := 85) (k := 59) (b := 120) dX9_init_295 s_85 (by decide) fc_X9_112 (fun q hq => by cases hq; rfl) rfl rfl (fun q => ⟨rfl, rfl⟩) rfl rfl ?_
  refine wp_aload_n (pc' := 299) dX9_init_298 rfl rfl ?_
  refine wp_bipush (pc' := 301) (20 : Int32) dX9_init_299 (by decide +kernel) rfl ?_
  refine wc_newI (pc' := 303) (a := 121) dX9_init_301 ⟨by decide +kernel, by decide +kernel⟩ (by decide) q169 s_121 (fresh_u (by decide +kernel)) (by decide) (by decide) rfl rfl rfl ?_
  refine wc_putFR (pc' := 306) (a := 85) (k := 60) (b := 121) dX9_init_303 s_85 (by decide) fc_X9_115 (fun q hq => by cases hq; rfl) rfl rfl (fun q => ⟨rfl, rfl⟩) rfl rfl ?_
  refine wp_aload_n (pc' := 307) dX9_init_306 rfl rfl ?_
  refine wp_bipush (pc' := 309) (20 : Int32) dX9_init_307 (by decide +kernel) rfl ?_
  refine wc_newI (pc' := 311) (a := 122) dX9_init_309 ⟨by decide +kernel, by decide +kernel⟩ (by decide) q169 s_122 (fresh_u (by decide +kernel)) (by decide) (by decide) rfl rfl rfl ?_
  refine wc_putFR (pc' := 314) (a := 85) (k := 61) (b := 122) dX9_init_311 s_85 (by decide) fc_X9_118 (fun q hq => by cases hq; rfl) rfl rfl (fun q => ⟨rfl, rfl⟩) rfl rfl ?_
  refine wp_aload_n (pc' := 315) dX9_init_314 rfl rfl ?_
  refine wp_bipush (pc' := 317) (10 : Int32) dX9_init_315 (by decide +kernel) rfl ?_
  refine wc_newI (pc' := 319) (a := 123) dX9_init_317 ⟨by decide +kernel, by decide +kernel⟩ (by decide) q169 s_123 (fresh_u (by decide +kernel)) (by decide) (by decide) rfl rfl rfl ?_
  refine wc_putFR (pc' := 322) (a := 85) (k := 62) (b := 123) dX9_init_319 s_85 (by decide) fc_X9_121 (fun q hq => by cases hq; rfl) rfl rfl (fun q => ⟨rfl, rfl⟩) rfl rfl ?_
  refine wp_aload_n (pc' := 323) dX9_init_322 rfl rfl ?_
  refine wp_bipush (pc' := 325) (50 : Int32) dX9_init_323 (by decide +kernel) rfl ?_
  refine wc_newI (pc' := 327) (a := 124) dX9_init_325 ⟨by decide +kernel, by decide +kernel⟩ (by decide) q169 s_124 (fresh_u (by decide +kernel)) (by decide) (by decide) rfl rfl rfl ?_
  refine wc_putFR (pc' := 330) (a := 85) (k := 67) (b := 124) dX9_init_327 s_85 (by decide) fc_X9_124 (fun q hq => by cases hq; rfl) rfl rfl (fun q => ⟨rfl, rfl⟩) rfl rfl ?_
  refine wp_aload_n (pc' := 331) dX9_init_330 rfl rfl ?_
  refine wp_bipush (pc' := 333) (24 : Int32) dX9_init_331 (by decide +kernel) rfl ?_
  refine wc_newI (pc' := 335) (a := 125) dX9_init_333 ⟨by decide +kernel, by decide +kernel⟩ (by decide) q169 s_125 (fresh_u (by decide +kernel)) (by decide) (by decide) rfl rfl rfl ?_
  refine wc_putFR (pc' := 338) (a := 85) (k := 68) (b := 125) dX9_init_335 s_85 (by decide) fc_X9_127 (fun q hq => by cases hq; rfl) rfl rfl (fun q => ⟨rfl, rfl⟩) rfl rfl ?_
  refine wp_aload_n (pc' := 339) dX9_init_338 rfl rfl ?_
  refine wp_bipush (pc' := 341) (6 : Int32) dX9_init_339 (by decide +kernel) rfl ?_
  refine wc_newI (pc' := 343) (a := 126) dX9_init_341 ⟨by decide +kernel, by decide +kernel⟩ (by decide) q169 s_126 (fresh_u (by decide +kernel)) (by decide) (by decide) rfl rfl rfl ?_
  refine wc_putFR (pc' := 346) (a := 85) (k := 72) (b := 126) dX9_init_343 s_85 (by decide) fc_X9_130 (fun q hq => by cases hq; rfl) rfl rfl (fun q => ⟨rfl, rfl⟩) rfl rfl ?_
  refine wp_aload_n (pc' := 347) dX9_init_346 rfl rfl ?_
  refine wp_bipush (pc' := 349) (6 : Int32) dX9_init_347 (by decide +kernel) rfl ?_
  refine wc_newI (pc' := 351) (a := 127) dX9_init_349 ⟨by decide +kernel, by decide +kernel⟩ (by decide) q169 s_127 (fresh_u (by decide +kernel)) (by decide) (by decide) rfl rfl rfl ?_
  refine wc_putFR (pc' := 354) (a := 85) (k := 73) (b := 127) dX9_init_351 s_85 (by decide) fc_X9_133 (fun q hq => by cases hq; rfl) rfl rfl (fun q => ⟨rfl, rfl⟩) rfl rfl ?_
  refine wp_aload_n (pc' := 355) dX9_init_354 rfl rfl ?_
  refine wp_sipush (pc' := 358) (360 : Int32) dX9_init_355 (by decide +kernel) rfl ?_
  refine wc_newL (pc' := 360) (a := 128) dX9_init_358 ⟨by decide +kernel, by decide +kernel⟩ (by decide) q482 s_128 (by decide) (by decide) rfl rfl rfl ?_
  refine wc_putFR (pc' := 363) (a := 85) (k := 74) (b := 128) dX9_init_360 s_85 (by decide) fc_X9_136 (fun q hq => by cases hq; rfl) rfl rfl (fun q => ⟨rfl, rfl⟩) rfl rfl ?_
  refine wp_aload_n (pc' := 364) dX9_init_363 rfl rfl ?_
  refine wp_bipush (pc' := 366) (60 : Int32) dX9_init_364 (by decide +kernel) rfl ?_
  refine wc_newL (pc' := 368) (a := 129) dX9_init_366 ⟨by decide +kernel, by decide +kernel⟩ (by decide) q482 s_129 (by decide) (by decide) rfl rfl rfl ?_
  refine wc_putFR (pc' := 371) (a := 85) (k := 75) (b := 129) dX9_init_368 s_85 (by decide) fc_X9_140 (fun q hq => by cases hq; rfl) rfl rfl (fun q => ⟨rfl, rfl⟩) rfl rfl ?_
  refine wp_iconst (pc' := 372) (0 : Int32) dX9_init_371 (by decide +kernel) rfl ?_
  refine wp_istore_n (pc' := 373) (L' := [some (.ref 85), some (.int (0 : Int32))]) dX9_init_372 (by decide) rfl rfl rfl ?_
  refine wp_iload_n (pc' := 374) dX9_init_373 rfl rfl ?_
  refine wp_bipush (pc' := 376) (6 : Int32) dX9_init_374 (by decide +kernel) rfl ?_
  refine wp_icmp_ge 392 dX9_init_376 rfl rfl (fun h => absurd h (by decide)) (fun _ => ?_)
  refine wp_aload_n (pc' := 380) dX9_init_379 rfl rfl ?_
  refine wc_getR (pc' := 383) (a := 85) (b := 126) dX9_init_380 s_85 (by decide) fc_X9_130 rfl (by decide +kernel) rfl ?_
  refine wp_iload_n (pc' := 384) dX9_init_383 rfl rfl ?_
  refine wp_iconst (pc' := 385) (-1 : Int32) dX9_init_384 (by decide +kernel) rfl ?_
  refine wc_iast (pc' := 386) (a := 126) (i := (0 : Int32)) (x := (-1 : Int32)) dX9_init_385 s_126 (by decide) (by decide +kernel) rfl rfl ?_
  refine wp_iinc (pc' := 389) (v := (1 : Int32)) (L' := [some (.ref 85), some (.int (1 : Int32))]) dX9_init_386 rfl (by decide +kernel) (by decide) rfl rfl rfl ?_
  refine wp_goto 373 dX9_init_389 rfl ?_
  refine wp_iload_n (pc' := 374) dX9_init_373 rfl rfl ?_
  refine wp_bipush (pc' := 376) (6 : Int32) dX9_init_374 (by decide +kernel) rfl ?_
  refine wp_icmp_ge 392 dX9_init_376 rfl rfl (fun h => absurd h (by decide)) (fun _ => ?_)
  refine wp_aload_n (pc' := 380) dX9_init_379 rfl rfl ?_
  refine wc_getR (pc' := 383) (a := 85) (b := 126) dX9_init_380 s_85 (by decide) fc_X9_130 rfl (by decide +kernel) rfl ?_
  refine wp_iload_n (pc' := 384) dX9_init_383 rfl rfl ?_
  refine wp_iconst (pc' := 385) (-1 : Int32) dX9_init_384 (by decide +kernel) rfl ?_
  refine wc_iast (pc' := 386) (a := 126) (i := (1 : Int32)) (x := (-1 : Int32)) dX9_init_385 s_126 (by decide) (by decide +kernel) rfl rfl ?_
  refine wp_iinc (pc' := 389) (v := (2 : Int32)) (L' := [some (.ref 85), some (.int (2 : Int32))]) dX9_init_386 rfl (by decide +kernel) (by decide) rfl rfl rfl ?_
  refine wp_goto 373 dX9_init_389 rfl ?_
  refine wp_iload_n (pc' := 374) dX9_init_373 rfl rfl ?_
  refine wp_bipush (pc' := 376) (6 : Int32) dX9_init_374 (by decide +kernel) rfl ?_
  refine wp_icmp_ge 392 dX9_init_376 rfl rfl (fun h => absurd h (by decide)) (fun _ => ?_)
  refine wp_aload_n (pc' := 380) dX9_init_379 rfl rfl ?_
  refine wc_getR (pc' := 383) (a := 85) (b := 126) dX9_init_380 s_85 (by decide) fc_X9_130 rfl (by decide +kernel) rfl ?_
  refine wp_iload_n (pc' := 384) dX9_init_383 rfl rfl ?_
  refine wp_iconst (pc' := 385) (-1 : Int32) dX9_init_384 (by decide +kernel) rfl ?_
  refine wc_iast (pc' := 386) (a := 126) (i := (2 : Int32)) (x := (-1 : Int32)) dX9_init_385 s_126 (by decide) (by decide +kernel) rfl rfl ?_
  refine wp_iinc (pc' := 389) (v := (3 : Int32)) (L' := [some (.ref 85), some (.int (3 : Int32))]) dX9_init_386 rfl (by decide +kernel) (by decide) rfl rfl rfl ?_
  refine wp_goto 373 dX9_init_389 rfl ?_
  refine wp_iload_n (pc' := 374) dX9_init_373 rfl rfl ?_
  refine wp_bipush (pc' := 376) (6 : Int32) dX9_init_374 (by decide +kernel) rfl ?_
  refine wp_icmp_ge 392 dX9_init_376 rfl rfl (fun h => absurd h (by decide)) (fun _ => ?_)
  refine wp_aload_n (pc' := 380) dX9_init_379 rfl rfl ?_
  refine wc_getR (pc' := 383) (a := 85) (b := 126) dX9_init_380 s_85 (by decide) fc_X9_130 rfl (by decide +kernel) rfl ?_
  refine wp_iload_n (pc' := 384) dX9_init_383 rfl rfl ?_
  refine wp_iconst (pc' := 385) (-1 : Int32) dX9_init_384 (by decide +kernel) rfl ?_
  refine wc_iast (pc' := 386) (a := 126) (i := (3 : Int32)) (x := (-1 : Int32)) dX9_init_385 s_126 (by decide) (by decide +kernel) rfl rfl ?_
  refine wp_iinc (pc' := 389) (v := (4 : Int32)) (L' := [some (.ref 85), some (.int (4 : Int32))]) dX9_init_386 rfl (by decide +kernel) (by decide) rfl rfl rfl ?_
  refine wp_goto 373 dX9_init_389 rfl ?_
  refine wp_iload_n (pc' := 374) dX9_init_373 rfl rfl ?_
  refine wp_bipush (pc' := 376) (6 : Int32) dX9_init_374 (by decide +kernel) rfl ?_
  refine wp_icmp_ge 392 dX9_init_376 rfl rfl (fun h => absurd h (by decide)) (fun _ => ?_)
  refine wp_aload_n (pc' := 380) dX9_init_379 rfl rfl ?_
  refine wc_getR (pc' := 383) (a := 85) (b := 126) dX9_init_380 s_85 (by decide) fc_X9_130 rfl (by decide +kernel) rfl ?_
  refine wp_iload_n (pc' := 384) dX9_init_383 rfl rfl ?_
  refine wp_iconst (pc' := 385) (-1 : Int32) dX9_init_384 (by decide +kernel) rfl ?_
  refine wc_iast (pc' := 386) (a := 126) (i := (4 : Int32)) (x := (-1 : Int32)) dX9_init_385 s_126 (by decide) (by decide +kernel) rfl rfl ?_
  refine wp_iinc (pc' := 389) (v := (5 : Int32)) (L' := [some (.ref 85), some (.int (5 : Int32))]) dX9_init_386 rfl (by decide +kernel) (by decide) rfl rfl rfl ?_
  refine wp_goto 373 dX9_init_389 rfl ?_
  refine wp_iload_n (pc' := 374) dX9_init_373 rfl rfl ?_
  refine wp_bipush (pc' := 376) (6 : Int32) dX9_init_374 (by decide +kernel) rfl ?_
  refine wp_icmp_ge 392 dX9_init_376 rfl rfl (fun h => absurd h (by decide)) (fun _ => ?_)
  refine wp_aload_n (pc' := 380) dX9_init_379 rfl rfl ?_
  refine wc_getR (pc' := 383) (a := 85) (b := 126) dX9_init_380 s_85 (by decide) fc_X9_130 rfl (by decide +kernel) rfl ?_
  refine wp_iload_n (pc' := 384) dX9_init_383 rfl rfl ?_
  refine wp_iconst (pc' := 385) (-1 : Int32) dX9_init_384 (by decide +kernel) rfl ?_
  refine wc_iast (pc' := 386) (a := 126) (i := (5 : Int32)) (x := (-1 : Int32)) dX9_init_385 s_126 (by decide) (by decide +kernel) rfl rfl ?_
  refine wp_iinc (pc' := 389) (v := (6 : Int32)) (L' := [some (.ref 85), some (.int (6 : Int32))]) dX9_init_386 rfl (by decide +kernel) (by decide) rfl rfl rfl ?_
  refine wp_goto 373 dX9_init_389 rfl ?_
  refine wp_iload_n (pc' := 374) dX9_init_373 rfl rfl ?_
  refine wp_bipush (pc' := 376) (6 : Int32) dX9_init_374 (by decide +kernel) rfl ?_
  refine wp_icmp_ge 392 dX9_init_376 rfl rfl (fun _ => ?_) (fun h => absurd (by decide) h)
  refine wp_aload_n (pc' := 393) dX9_init_392 rfl rfl ?_
  refine wp_iconst (pc' := 394) (-1 : Int32) dX9_init_393 (by decide +kernel) rfl ?_
  refine wc_putI (pc' := 397) (a := 85) (k := 19) (x := (-1 : Int32)) dX9_init_394 s_85 (by decide) fc_X9_143 rfl rfl rfl ?_
  refine wp_aload_n (pc' := 398) dX9_init_397 rfl rfl ?_
  refine wp_iconst (pc' := 399) (3 : Int32) dX9_init_398 (by decide +kernel) rfl ?_
  refine wc_putI (pc' := 402) (a := 85) (k := 15) (x := (3 : Int32)) dX9_init_399 s_85 (by decide) fc_X9_147 rfl rfl rfl ?_
  refine wp_aload_n (pc' := 403) dX9_init_402 rfl rfl ?_
  refine wp_iconst (pc' := 404) (-1 : Int32) dX9_init_403 (by decide +kernel) rfl ?_
  refine wc_putI (pc' := 407) (a := 85) (k := 46) (x := (-1 : Int32)) dX9_init_404 s_85 (by decide) fc_X9_150 rfl rfl rfl ?_
  exact wp_vret dX9_init_407 rfl (by decide) (by decide) ⟨rfl, rfl, rfl, rfl, rfl⟩
