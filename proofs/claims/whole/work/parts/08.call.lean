/-! CALLS, RETURNS, STATICS over the pure world -/
def mWs (mi : Mi) : List Cond := Cond.code (miY mi) (miC mi) (miL mi) (miR mi) :: TBg
def mRm (d : Nat) (mi : Mi) : Room := { frames := d, cells := miK mi, slots := miM mi, locals := 64 * d + 64 }
def wPre (g : Gx) (sh : Sh) (u : UI) (w : UL) (r : UR) (U : State) : Prop := (U.heap.size = gB g + sh.length ∧ sh.length ≤ 1000) ∧ va_P (gD g) vwCl (w_ws g sh u w r) U.heap ∧ va_K (gD g) vwCl (gT g) U ∧ Sx g U U.heap
/-- a method's contract at one world -/
def Mx (g : Gx) (d : Nat) (mi : Mi) (args : List Value) (sh : Sh) (u : UI) (w : UL) (r : UR) (Q : Option Value → Sh → UI → UL → UR → Prop) : Prop :=
  Met (gL g) (miY mi) (mWs mi) (mRm d mi) (va_Pc (args.map (tr g)) (wPre g sh u w r)) (w_Q g (miK mi) Q) (miK mi) (miM mi) (gA g)
theorem w_lo {g : Gx} {sh : Sh} {u : UI} {w : UL} {r : UR} {H0 H : Heap} {locs : List Loc} (hB : gB g ≤ H0.size) (hP : va_P (gD g) vwCl (w_ws g sh u w r) H) (hS : va_S (gA g) H0 H locs) : gB g + sh.length ≤ H.size := by
  cases hl : sh.length with
  | zero => exact Nat.le_trans hB hS.1
  | succ n =>
    have hs : sh[n]? = some (sh[n]'(by omega)) := List.getElem?_eq_getElem _
    have := (hP n _ (w_ws_at (g := g) (u := u) (w := w) (r := r) hs)).lt
    simp only at this
    omega
theorem w_size {p : Program} {l : Launch} {e : Env} {R : Room} {s : State} {m : MethodId} {args : Array Value} {below : List Frame} {meth : Method} {c : Code} {H : Heap} {locs : List Loc} {kc ks : Nat} {Q : State → Prop} {gf : JFrame} {g : Gx} {sh : Sh} {u : UI} {w : UL} {r : UR}
    (hB : gB g ≤ s.heap.size) (hz : s.heap.size + kc = gB g + sh.length) (hP : va_P (gD g) vwCl (w_ws g sh u w r) H) (hS : va_S (gA g) s.heap H locs) (k : H.size = gB g + sh.length → W p l e R s m args below meth c H locs kc ks Q gf) : W p l e R s m args below meth c H locs kc ks Q gf := by
  intro T hT X
  have h1 := X.heapSize
  rw [hT] at h1
  have h2 := w_lo hB hP hS
  exact k (by omega) T hT X
def fl1 (v : Value) : List (Option Value) := if v.category == 2 then [some v, none] else [some v]
theorem eL_eq (n : Nat) (vs : List Value) : eL n vs = vs.flatMap fl1 ++ List.replicate (n - (vs.flatMap fl1).length) none := rfl
theorem fl_args {g : Gx} : ∀ (vs : List Value) (off i : Nat) (v : Value), (vs.flatMap fl1)[i]? = some (some v) → (off + i, tr g v) ∈ lv_args off (vs.map (tr g)) := by
  intro vs
  induction vs with
  | nil => intro off i v h; simp at h
  | cons a t ih =>
    intro off i v h
    rw [List.flatMap_cons] at h
    rw [List.map_cons, lv_args, tr_cat]
    by_cases hc : a.category = 2
    · have h1 : fl1 a = [some a, none] := by simp [fl1, hc]
      rw [h1] at h
      rw [if_pos hc]
      match i with
      | 0 => simp at h; subst h; exact List.mem_cons_self
      | 1 => simp at h
      | j + 2 =>
        have h2 : (t.flatMap fl1)[j]? = some (some v) := by simpa using h
        have := ih (off + 2) j v h2
        rw [show off + 2 + j = off + (j + 2) by omega] at this
        exact List.mem_cons_of_mem _ this
    · have h1 : fl1 a = [some a] := by simp [fl1, hc]
      rw [h1] at h
      rw [if_neg hc]
      match i with
      | 0 => simp at h; subst h; exact List.mem_cons_self
      | j + 1 =>
        have h2 : (t.flatMap fl1)[j]? = some (some v) := by simpa using h
        have := ih (off + 1) j v h2
        rw [show off + 1 + j = off + (j + 1) by omega] at this
        exact List.mem_cons_of_mem _ this
theorem lg_len (g : Gx) (vs : List Value) : (lg_sl (vs.map (tr g))).length = (lg_sl vs).length := by
  induction vs with
  | nil => rfl
  | cons a t ih =>
    rw [List.map_cons]
    unfold lg_sl at ih ⊢
    rw [List.flatMap_cons, List.flatMap_cons, List.length_append, List.length_append, ih, tr_cat]
    split <;> rfl
theorem entry_has {g : Gx} {vs : List Value} {n : Nat} (h : (lg_sl vs).length ≤ n) : lv_has ((lg_sl (vs.map (tr g)) ++ List.replicate (n - (lg_sl (vs.map (tr g))).length) Slot.unset).toArray) n (w_L g (eL n vs)) := by
  have h1 := lv_entry (vs.map (tr g)) (n := n) (by rw [lg_len]; exact h)
  refine ⟨h1.1, h1.2.1, fun q hq => h1.2.2 q ?_⟩
  obtain ⟨v, h2, h3⟩ := w_L_mem.mp hq
  obtain ⟨i, y⟩ := q
  simp only at h2 h3
  subst h3
  rw [eL_eq] at h2
  have h4 : (vs.flatMap fl1)[i]? = some (some v) := by
    rw [List.getElem?_append] at h2
    split at h2
    · exact h2
    · rw [List.getElem?_replicate] at h2
      split at h2 <;> cases h2
  have := fl_args (g := g) vs 0 i v h4
  rwa [Nat.zero_add] at this
theorem mx_of {g : Gx} {d : Nat} {mi : Mi} {args : List Value} {sh : Sh} {u : UI} {w : UL} {r : UR} {Q : Option Value → Sh → UI → UL → UR → Prop} (hp : plainName (miY mi).cls = true) (hn : (lg_sl args).length ≤ miL mi) (k : Wp g d mi 0 (eL (miL mi) args) [] 0 0 sh u w r (zM g mi Q)) : Mx g d mi args sh u w r Q := by
  refine Met.ofW (cc := miC mi) (maxL := miL mi) (ret := miR mi) hp rfl ?_
  intro p e s m args0 below meth c s₁ B hml hv
  obtain ⟨rfl, ⟨hz, hl⟩, hP, hK, hX⟩ := hv
  have hts := atoms_spec (ws := mWs mi) B.pre
  rw [lg_entry_eq]
  exact k p e (mRm d mi) s m _ below meth c ⟨⟨B.exec, B.bytes, hml, B.returns, B.notSynchronized, fun h => (name_of_methodNamed B.named B.method).1.trans h⟩, ⟨findClass_of_methodNamed B.named, fun w hw => hts w (List.mem_cons_of_mem _ hw), hK, by omega, hX⟩, Nat.le_refl _, Nat.le_refl _, Nat.le_refl _, Nat.le_refl _⟩ s.heap [] _ ⟨by omega, hl⟩ hP va_S.rf (entry_has hn)
theorem mx_imp {g : Gx} {d : Nat} {mi : Mi} {args : List Value} {sh : Sh} {u : UI} {w : UL} {r : UR} {Q Q' : Option Value → Sh → UI → UL → UR → Prop} (h : Wp g d mi 0 (eL (miL mi) args) [] 0 0 sh u w r (zM g mi Q)) (hq : ∀ v sh u w r, Q v sh u w r → Q' v sh u w r) : Wp g d mi 0 (eL (miL mi) args) [] 0 0 sh u w r (zM g mi Q') := by
  intro p e R s m args below meth c F H locs ls hz hP hS hl T hT X
  obtain ⟨t, a, o, b1, b2, ⟨⟨v, sh, u, w, r, c1, c2, c3⟩, c4⟩, b4⟩ := h p e R s m args below meth c F H locs ls hz hP hS hl T hT X
  exact ⟨t, a, o, b1, b2, ⟨⟨v, sh, u, w, r, c1, hq _ _ _ _ _ c2, c3⟩, c4⟩, b4⟩
section
variable {g : Gx} {d : Nat} {mi : Mi} {pc pc' : Nat} {L : List (Option Value)} {st : List Value} {kc ks : Nat} {sh : Sh} {u : UI} {w : UL} {r : UR} {Z : En} {Q : Option Value → Sh → UI → UL → UR → Prop}
-- returns
theorem wp_iret {v : Int32} (hd : decode (miC mi) pc = .ok (.ireturn, 1)) (hr : miR mi = some .int) (hk : kc = miK mi) (hs : ks ≤ miM mi) (hq : Q (some (.int v)) sh u w r) : Wp g d mi pc L [.int v] kc ks sh u w r (zM g mi Q) := by
  intro p e R s m args below meth c F H locs ls hz hP hS hl
  refine W.widen (Nat.le_of_eq hk) hs ?_
  exact W.iret F.1.1 F.1.2.1 (F.1.2.2.2.1.trans hr) (fun t ht hW => ⟨⟨some (.int v), sh, u, w, r, rfl, hq, by rw [ht]; exact hP, by omega, hz.2⟩, hS.F ht⟩) hS.2.2 hd F.1.2.2.2.2.1
theorem wp_zret {v : Int32} (hd : decode (miC mi) pc = .ok (.ireturn, 1)) (hr : miR mi = some .boolean) (hb : v &&& 1 = v) (hk : kc = miK mi) (hs : ks ≤ miM mi) (hq : Q (some (.int v)) sh u w r) : Wp g d mi pc L [.int v] kc ks sh u w r (zM g mi Q) := by
  intro p e R s m args below meth c F H locs ls hz hP hS hl
  refine W.widen (Nat.le_of_eq hk) hs ?_
  exact W.zret F.1.1 F.1.2.1 (F.1.2.2.2.1.trans hr) (by simp [narrow, hb]) (fun t ht hW => ⟨⟨some (.int v), sh, u, w, r, rfl, hq, by rw [ht]; exact hP, by omega, hz.2⟩, hS.F ht⟩) hS.2.2 hd F.1.2.2.2.2.1
theorem wp_lret {v : Int64} (hd : decode (miC mi) pc = .ok (.lreturn, 1)) (hr : miR mi = some .long) (hk : kc = miK mi) (hs : ks ≤ miM mi) (hq : Q (some (.long v)) sh u w r) : Wp g d mi pc L [.long v] kc ks sh u w r (zM g mi Q) := by
  intro p e R s m args below meth c F H locs ls hz hP hS hl
  refine W.widen (Nat.le_of_eq hk) hs ?_
  exact W.lret F.1.1 F.1.2.1 (F.1.2.2.2.1.trans hr) (fun t ht hW => ⟨⟨some (.long v), sh, u, w, r, rfl, hq, by rw [ht]; exact hP, by omega, hz.2⟩, hS.F ht⟩) hS.2.2 hd F.1.2.2.2.2.1
theorem wp_vret (hd : decode (miC mi) pc = .ok (.return_, 1)) (hr : miR mi = none) (hk : kc = miK mi) (hs : ks ≤ miM mi) (hq : Q none sh u w r) : Wp g d mi pc L [] kc ks sh u w r (zM g mi Q) := by
  intro p e R s m args below meth c F H locs ls hz hP hS hl
  refine W.widen (Nat.le_of_eq hk) hs ?_
  exact W.vret F.1.1 F.1.2.1 (F.1.2.2.2.1.trans hr) (fun t ht hW => ⟨⟨none, sh, u, w, r, rfl, hq, by rw [ht]; exact hP, by omega, hz.2⟩, hS.F ht⟩) hS.2.2 hd F.1.2.2.2.2.1
theorem wp_aret {a : Nat} {t : FieldType} (hd : decode (miC mi) pc = .ok (.areturn, 1)) (hr : miR mi = some (.array t)) (hk : kc = miK mi) (hs : ks ≤ miM mi) (hq : Q (some (.ref a)) sh u w r) : Wp g d mi pc L [.ref a] kc ks sh u w r (zM g mi Q) := by
  intro p e R s m args below meth c F H locs ls hz hP hS hl
  refine W.widen (Nat.le_of_eq hk) hs ?_
  exact W.aret F.1.1 F.1.2.1 (F.1.2.2.2.1.trans hr) (Or.inr ⟨t, rfl⟩) (Or.inr ⟨_, rfl⟩) (fun t ht hW => ⟨⟨some (.ref a), sh, u, w, r, rfl, hq, by rw [ht]; exact hP, by omega, hz.2⟩, hS.F ht⟩) hS.2.2 hd F.1.2.2.2.2.1
-- calls
theorem w_blind {av : List Value} : FrameBlind (va_Pc av (wPre g sh u w r)) := by
  intro a U gf mk q
  obtain ⟨q0, q1, q2, q3, q4⟩ := q
  exact ⟨q0, q1, q2, va_K.moved (u := U) (U := U.calling gf mk a) (Vm.Alike.refl U.vm) q3, q4.same (U := U.calling gf mk a) rfl rfl⟩
theorem w_pre {p : Program} {R : Room} {s : State} {m : MethodId} {args : Array Value} {meth : Method} {c : Code} {H : Heap} {locs : List Loc} (F : Fx g d mi R p s m args meth c) (hsz : H.size = gB g + sh.length) (hl : sh.length ≤ 1000) (hP : va_P (gD g) vwCl (w_ws g sh u w r) H) (hS : va_S (gA g) s.heap H locs) (As : List Value) :
    ∀ U : State, U.heap = H → s.WarmedH U.vm → va_Pc (As.map (tr g)) (wPre g sh u w r) (As.map (tr g)).toArray U := fun U hU hW =>
  ⟨rfl, ⟨by rw [hU]; exact hsz, hl⟩, by rw [hU]; exact hP, va_K.moved hW.alike F.2.1.2.2.1, F.2.1.2.2.2.2.to F.2.1.2.2.2.1 hS hU hW⟩
/-- behind a call -/
theorem w_back {p : Program} {e : Env} {R : Room} {s : State} {m : MethodId} {args : Array Value} {below : List Frame} {meth : Method} {c : Code} {H : Heap} {locs : List Loc} {ls : Array Slot} {k2 m2 : Nat} {st0 rest : List Value} {a : Array Value} {Qe : State → Prop}
    (hsz : H.size = gB g + sh.length) (hr : va_Run p (gL g) e R s m args below meth c H locs kc ks k2 m2 (F0 m pc ls st0) (rest.map (tr g)) (w_Q g k2 Q a) (gA g)) (hz : s.heap.size + kc = gB g + sh.length) (hS : va_S (gA g) s.heap H locs)
    (kk : ∀ (v : Option Value) (sh' : Sh) (u' : UI) (w' : UL) (r' : UR), Q v sh' u' w' r' → ∀ (H1 : Heap) (locs1 : List Loc), (s.heap.size + (kc + k2) = gB g + sh'.length ∧ sh'.length ≤ 1000) → va_P (gD g) vwCl (w_ws g sh' u' w' r') H1 → va_S (gA g) s.heap H1 locs1 →
      W p (gL g) e R s m args below meth c H1 locs1 (kc + k2) (ks + m2) Qe (F0 m (pc + 3) ls ((v.toList ++ rest).map (tr g)))) : W p (gL g) e R s m args below meth c H locs kc ks Qe (F0 m pc ls st0) := by
  intro T hT X
  obtain ⟨v, st₀, t, T', L, h0, X', hL, e1, e2, ⟨⟨v', sh', u', w', r', ho, hq, hP', hk', hl'⟩, hF1, hF2⟩, st⟩ := hr T hT X
  cases ho
  rw [h0] at hF1 hF2 hk'
  have := kk v' sh' u' w' r' hq T'.heap (locs ++ L) ⟨by omega, hl'⟩ (by rw [e1]; exact hP')
    ⟨Nat.le_trans hS.1 (by rw [e1]; exact hF1), fun q h1 h2 => by rw [e1, hF2 q (Nat.lt_of_lt_of_le h1 hS.1) h2]; exact hS.2.1 q h1 h2, fun q hq => by
      rcases List.mem_append.mp hq with h | h
      · exact hS.2.2 q h
      · exact hL q h⟩ T' rfl X'
  obtain ⟨t2, a1, b1⟩ := this
  refine ⟨t2, st t2 ?_, b1⟩
  have h9 : (v'.map (tr g)).toList ++ rest.map (tr g) = (v'.toList ++ rest).map (tr g) := by cases v' <;> simp
  rw [h9]
  exact a1
/-- what a call site needs of the tables: an instance method -/
def OkV (own : String) (idx : Nat) (mi' : Mi) (n : Nat) : Prop :=
  (Cond.methodLink own idx (miY mi') ∈ TBg ∧ Cond.instanceMethod (miY mi') ∈ TBg ∧ Cond.selects (miY mi').cls (miY mi') (miY mi') ∈ TBg ∧ Cond.initialized (miY mi').cls ∈ TBg ∧ Cond.code (miY mi') (miC mi') (miL mi') (miR mi') ∈ TBg) ∧
  ((miY mi').cls ≠ "java/lang/invoke/MethodHandle" ∧ (miY mi').cls ≠ "java/lang/invoke/VarHandle" ∧ (parseMethodDescriptor (miY mi').desc).map (fun d => d.parameters.length) = some n) ∧ miL mi' ≤ 40
def OkS (own : String) (idx : Nat) (mi' : Mi) (n : Nat) : Prop :=
  (Cond.methodLink own idx (miY mi') ∈ TBg ∧ Cond.static (miY mi') ∈ TBg ∧ Cond.initialized (miY mi').cls ∈ TBg ∧ Cond.code (miY mi') (miC mi') (miL mi') (miR mi') ∈ TBg) ∧
  ((miY mi').cls ≠ "java/lang/invoke/MethodHandle" ∧ (miY mi').cls ≠ "java/lang/invoke/VarHandle" ∧ (parseMethodDescriptor (miY mi').desc).map (fun d => d.parameters.length) = some n) ∧ miL mi' ≤ 40
def OkI (own : String) (idx : Nat) (mi' : Mi) (n : Nat) : Prop :=
  (Cond.methodLink own idx (miY mi') ∈ TBg ∧ Cond.instanceMethod (miY mi') ∈ TBg ∧ Cond.initialized (miY mi').cls ∈ TBg ∧ Cond.code (miY mi') (miC mi') (miL mi') none ∈ TBg ∧ (miY mi').name = "<init>" ∧ miR mi' = none) ∧
  ((miY mi').cls ≠ "java/lang/invoke/MethodHandle" ∧ (miY mi').cls ≠ "java/lang/invoke/VarHandle" ∧ (parseMethodDescriptor (miY mi').desc).map (fun d => d.parameters.length) = some n) ∧ miL mi' ≤ 40
/-- of a nest mate: the link stands in 'nests' -/
def OkIN (own : String) (idx : Nat) (mi' : Mi) (host : String) (n : Nat) : Prop :=
  (((own, idx, miY mi', host) : String × Nat × MethodName × String) ∈ nests ∧ Cond.instanceMethod (miY mi') ∈ TBg ∧ Cond.initialized (miY mi').cls ∈ TBg ∧ Cond.code (miY mi') (miC mi') (miL mi') none ∈ TBg ∧ (miY mi').name = "<init>" ∧ miR mi' = none) ∧
  ((miY mi').cls ≠ "java/lang/invoke/MethodHandle" ∧ (miY mi').cls ≠ "java/lang/invoke/VarHandle" ∧ (parseMethodDescriptor (miY mi').desc).map (fun d => d.parameters.length) = some n) ∧ miL mi' ≤ 40
def OkSN (own : String) (idx : Nat) (mi' : Mi) (host : String) (n : Nat) : Prop :=
  (((own, idx, miY mi', host) : String × Nat × MethodName × String) ∈ nests ∧ Cond.static (miY mi') ∈ TBg ∧ Cond.initialized (miY mi').cls ∈ TBg ∧ Cond.code (miY mi') (miC mi') (miL mi') (miR mi') ∈ TBg) ∧
  ((miY mi').cls ≠ "java/lang/invoke/MethodHandle" ∧ (miY mi').cls ≠ "java/lang/invoke/VarHandle" ∧ (parseMethodDescriptor (miY mi').desc).map (fun d => d.parameters.length) = some n) ∧ miL mi' ≤ 40
theorem w_good {mi' : Mi} (h : Cond.code (miY mi') (miC mi') (miL mi') (miR mi') ∈ TBg) : GoodIn TBg (mWs mi') := by
  intro w hw
  rcases List.mem_cons.mp hw with rfl | h1
  · exact ⟨h, tb_good _ h⟩
  · exact ⟨h1, tb_good _ h1⟩
theorem w_sum {st : List Value} : ((st.map (tr g)).map fun v => v.category).sum = (st.map fun v => v.category).sum := by
  rw [List.map_map]
  congr 1
  apply List.map_congr_left
  intro v _
  exact tr_cat g v
theorem wp_callV {idx b cn n d' : Nat} {mi' : Mi} {As rest : List Value} (hd : decode (miC mi) pc = .ok (.invokevirtual idx, 3)) (ok : OkV (miY mi).cls idx mi' As.length) (hM : Mx g d' mi' (.ref b :: As) sh u w r Q) (hdd : d' + 1 ≤ d) (hst : st = As.reverse ++ .ref b :: rest)
    (hb : sh[b]? = some (cn + 3, n)) (hc : ∃ T, vwCl[cn]? = some ((miY mi').cls, T, n)) (hcat : (rest.map fun v => v.category).sum ≤ 8) (hk : kc + miK mi' ≤ miK mi) (hs : ks + miM mi' ≤ miM mi)
    (kk : ∀ (v : Option Value) (sh' : Sh) (u' : UI) (w' : UL) (r' : UR), Q v sh' u' w' r' → Wp g d mi (pc + 3) L (v.toList ++ rest) (kc + miK mi') (ks + miM mi') sh' u' w' r' Z) : Wp g d mi pc L st kc ks sh u w r Z := by
  intro p e R s m args below meth c F H locs ls hz hP hS hl
  subst hst
  obtain ⟨⟨o1, o2, o3, o4, o5⟩, o6, o7⟩ := ok
  obtain ⟨T, hc⟩ := hc
  refine w_size F.2.1.2.2.2.1 hz.1 hP hS (fun hsz => ?_)
  have hwb := w_ws_at (g := g) (u := u) (w := w) (r := r) hb
  rw [w_obj] at hwb
  have hts := F.2.1.2.1
  have cw : CallW R s args (miY mi).cls (miY mi').cls idx (miY mi') (miC mi') (miL mi') (miR mi') (mWs mi') (mRm d' mi') (miK mi') (miM mi') (As.map (tr g)).length :=
    ⟨callB_of _ hts (w_good o5) rfl rfl rfl (hts _ o4) (hts _ o1) ⟨o6.1, o6.2.1, by rw [List.length_map]; exact o6.2.2⟩ ⟨Nat.le_trans hdd F.2.2.1, by have := F.2.2.2.1; simp only [mRm]; omega⟩, hts _ o2, hts _ o3⟩
  refine w_back hsz (va_runV (As := As.map (tr g)) (b := gad g b) (rest := rest.map (tr g)) ⟨F.1.1, F.1.2.1, F.1.2.2.1, F.2.1.1, hts⟩ hM cw ⟨w_blind, ?_, w_pre F hsz hz.2 hP hS (.ref b :: As)⟩ rfl rfl hl.1 ?_ (lv_room (by rw [w_sum]; exact hcat)) hd ⟨Nat.le_trans hk F.2.2.2.2.1, Nat.le_trans hs F.2.2.2.2.2⟩) hz.1 hS (fun v sh' u' w' r' hq H1 locs1 hz1 hP1 hS1 => kk v sh' u' w' r' hq p e R s m args below meth c F H1 locs1 ls hz1 hP1 hS1 hl)
  · rw [gad_at hb hz.2]
    exact va_recv F.2.1.2.2.1 hP hc hwb
  · show (As.reverse ++ .ref b :: rest).map (tr g) = _
    rw [List.map_append, List.map_reverse]; rfl
theorem wp_callS {idx d' : Nat} {mi' : Mi} {As rest : List Value} (hd : decode (miC mi) pc = .ok (.invokestatic idx, 3)) (ok : OkS (miY mi).cls idx mi' As.length) (hM : Mx g d' mi' As sh u w r Q) (hdd : d' + 1 ≤ d) (hst : st = As.reverse ++ rest)
    (hcat : (rest.map fun v => v.category).sum ≤ 8) (hk : kc + miK mi' ≤ miK mi) (hs : ks + miM mi' ≤ miM mi)
    (kk : ∀ (v : Option Value) (sh' : Sh) (u' : UI) (w' : UL) (r' : UR), Q v sh' u' w' r' → Wp g d mi (pc + 3) L (v.toList ++ rest) (kc + miK mi') (ks + miM mi') sh' u' w' r' Z) : Wp g d mi pc L st kc ks sh u w r Z := by
  intro p e R s m args below meth c F H locs ls hz hP hS hl
  subst hst
  obtain ⟨⟨o1, o2, o3, o4⟩, o6, o7⟩ := ok
  refine w_size F.2.1.2.2.2.1 hz.1 hP hS (fun hsz => ?_)
  have hts := F.2.1.2.1
  have cw : CallB R s args (miY mi).cls idx (miY mi') (miC mi') (miL mi') (miR mi') (mWs mi') (mRm d' mi') (miK mi') (miM mi') (As.map (tr g)).length ∧ (Cond.static (miY mi')).before args s = true :=
    ⟨callB_of _ hts (w_good o4) rfl rfl rfl (hts _ o3) (hts _ o1) ⟨o6.1, o6.2.1, by rw [List.length_map]; exact o6.2.2⟩ ⟨Nat.le_trans hdd F.2.2.1, by have := F.2.2.2.1; simp only [mRm]; omega⟩, hts _ o2⟩
  refine w_back hsz (va_runS (As := As.map (tr g)) (rest := rest.map (tr g)) ⟨F.1.1, F.1.2.1, F.1.2.2.1, F.2.1.1, hts⟩ hM cw ⟨w_blind, w_pre F hsz hz.2 hP hS As⟩ rfl rfl hl.1 ?_ (lv_room (by rw [w_sum]; exact hcat)) hd ⟨Nat.le_trans hk F.2.2.2.2.1, Nat.le_trans hs F.2.2.2.2.2⟩) hz.1 hS (fun v sh' u' w' r' hq H1 locs1 hz1 hP1 hS1 => kk v sh' u' w' r' hq p e R s m args below meth c F H1 locs1 ls hz1 hP1 hS1 hl)
  show (As.reverse ++ rest).map (tr g) = _
  rw [List.map_append, List.map_reverse]
theorem wp_callI {idx b d' : Nat} {mi' : Mi} {As rest : List Value} (hd : decode (miC mi) pc = .ok (.invokespecial idx, 3)) (ok : OkI (miY mi).cls idx mi' As.length) (hM : Mx g d' mi' (.ref b :: As) sh u w r Q) (hdd : d' + 1 ≤ d) (hst : st = As.reverse ++ .ref b :: rest)
    (hcat : (rest.map fun v => v.category).sum ≤ 8) (hk : kc + miK mi' ≤ miK mi) (hs : ks + miM mi' ≤ miM mi)
    (kk : ∀ (v : Option Value) (sh' : Sh) (u' : UI) (w' : UL) (r' : UR), Q v sh' u' w' r' → Wp g d mi (pc + 3) L (v.toList ++ rest) (kc + miK mi') (ks + miM mi') sh' u' w' r' Z) : Wp g d mi pc L st kc ks sh u w r Z := by
  intro p e R s m args below meth c F H locs ls hz hP hS hl
  subst hst
  obtain ⟨⟨o1, o2, o3, o4, o5, o8⟩, o6, o7⟩ := ok
  refine w_size F.2.1.2.2.2.1 hz.1 hP hS (fun hsz => ?_)
  have hts := F.2.1.2.1
  have cw : CallB R s args (miY mi).cls idx (miY mi') (miC mi') (miL mi') none (mWs mi') (mRm d' mi') (miK mi') (miM mi') (As.map (tr g)).length ∧ (miY mi').name = "<init>" ∧ (Cond.instanceMethod (miY mi')).before args s = true :=
    ⟨callB_of _ hts (w_good (by rw [o8]; exact o4)) (by rw [← o8]; rfl) rfl rfl (hts _ o3) (hts _ o1) ⟨o6.1, o6.2.1, by rw [List.length_map]; exact o6.2.2⟩ ⟨Nat.le_trans hdd F.2.2.1, by have := F.2.2.2.1; simp only [mRm]; omega⟩, o5, hts _ o2⟩
  refine w_back hsz (va_runI (As := As.map (tr g)) (b := gad g b) (rest := rest.map (tr g)) ⟨F.1.1, F.1.2.1, F.1.2.2.1, F.2.1.1, hts⟩ hM cw ⟨w_blind, w_pre F hsz hz.2 hP hS (.ref b :: As)⟩ rfl rfl hl.1 ?_ (lv_room (by rw [w_sum]; exact hcat)) hd ⟨Nat.le_trans hk F.2.2.2.2.1, Nat.le_trans hs F.2.2.2.2.2⟩) hz.1 hS (fun v sh' u' w' r' hq H1 locs1 hz1 hP1 hS1 => kk v sh' u' w' r' hq p e R s m args below meth c F H1 locs1 ls hz1 hP1 hS1 hl)
  show (As.reverse ++ .ref b :: rest).map (tr g) = _
  rw [List.map_append, List.map_reverse]; rfl
theorem wp_callIN {idx b d' : Nat} {mi' : Mi} {host : String} {As rest : List Value} (hd : decode (miC mi) pc = .ok (.invokespecial idx, 3)) (ok : OkIN (miY mi).cls idx mi' host As.length) (hM : Mx g d' mi' (.ref b :: As) sh u w r Q) (hdd : d' + 1 ≤ d) (hst : st = As.reverse ++ .ref b :: rest)
    (hcat : (rest.map fun v => v.category).sum ≤ 8) (hk : kc + miK mi' ≤ miK mi) (hs : ks + miM mi' ≤ miM mi)
    (kk : ∀ (v : Option Value) (sh' : Sh) (u' : UI) (w' : UL) (r' : UR), Q v sh' u' w' r' → Wp g d mi (pc + 3) L (v.toList ++ rest) (kc + miK mi') (ks + miM mi') sh' u' w' r' Z) : Wp g d mi pc L st kc ks sh u w r Z := by
  intro p e R s m args below meth c F H locs ls hz hP hS hl
  subst hst
  obtain ⟨⟨o1, o2, o3, o4, o5, o8⟩, o6, o7⟩ := ok
  refine w_size F.2.1.2.2.2.1 hz.1 hP hS (fun hsz => ?_)
  have hts := F.2.1.2.1
  have hnl := F.2.1.2.2.2.2.2.2.2.2.2.2.1 _ o1
  have cw : va_CN R s args (miY mi).cls idx (miY mi') host (miC mi') (miL mi') none (mWs mi') (mRm d' mi') (miK mi') (miM mi') (As.map (tr g)).length ∧ (miY mi').name = "<init>" ∧ (Cond.instanceMethod (miY mi')).before args s = true :=
    ⟨va_cnB _ hts (w_good (by rw [o8]; exact o4)) (by rw [← o8]; rfl) rfl rfl hnl (hts _ o3) ⟨o6.1, o6.2.1, by rw [List.length_map]; exact o6.2.2⟩ ⟨Nat.le_trans hdd F.2.2.1, by have := F.2.2.2.1; simp only [mRm]; omega⟩, o5, hts _ o2⟩
  refine w_back hsz (va_runIN (As := As.map (tr g)) (b := gad g b) (rest := rest.map (tr g)) ⟨F.1.1, F.1.2.1, F.1.2.2.1, F.2.1.1, hts⟩ hM cw ⟨w_blind, w_pre F hsz hz.2 hP hS (.ref b :: As)⟩ rfl rfl hl.1 ?_ (lv_room (by rw [w_sum]; exact hcat)) hd ⟨Nat.le_trans hk F.2.2.2.2.1, Nat.le_trans hs F.2.2.2.2.2⟩) hz.1 hS (fun v sh' u' w' r' hq H1 locs1 hz1 hP1 hS1 => kk v sh' u' w' r' hq p e R s m args below meth c F H1 locs1 ls hz1 hP1 hS1 hl)
  show (As.reverse ++ .ref b :: rest).map (tr g) = _
  rw [List.map_append, List.map_reverse]; rfl
theorem wp_callSN {idx d' : Nat} {mi' : Mi} {host : String} {As rest : List Value} (hd : decode (miC mi) pc = .ok (.invokestatic idx, 3)) (ok : OkSN (miY mi).cls idx mi' host As.length) (hM : Mx g d' mi' As sh u w r Q) (hdd : d' + 1 ≤ d) (hst : st = As.reverse ++ rest)
    (hcat : (rest.map fun v => v.category).sum ≤ 8) (hk : kc + miK mi' ≤ miK mi) (hs : ks + miM mi' ≤ miM mi)
    (kk : ∀ (v : Option Value) (sh' : Sh) (u' : UI) (w' : UL) (r' : UR), Q v sh' u' w' r' → Wp g d mi (pc + 3) L (v.toList ++ rest) (kc + miK mi') (ks + miM mi') sh' u' w' r' Z) : Wp g d mi pc L st kc ks sh u w r Z := by
  intro p e R s m args below meth c F H locs ls hz hP hS hl
  subst hst
  obtain ⟨⟨o1, o2, o3, o4⟩, o6, o7⟩ := ok
  refine w_size F.2.1.2.2.2.1 hz.1 hP hS (fun hsz => ?_)
  have hts := F.2.1.2.1
  have hnl := F.2.1.2.2.2.2.2.2.2.2.2.2.1 _ o1
  have cw : va_CN R s args (miY mi).cls idx (miY mi') host (miC mi') (miL mi') (miR mi') (mWs mi') (mRm d' mi') (miK mi') (miM mi') (As.map (tr g)).length ∧ (Cond.static (miY mi')).before args s = true ∧ True :=
    ⟨va_cnB _ hts (w_good o4) rfl rfl rfl hnl (hts _ o3) ⟨o6.1, o6.2.1, by rw [List.length_map]; exact o6.2.2⟩ ⟨Nat.le_trans hdd F.2.2.1, by have := F.2.2.2.1; simp only [mRm]; omega⟩, hts _ o2, trivial⟩
  refine w_back hsz (va_runSN (As := As.map (tr g)) (rest := rest.map (tr g)) ⟨F.1.1, F.1.2.1, F.1.2.2.1, F.2.1.1, hts⟩ hM cw ⟨w_blind, w_pre F hsz hz.2 hP hS As⟩ rfl rfl hl.1 ?_ (lv_room (by rw [w_sum]; exact hcat)) hd ⟨Nat.le_trans hk F.2.2.2.2.1, Nat.le_trans hs F.2.2.2.2.2⟩) hz.1 hS (fun v sh' u' w' r' hq H1 locs1 hz1 hP1 hS1 => kk v sh' u' w' r' hq p e R s m args below meth c F H1 locs1 ls hz1 hP1 hS1 hl)
  show (As.reverse ++ rest).map (tr g) = _
  rw [List.map_append, List.map_reverse]
-- statics, the script
theorem gad_st {g : Gx} (j : Nat) : gad g (1000 + j) = gS g j := by
  rw [gad, if_neg (by omega), Nat.add_sub_cancel_left]
theorem w_out {g : Gx} {s : State} {a : Nat} (h : a < gB g) : ¬ gA g a := Nat.not_le.mpr h
theorem wp_gets {idx j : Nat} {C n : String} {xs : List Int32} (hd : decode (miC mi) pc = .ok (.getstatic idx, 3)) (hj : stA[j]? = some (C, n, xs)) (hw : Cond.fieldLink (miY mi).cls idx C n "[I" ∈ TBg) (hp : pc + 3 = pc') (kk : Wp g d mi pc' L (.ref (1000 + j) :: st) kc ks sh u w r Z) : Wp g d mi pc L st kc ks sh u w r Z := by
  subst hp
  intro p e R s m args below meth c F H locs ls hz hP hS hl
  refine va_gets F.1.1 F.1.2.1 (F.2.1.2.2.2.2.1 j _ hj).1 hS F.2.1.1 (F.2.1.2.1 _ hw) (fun x hx => hx) hd ?_
  have := kk p e R s m args below meth c F H locs ls hz hP hS hl
  rw [List.map_cons, show tr g (.ref (1000 + j)) = .ref (gS g j) from congrArg Value.ref (gad_st j)] at this
  exact this
theorem wp_ti {j : Nat} {C n : String} {xs : List Int32} {i v : Int32} (hd : decode (miC mi) pc = .ok (.iaload, 1)) (hj : stA[j]? = some (C, n, xs)) (hi : vp_in i xs.length) (hv : xs.getD i.toNatClampNeg 0 = v) (hp : pc + 1 = pc') (kk : Wp g d mi pc' L (.int v :: st) kc ks sh u w r Z) : Wp g d mi pc L (.int i :: .ref (1000 + j) :: st) kc ks sh u w r Z := by
  subst hp
  intro p e R s m args below meth c F H locs ls hz hP hS hl
  rw [List.map_cons, List.map_cons, show tr g (.ref (1000 + j)) = .ref (gS g j) from congrArg Value.ref (gad_st j)]
  exact va_ti F.1.1 F.1.2.1 (F.2.1.2.2.2.2.1 j _ hj).2 hS hi (congrArg Value.int hv) hd (kk p e R s m args below meth c F H locs ls hz hP hS hl)
theorem wp_sld {i : Int32} (hd : decode (miC mi) pc = .ok (.iaload, 1)) (hi : vp_in i (gN g)) (hp : pc + 1 = pc') (kk : Wp g d mi pc' L (.int (gX g i.toNatClampNeg) :: st) kc ks sh u w r Z) : Wp g d mi pc L (.int i :: .ref 1100 :: st) kc ks sh u w r Z := by
  subst hp
  intro p e R s m args below meth c F H locs ls hz hP hS hl
  rw [List.map_cons, List.map_cons, show tr g (.ref 1100) = .ref (gS g 100) from congrArg Value.ref (gad_st 100)]
  exact va_sld F.1.1 F.1.2.1 F.2.1.2.2.2.2.2.1 (Nat.lt_of_lt_of_le F.2.1.2.2.2.2.2.2.1 F.2.1.2.2.2.1) (Nat.not_le.mpr F.2.1.2.2.2.2.2.2.1) hS hi hd (kk p e R s m args below meth c F H locs ls hz hP hS hl)
theorem wp_slen (hd : decode (miC mi) pc = .ok (.arraylength, 1)) (hp : pc + 1 = pc') (kk : Wp g d mi pc' L (.int (nI (gN g)) :: st) kc ks sh u w r Z) : Wp g d mi pc L (.ref 1100 :: st) kc ks sh u w r Z := by
  subst hp
  intro p e R s m args below meth c F H locs ls hz hP hS hl
  rw [List.map_cons, show tr g (.ref 1100) = .ref (gS g 100) from congrArg Value.ref (gad_st 100)]
  exact va_slen F.1.1 F.1.2.1 F.2.1.2.2.2.2.2.1 (Nat.lt_of_lt_of_le F.2.1.2.2.2.2.2.2.1 F.2.1.2.2.2.1) (Nat.not_le.mpr F.2.1.2.2.2.2.2.2.1) hS hd (kk p e R s m args below meth c F H locs ls hz hP hS hl)
end
