def stA : List (String × String × List Int32) := [("SpeaksInTurn", "LEAST_SET", [0, 0, 1]), ("SpeaksInTurn", "MOST_SET", [5, 1, 9]), ("SpeaksInTurn", "LEAST_MENDED", [0, 0, 0, -99, 0]), ("SpeaksInTurn", "MOST_MENDED", [9, 9, 99, 99, 9]), ("SpeaksInTurn$Acts", "ABOVE", [-1, 0, 0, 2, 0, 3, 0, 4]), ("SpeaksInTurn$Acts", "OWN", [1, 10, 11, 2, 20, 0, 0, 0, 0, 30, 0, 0, 0, 41, 40, 0, 0, 0, 50, 0, 0, 0, 0, 60, 70, 0, 0, 0, 0, 80, 0, 81])]
def nests : List (String × Nat × MethodName × String) := [("SpeaksInTurn", 9, ⟨"SpeaksInTurn$Table", "<init>", "()V"⟩, "SpeaksInTurn"), ("SpeaksInTurn$Table", 50, ⟨"SpeaksInTurn$Law", "<init>", "()V"⟩, "SpeaksInTurn"), ("SpeaksInTurn", 18, ⟨"SpeaksInTurn$Changes", "<init>", "()V"⟩, "SpeaksInTurn"), ("SpeaksInTurn", 41, ⟨"SpeaksInTurn$Acts", "<init>", "()V"⟩, "SpeaksInTurn"), ("SpeaksInTurn", 52, ⟨"SpeaksInTurn$Shelf", "<init>", "()V"⟩, "SpeaksInTurn"), ("SpeaksInTurn$Minutes", 40, ⟨"SpeaksInTurn", "asTheyCame", "([I)V"⟩, "SpeaksInTurn"), ("SpeaksInTurn$Thought", 46, ⟨"SpeaksInTurn", "asTheyCame", "([I)V"⟩, "SpeaksInTurn")]
/-- what nobody writes: static rows, the script, the letters, the nests' links -/
def Sx (g : Gx) (s : State) (H : Heap) : Prop :=
  (∀ (j : Nat) (q : String × String × List Int32), stA[j]? = some q → va_Z q.1 q.2.1 "[I" (.ref (gS g j)) (gA g) s H ∧ va_T .int (gS g j) q.2.2.length (fun i => .int (q.2.2.getD i 0)) (gA g) s H) ∧
  va_X (gS g 100) (gN g) (gX g) s H ∧ gS g 100 < gB g ∧
  vk_R "SpeaksInTurn$Law" 70 "rvenstpl" (gS g 200) s ∧ vk_S 1 [8] [[114, 118, 101, 110, 115, 116, 112, 108]] (fun _ => gS g 200) (fun _ => gS g 201) (gA g) s H ∧
  va_Z "java/lang/String" "COMPACT_STRINGS" "Z" (.int 1) (gA g) s H ∧
  (∀ q ∈ nests, va_Nw (.methodLinkNest q.1 q.2.1 q.2.2.1 q.2.2.2) s) ∧ va_AO "SpeaksInTurn$Shelf" s
theorem Sx.to {g : Gx} {s U : State} {H : Heap} {locs : List Loc} (h : Sx g s s.heap) (hB : gB g ≤ s.heap.size) (hS : va_S (gA g) s.heap H locs) (hU : U.heap = H) (hW : s.WarmedH U.vm) : Sx g U U.heap := by
  have hq : ∀ a : Nat, a < s.heap.size → ¬ gA g a → U.heap[a]? = s.heap[a]? := fun a h1 h2 => by rw [hU]; exact hS.2.1 a h1 h2
  have hv := hW.alike
  obtain ⟨h1, h2, h3, h4, h5, h6, h7, h8⟩ := h
  refine ⟨fun j q hj => ⟨((h1 j q hj).1.moved hv).kept hq, ((h1 j q hj).2.moved hv).kept hq⟩, (h2.moved hv).kept (hq _ (Nat.lt_of_lt_of_le h3 hB) (fun z => Nat.not_lt.mpr z h3)), h3, h4.warm hW, (h5.moved hv).kept hq, (h6.moved hv).kept hq, fun q hq => (h7 q hq).warmM hW, h8.moved hv⟩
theorem Sx.same {g : Gx} {s U : State} (h : Sx g s s.heap) (hv : U.vm = s.vm) (hh : U.heap = s.heap) : Sx g U U.heap := by
  have hq : ∀ a : Nat, a < s.heap.size → ¬ gA g a → U.heap[a]? = s.heap[a]? := fun a h1 h2 => by rw [hh]
  have ha : s.vm.Alike U.vm := by rw [hv]; exact Vm.Alike.refl _
  obtain ⟨h1, h2, h3, h4, h5, h6, h7, h8⟩ := h
  refine ⟨fun j q hj => ⟨((h1 j q hj).1.moved ha).kept hq, ((h1 j q hj).2.moved ha).kept hq⟩, (h2.moved ha).kept (by rw [hh]), h3, h4.same hv, (h5.moved ha).kept hq, (h6.moved ha).kept hq, fun q hq => (h7 q hq).same rfl hv.symm, h8.moved ha⟩
/-- the machine's facts at a method's entry -/
def Fx (g : Gx) (d : Nat) (mi : Mi) (R : Room) (p : Program) (s : State) (m : MethodId) (args : Array Value) (meth : Method) (c : Code) : Prop :=
  (p.tables.exec = Jvm.exec ∧ c.code = miC mi ∧ c.maxLocals = miL mi ∧ meth.sig.returnType = miR mi ∧ meth.locks = false ∧ ((miY mi).name = "<init>" → meth.name = "<init>")) ∧
  (s.vm.findClass (miY mi).cls = some m.cls ∧ (∀ w ∈ TBg, w.before args s = true) ∧ va_K (gD g) vwCl (gT g) s ∧ gB g ≤ s.heap.size ∧ Sx g s s.heap) ∧
  d ≤ R.frames ∧ 64 * d + 64 ≤ R.locals ∧ miK mi ≤ R.cells ∧ miM mi ≤ R.slots
/-- how a walk ends -/
abbrev En : Type := Array Value → State → List Frame → State → Prop
/-- what a method answers, and the world behind it -/
def w_Q (g : Gx) (k : Nat) (Q : Option Value → Sh → UI → UL → UR → Prop) : Array Value → State → Outcome → State → Prop := fun _ s o t =>
  (∃ (v : Option Value) (sh : Sh) (u : UI) (w : UL) (r : UR), o = .returned (v.map (tr g)) ∧ Q v sh u w r ∧ va_P (gD g) vwCl (w_ws g sh u w r) t.heap ∧ s.heap.size + k = gB g + sh.length ∧ sh.length ≤ 1000) ∧ va_F (gA g) s t
def zM (g : Gx) (mi : Mi) (Q : Option Value → Sh → UI → UL → UR → Prop) : En := fun args s below => MQ below (w_Q g (miK mi) Q) args s (miK mi) (miM mi) (gA g)
/-- THE PURE JUDGEMENT: from pc on, with these locals, stack and memories, the walk comes to Z -/
def Wp (g : Gx) (d : Nat) (mi : Mi) (pc : Nat) (L : List (Option Value)) (st : List Value) (kc ks : Nat) (sh : Sh) (u : UI) (w : UL) (r : UR) (Z : En) : Prop :=
  ∀ (p : Program) (e : Env) (R : Room) (s : State) (m : MethodId) (args : Array Value) (below : List Frame) (meth : Method) (c : Code), Fx g d mi R p s m args meth c →
  ∀ (H : Heap) (locs : List Loc) (ls : Array Slot), (s.heap.size + kc = gB g + sh.length ∧ sh.length ≤ 1000) → va_P (gD g) vwCl (w_ws g sh u w r) H → va_S (gA g) s.heap H locs → lv_has ls (miL mi) (w_L g L) →
  W p (gL g) e R s m args below meth c H locs kc ks (Z args s below) (F0 m pc ls (st.map (tr g)))
section
variable {g : Gx} {d : Nat} {mi : Mi} {pc pc' : Nat} {L : List (Option Value)} {st : List Value} {kc ks : Nat} {sh : Sh} {u : UI} {w : UL} {r : UR} {Z : En}
theorem wp_pure {st' : List Value} (h : ∀ (p : Program) (e : Env) (R : Room) (s : State) (m : MethodId) (args : Array Value) (below : List Frame) (meth : Method) (c : Code), Fx g d mi R p s m args meth c →
    ∀ (H : Heap) (locs : List Loc) (ls : Array Slot) (Z : State → Prop), lv_has ls (miL mi) (w_L g L) → W p (gL g) e R s m args below meth c H locs kc ks Z (F0 m pc' ls (st'.map (tr g))) → W p (gL g) e R s m args below meth c H locs kc ks Z (F0 m pc ls (st.map (tr g))))
    (k : Wp g d mi pc' L st' kc ks sh u w r Z) : Wp g d mi pc L st kc ks sh u w r Z :=
  fun p e R s m args below meth c F H locs ls hz hP hS hl => h p e R s m args below meth c F H locs ls _ hl (k p e R s m args below meth c F H locs ls hz hP hS hl)
theorem wp_pc (hp : pc = pc') (k : Wp g d mi pc' L st kc ks sh u w r Z) : Wp g d mi pc L st kc ks sh u w r Z := hp ▸ k
/-- fewer locals, or none of one -/
theorem wp_forget {L' : List (Option Value)} (h : ∀ (i : Nat) (v : Value), L'[i]? = some (some v) → L[i]? = some (some v)) (k : Wp g d mi pc L' st kc ks sh u w r Z) : Wp g d mi pc L st kc ks sh u w r Z := by
  intro p e R s m args below meth c F H locs ls hz hP hS hl
  refine k p e R s m args below meth c F H locs ls hz hP hS ⟨hl.1, hl.2.1, fun q hq => ?_⟩
  obtain ⟨v, h1, h2⟩ := w_L_mem.mp hq
  exact hl.2.2 q (w_L_mem.mpr ⟨v, h _ _ h1, h2⟩)
/-- a deeper room serves too -/
theorem wp_deep {d' : Nat} (hd : d' ≤ d) (k : Wp g d' mi pc L st kc ks sh u w r Z) : Wp g d mi pc L st kc ks sh u w r Z := by
  intro p e R s m args below meth c F
  obtain ⟨F1, F2, f1, f2, f3⟩ := F
  exact k p e R s m args below meth c ⟨F1, F2, by omega, by omega, f3⟩
-- constants
theorem wp_iconst {n : Int} (v : Int32) (hd : decode (miC mi) pc = .ok (.iconst n, 1)) (hv : Int32.ofInt n = v) (hp : pc + 1 = pc') (k : Wp g d mi pc' L (.int v :: st) kc ks sh u w r Z) : Wp g d mi pc L st kc ks sh u w r Z := by
  subst hp
  exact wp_pure (fun p e R s m args below meth c F H locs ls Z hl kk => lv_iconst F.1.1 F.1.2.1 hd hv kk) k
theorem wp_bipush {n : Int} (v : Int32) (hd : decode (miC mi) pc = .ok (.bipush n, 2)) (hv : (Int8.ofInt n).toInt32 = v) (hp : pc + 2 = pc') (k : Wp g d mi pc' L (.int v :: st) kc ks sh u w r Z) : Wp g d mi pc L st kc ks sh u w r Z := by
  subst hp
  exact wp_pure (fun p e R s m args below meth c F H locs ls Z hl kk => lv_bipush F.1.1 F.1.2.1 hd hv kk) k
theorem wp_sipush {n : Int} (v : Int32) (hd : decode (miC mi) pc = .ok (.sipush n, 3)) (hv : (Int16.ofInt n).toInt32 = v) (hp : pc + 3 = pc') (k : Wp g d mi pc' L (.int v :: st) kc ks sh u w r Z) : Wp g d mi pc L st kc ks sh u w r Z := by
  subst hp
  exact wp_pure (fun p e R s m args below meth c F H locs ls Z hl kk => lv_sipush F.1.1 F.1.2.1 hd hv kk) k
theorem wp_ldc {i : Nat} {v : Int32} (hd : decode (miC mi) pc = .ok (.ldc i, 2)) (hw : Cond.constant (miY mi).cls i v ∈ TBg) (hp : pc + 2 = pc') (k : Wp g d mi pc' L (.int v :: st) kc ks sh u w r Z) : Wp g d mi pc L st kc ks sh u w r Z := by
  subst hp
  exact wp_pure (fun p e R s m args below meth c F H locs ls Z hl kk => lv_ldc F.1.1 F.1.2.1 F.2.1.1 (F.2.1.2.1 _ hw) hd kk) k
theorem wp_ldc2 {i : Nat} {v : Int64} (hd : decode (miC mi) pc = .ok (.ldc2_w i, 3)) (hw : Cond.constantLong (miY mi).cls i v ∈ TBg) (hp : pc + 3 = pc') (k : Wp g d mi pc' L (.long v :: st) kc ks sh u w r Z) : Wp g d mi pc L st kc ks sh u w r Z := by
  subst hp
  exact wp_pure (fun p e R s m args below meth c F H locs ls Z hl kk => lv_ldc2 F.1.1 F.1.2.1 F.2.1.1 (F.2.1.2.1 _ hw) hd kk) k
theorem wp_lconst {n : Fin 2} (v : Int64) (hd : decode (miC mi) pc = .ok (.lconst n, 1)) (hv : Int64.ofNat (n : Nat) = v) (hp : pc + 1 = pc') (k : Wp g d mi pc' L (.long v :: st) kc ks sh u w r Z) : Wp g d mi pc L st kc ks sh u w r Z := by
  subst hp
  exact wp_pure (fun p e R s m args below meth c F H locs ls Z hl kk => lv_lconst F.1.1 F.1.2.1 hd hv kk) k
-- locals
theorem wp_iload_n {j : Fin 4} {x : Int32} (hd : decode (miC mi) pc = .ok (.iload_n j, 1)) (hl : L[(j : Nat)]? = some (some (.int x))) (hp : pc + 1 = pc') (k : Wp g d mi pc' L (.int x :: st) kc ks sh u w r Z) : Wp g d mi pc L st kc ks sh u w r Z := by
  subst hp
  exact wp_pure (fun p e R s m args below meth c F H locs ls Z hL kk => lv_iload_n F.1.1 F.1.2.1 hd rfl (w_L_at hL hl) kk) k
theorem wp_iload {j : Nat} {x : Int32} (hd : decode (miC mi) pc = .ok (.iload j, 2)) (hl : L[j]? = some (some (.int x))) (hp : pc + 2 = pc') (k : Wp g d mi pc' L (.int x :: st) kc ks sh u w r Z) : Wp g d mi pc L st kc ks sh u w r Z := by
  subst hp
  exact wp_pure (fun p e R s m args below meth c F H locs ls Z hL kk => lv_iload F.1.1 F.1.2.1 hd (w_L_at hL hl) kk) k
theorem wp_lload_n {j : Fin 4} {x : Int64} (hd : decode (miC mi) pc = .ok (.lload_n j, 1)) (hl : L[(j : Nat)]? = some (some (.long x))) (hp : pc + 1 = pc') (k : Wp g d mi pc' L (.long x :: st) kc ks sh u w r Z) : Wp g d mi pc L st kc ks sh u w r Z := by
  subst hp
  exact wp_pure (fun p e R s m args below meth c F H locs ls Z hL kk => lv_lload_n F.1.1 F.1.2.1 hd rfl (w_L_at hL hl) kk) k
theorem wp_lload {j : Nat} {x : Int64} (hd : decode (miC mi) pc = .ok (.lload j, 2)) (hl : L[j]? = some (some (.long x))) (hp : pc + 2 = pc') (k : Wp g d mi pc' L (.long x :: st) kc ks sh u w r Z) : Wp g d mi pc L st kc ks sh u w r Z := by
  subst hp
  exact wp_pure (fun p e R s m args below meth c F H locs ls Z hL kk => lv_lload F.1.1 F.1.2.1 hd (w_L_at hL hl) kk) k
theorem wp_aload_n {j : Fin 4} {x : Nat} (hd : decode (miC mi) pc = .ok (.aload_n j, 1)) (hl : L[(j : Nat)]? = some (some (.ref x))) (hp : pc + 1 = pc') (k : Wp g d mi pc' L (.ref x :: st) kc ks sh u w r Z) : Wp g d mi pc L st kc ks sh u w r Z := by
  subst hp
  exact wp_pure (fun p e R s m args below meth c F H locs ls Z hL kk => lv_aload_n F.1.1 F.1.2.1 hd rfl (w_L_at hL hl) kk) k
theorem wp_aload {j : Nat} {x : Nat} (hd : decode (miC mi) pc = .ok (.aload j, 2)) (hl : L[j]? = some (some (.ref x))) (hp : pc + 2 = pc') (k : Wp g d mi pc' L (.ref x :: st) kc ks sh u w r Z) : Wp g d mi pc L st kc ks sh u w r Z := by
  subst hp
  exact wp_pure (fun p e R s m args below meth c F H locs ls Z hL kk => lv_aload F.1.1 F.1.2.1 hd (w_L_at hL hl) kk) k
theorem wp_istore_n {j : Fin 4} {x : Int32} {L' : List (Option Value)} (hd : decode (miC mi) pc = .ok (.istore_n j, 1)) (hn : (j : Nat) < miL mi) (ho : okAt L (j : Nat) = true) (hL : L.set (j : Nat) (some (.int x)) = L') (hp : pc + 1 = pc') (k : Wp g d mi pc' L' st kc ks sh u w r Z) : Wp g d mi pc L (.int x :: st) kc ks sh u w r Z := by
  subst hp; subst hL
  intro p e R s m args below meth c F H locs ls hz hP hS hl
  exact lv_istore_n F.1.1 F.1.2.1 hd rfl hl hn rfl (fun ls' hl' => k p e R s m args below meth c F H locs ls' hz hP hS (w_L_set (x := .int x) hl' ho))
theorem wp_istore {j : Nat} {x : Int32} {L' : List (Option Value)} (hd : decode (miC mi) pc = .ok (.istore j, 2)) (hn : j < miL mi) (ho : okAt L j = true) (hL : L.set j (some (.int x)) = L') (hp : pc + 2 = pc') (k : Wp g d mi pc' L' st kc ks sh u w r Z) : Wp g d mi pc L (.int x :: st) kc ks sh u w r Z := by
  subst hp; subst hL
  intro p e R s m args below meth c F H locs ls hz hP hS hl
  exact lv_istore F.1.1 F.1.2.1 hd hl hn rfl (fun ls' hl' => k p e R s m args below meth c F H locs ls' hz hP hS (w_L_set (x := .int x) hl' ho))
theorem wp_astore_n {j : Fin 4} {x : Nat} {L' : List (Option Value)} (hd : decode (miC mi) pc = .ok (.astore_n j, 1)) (hn : (j : Nat) < miL mi) (ho : okAt L (j : Nat) = true) (hL : L.set (j : Nat) (some (.ref x)) = L') (hp : pc + 1 = pc') (k : Wp g d mi pc' L' st kc ks sh u w r Z) : Wp g d mi pc L (.ref x :: st) kc ks sh u w r Z := by
  subst hp; subst hL
  intro p e R s m args below meth c F H locs ls hz hP hS hl
  exact lv_astore_n F.1.1 F.1.2.1 hd rfl hl hn rfl (fun ls' hl' => k p e R s m args below meth c F H locs ls' hz hP hS (w_L_set (x := .ref x) hl' ho))
theorem wp_astore {j : Nat} {x : Nat} {L' : List (Option Value)} (hd : decode (miC mi) pc = .ok (.astore j, 2)) (hn : j < miL mi) (ho : okAt L j = true) (hL : L.set j (some (.ref x)) = L') (hp : pc + 2 = pc') (k : Wp g d mi pc' L' st kc ks sh u w r Z) : Wp g d mi pc L (.ref x :: st) kc ks sh u w r Z := by
  subst hp; subst hL
  intro p e R s m args below meth c F H locs ls hz hP hS hl
  exact lv_astore F.1.1 F.1.2.1 hd hl hn rfl (fun ls' hl' => k p e R s m args below meth c F H locs ls' hz hP hS (w_L_set (x := .ref x) hl' ho))
theorem wp_iinc {j : Nat} {n : Int} {x : Int32} {v : Int32} {L' : List (Option Value)} (hd : decode (miC mi) pc = .ok (.iinc j n, 3)) (hl : L[j]? = some (some (.int x))) (hv : x + Int32.ofInt n = v) (hn : j < miL mi) (ho : okAt L j = true) (hL : L.set j (some (.int v)) = L') (hp : pc + 3 = pc') (k : Wp g d mi pc' L' st kc ks sh u w r Z) : Wp g d mi pc L st kc ks sh u w r Z := by
  subst hp; subst hL
  intro p e R s m args below meth c F H locs ls hz hP hS hl2
  obtain ⟨kx, hkx⟩ := List.getElem?_of_mem (w_L_mem.mpr ⟨.int x, hl, rfl⟩ : (j, tr g (.int x)) ∈ w_L g L)
  exact lv_iinc F.1.1 F.1.2.1 hd hl2 hkx hv hn rfl (fun ls' hl' => k p e R s m args below meth c F H locs ls' hz hP hS (w_L_set (x := .int v) hl' ho))
end
