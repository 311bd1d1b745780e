/-! WHAT STAYS: groups and frames -/
def Sm (F : List (Nat × Option Nat)) (m n : Mem) : Prop := (∀ q ∈ F, ∀ i, (q.2 = none ∨ q.2 = some i) → gI n q.1 i = gI m q.1 i ∧ gJ n q.1 i = gJ m q.1 i) ∧ ((1000, none) ∈ F → n.2.2 = m.2.2)
def dj (F l : List (Nat × Option Nat)) : Bool := F.all fun q => l.all fun r => !(r.1 == q.1 && (q.2 == none || r.2 == none || q.2 == r.2))
theorem Sm_of {F l : List (Nat × Option Nat)} {m n : Mem} (h : Fr l m n) (hd : dj F l = true) : Sm F m n := by
  have key : ∀ q ∈ F, ∀ r ∈ l, r.1 = q.1 → ¬ (q.2 = none ∨ r.2 = none ∨ q.2 = r.2) := fun q hq r hr e z => by
    have := List.all_eq_true.mp (List.all_eq_true.mp hd q hq) r hr
    rw [Bool.not_eq_true', Bool.and_eq_false_iff] at this
    rcases this with this | this
    · rw [e, beq_self_eq_true] at this; cases this
    · rw [Bool.or_eq_false_iff, Bool.or_eq_false_iff] at this
      rcases z with z | z | z
      · rw [z] at this; exact absurd this.1.1 (by decide)
      · rw [z] at this; exact absurd this.1.2 (by decide)
      · rw [z, beq_self_eq_true] at this; exact absurd this.2 (by decide)
  refine ⟨fun q hq i hi => ?_, fun hF => h.2 (fun hl => key _ hF _ hl rfl (Or.inl rfl))⟩
  have := h.1 q.1 i (fun r hr e z => by
    refine key q hq r hr e ?_
    rcases hi with hi | hi
    · exact Or.inl hi
    · rcases z with z | z
      · exact Or.inr (Or.inl z)
      · exact Or.inr (Or.inr (hi.trans z.symm)))
  exact this
theorem Sm.i {F : List (Nat × Option Nat)} {m n : Mem} (h : Sm F m n) (c : Nat) {i : Nat} (hc : (F.any fun q => q.1 == c && (q.2 == none || q.2 == some i)) = true) : gI n c i = gI m c i := by
  obtain ⟨q, hq, hz⟩ := List.any_eq_true.mp hc
  simp at hz
  obtain ⟨e, z⟩ := hz
  rw [← e]
  exact (h.1 q hq i z).1
theorem Sm.w {F : List (Nat × Option Nat)} {m n : Mem} (h : Sm F m n) (c : Nat) (hc : (c, none) ∈ F) (i : Nat) : gI n c i = gI m c i := (h.1 _ hc i (Or.inl rfl)).1
theorem Sm.j {F : List (Nat × Option Nat)} {m n : Mem} (h : Sm F m n) (c : Nat) (hc : (c, none) ∈ F) (i : Nat) : gJ n c i = gJ m c i := (h.1 _ hc i (Or.inl rfl)).2
theorem Fr_2 {l8 l9 : List (Nat × Option Nat)} {m m1 m2 : Mem} (f8 : Fr l8 m m1) (f9 : Fr l9 m1 m2) : Fr (l8 ++ l9) m m2 := (f8.sub (fun q hq => List.mem_append_left _ hq)).trans (f9.sub (fun q hq => List.mem_append_right _ hq))
abbrev cTn : List (Nat × Option Nat) := [(1, some 13), (1, some 14), (1, some 15), (1, some 16)]
abbrev rTn : List (Nat × Option Nat) := [(85, some 6), (85, some 8), (85, some 9)]
theorem cTn_c {P T C V : Nat} {m m' n n' : Mem} (h : ITn2 P T C V m m') (a : Sm cTn m n) (b : Sm rTn m' n') : ITn2 P T C V n n' := by
  obtain ⟨⟨n1, n2, n3⟩, ⟨n4, n5, n6⟩, ⟨n7, n8, n9⟩, n0⟩ := h
  exact ⟨⟨(a.i 1 (i := 13) rfl).trans n1, (b.i 85 (i := 6) rfl).trans n2, n3⟩, ⟨(a.i 1 (i := 14) rfl).trans n4, (b.i 85 (i := 8) rfl).trans n5, n6⟩, ⟨(a.i 1 (i := 15) rfl).trans n7, (b.i 85 (i := 9) rfl).trans n8, n9⟩, (a.i 1 (i := 16) rfl).trans n0⟩
abbrev cTp : List (Nat × Option Nat) := [(2, none), (3, none), (4, none), (5, none)]
abbrev rTp : List (Nat × Option Nat) := [(86, none), (90, none)]
theorem cTp_c' {m m' n n' : Mem} (h : ITp2 m m') (a : Sm cTp m n) (b : ∀ i, i < 30 → gI n' 86 i = gI m' 86 i) (b2 : ∀ i, gI n' 90 i = gI m' 90 i) : ITp2 n n' := by
  intro p hp
  rw [a.w 2 (by decide), a.w 3 (by decide), a.w 4 (by decide), a.w 5 (by decide), b _ (by omega), b _ (by omega), b _ (by omega), b2]
  exact h p hp
theorem cTp_c {m m' n n' : Mem} (h : ITp2 m m') (a : Sm cTp m n) (b : Sm rTp m' n') : ITp2 n n' := cTp_c' h a (fun i _ => b.w 86 (by decide) i) (fun i => b.w 90 (by decide) i)
abbrev cTt : List (Nat × Option Nat) := [(6, none), (7, none)]
abbrev rTt : List (Nat × Option Nat) := [(86, none)]
theorem cTt_c' {m m' n n' : Mem} (h : ITt2 m m') (a : Sm cTt m n) (b : ∀ i, 30 ≤ i → gI n' 86 i = gI m' 86 i) : ITt2 n n' := by
  intro p hp
  rw [a.w 6 (by decide), a.w 7 (by decide), b _ (by omega), b _ (by omega)]
  exact h p hp
theorem cTt_c {m m' n n' : Mem} (h : ITt2 m m') (a : Sm cTt m n) (b : Sm rTt m' n') : ITt2 n n' := cTt_c' h a (fun i _ => b.w 86 (by decide) i)
abbrev cTc : List (Nat × Option Nat) := [(8, none), (9, none), (10, none)]
abbrev rTc : List (Nat × Option Nat) := [(91, none), (92, none), (93, none)]
theorem cTc_c {T C : Nat} {m m' n n' : Mem} (h : ITc2 T C m m') (a : Sm cTc m n) (b : Sm rTc m' n') : ITc2 T C n n' := by
  intro p hp
  rw [a.w 8 (by decide), a.w 9 (by decide), a.w 10 (by decide), b.w 91 (by decide), b.w 92 (by decide), b.w 93 (by decide)]
  exact h p hp
abbrev cTb : List (Nat × Option Nat) := [(8, none), (10, none), (12, none), (13, none)]
theorem cTb_c {C : Nat} {m n : Mem} (h : ITb C m) (a : Sm cTb m n) : ITb C n := by
  refine ⟨fun p hp i hi => ?_, fun p hp i hi => ?_⟩
  · rw [a.w 12 (by decide), a.w 10 (by decide)]; exact h.1 p hp i hi
  · rw [a.w 13 (by decide), a.w 8 (by decide)]; exact h.2 p hp i hi
abbrev cTs : List (Nat × Option Nat) := [(11, none)]
abbrev rTs : List (Nat × Option Nat) := [(85, some 13), (85, some 14), (85, some 15)]
theorem cTs_c {m m' n n' : Mem} (h : ITs2 m m') (a : Sm cTs m n) (b : Sm rTs m' n') : ITs2 n n' := by
  unfold ITs2
  rw [a.w 11 (by decide), a.w 11 (by decide), a.w 11 (by decide), b.i 85 (i := 13) rfl, b.i 85 (i := 14) rfl, b.i 85 (i := 15) rfl]
  exact h
abbrev cLw : List (Nat × Option Nat) := [(14, some 5), (17, none), (18, none), (1000, none)]
abbrev rLw : List (Nat × Option Nat) := [(85, some 19), (95, none)]
theorem cLw_c {m m' n n' : Mem} (h : IL0 m m') (a : Sm cLw m n) (b : Sm rLw m' n') : IL0 n n' := IL0_cong h (a.i 14 (i := 5) rfl) (a.2 (by decide)) (fun i => by
  rcases m.2.2
  · exact a.w 17 (by decide) i
  · exact a.w 18 (by decide) i) (b.i 85 (i := 19) rfl) (fun i => b.w 95 (by decide) i)
abbrev cCh : List (Nat × Option Nat) := [(19, some 4), (19, some 5), (20, none), (21, none), (22, none), (23, none)]
abbrev rCh : List (Nat × Option Nat) := [(85, some 4), (85, some 5), (87, none), (88, none), (89, none)]
theorem cCh_c {D K : Nat} {m m' n n' : Mem} (h : IC2 D K m m') (a : Sm cCh m n) (b : Sm rCh m' n') : IC2 D K n n' := by
  unfold IC2
  rw [a.i 19 (i := 4) rfl, a.i 19 (i := 5) rfl, b.i 85 (i := 4) rfl, b.i 85 (i := 5) rfl]
  refine ⟨h.1, h.2.1, h.2.2.1, fun i hi => ?_⟩
  rw [a.w 20 (by decide), a.w 21 (by decide), a.w 22 (by decide), a.w 23 (by decide), b.w 87 (by decide), b.w 88 (by decide), b.w 89 (by decide)]
  exact h.2.2.2 i hi
abbrev cTq : List (Nat × Option Nat) := [(14, some 2), (15, none)]
abbrev rTq : List (Nat × Option Nat) := [(85, some 17), (94, none)]
theorem cTq_c {L : Nat} {m m' n n' : Mem} (h : IQ L m m') (a : Sm cTq m n) (b : Sm rTq m' n') : IQ L n n' := by
  refine ⟨⟨(a.i 14 (i := 2) rfl).trans h.1.1, (b.i 85 (i := 17) rfl).trans h.1.2.1, h.1.2.2⟩, fun i hi => ?_⟩
  rw [a.w 15 (by decide), b.w 94 (by decide)]
  exact h.2 i hi
abbrev cMi : List (Nat × Option Nat) := [(24, none), (25, none), (26, none), (28, none), (30, none), (31, none), (32, none), (33, none), (34, none), (35, none), (36, none), (29, some 7), (29, some 8)]
abbrev rMi : List (Nat × Option Nat) := [(111, none), (112, none), (113, none), (114, none), (115, none), (116, none), (117, none), (118, none), (119, none), (120, none), (121, none), (122, none), (123, none), (85, some 46), (85, some 47), (85, some 48), (85, some 49)]
theorem cMi_c {m m' n n' : Mem} (h : IM m m') (a : Sm cMi m n) (b : Sm rMi m' n') : IM n n' := by
  refine IM_cong h (fun c i hc => ?_) (fun c i hc => ?_)
  · by_cases e : c = 29
    · subst e
      have : i = 7 ∨ i = 8 := by omega
      rcases this with rfl | rfl
      · exact a.i 29 (i := 7) rfl
      · exact a.i 29 (i := 8) rfl
    · refine a.w c ?_ i
      have : c = 24 ∨ c = 25 ∨ c = 26 ∨ c = 28 ∨ c = 30 ∨ c = 31 ∨ c = 32 ∨ c = 33 ∨ c = 34 ∨ c = 35 ∨ c = 36 := by omega
      rcases this with rfl | rfl | rfl | rfl | rfl | rfl | rfl | rfl | rfl | rfl | rfl <;> decide
  · by_cases e : c = 85
    · subst e
      have : i = 46 ∨ i = 47 ∨ i = 48 ∨ i = 49 := by omega
      rcases this with rfl | rfl | rfl | rfl
      · exact b.i 85 (i := 46) rfl
      · exact b.i 85 (i := 47) rfl
      · exact b.i 85 (i := 48) rfl
      · exact b.i 85 (i := 49) rfl
    · refine b.w c ?_ i
      have : c = 111 ∨ c = 112 ∨ c = 113 ∨ c = 114 ∨ c = 115 ∨ c = 116 ∨ c = 117 ∨ c = 118 ∨ c = 119 ∨ c = 120 ∨ c = 121 ∨ c = 122 ∨ c = 123 := by omega
      rcases this with rfl | rfl | rfl | rfl | rfl | rfl | rfl | rfl | rfl | rfl | rfl | rfl | rfl <;> decide
abbrev rTS : List (Nat × Option Nat) := [(86, none), (90, none), (91, none), (92, none), (93, none), (85, some 6), (85, some 8), (85, some 9), (85, some 13), (85, some 14), (85, some 15), (85, some 19), (95, none)]
theorem TS'_of {m n : Mem} (b : Sm rTS m n) : TS' m n := by
  refine ⟨fun c hc i => ?_, fun i hi => ?_, b.i 85 (i := 19) rfl, fun i => b.w 95 (by decide) i⟩
  · refine b.w c ?_ i
    have : c = 86 ∨ c = 90 ∨ c = 91 ∨ c = 92 ∨ c = 93 := by omega
    rcases this with rfl | rfl | rfl | rfl | rfl <;> decide
  · rcases hi with rfl | rfl | rfl | rfl | rfl | rfl <;> exact b.i 85 rfl
abbrev cTh : List (Nat × Option Nat) := [(55, none), (56, none)]
theorem IH_c' {P T V : Nat} {m m' n n' : Mem} (h : IH P T V m m') (a : Sm cTh m n) (b : TS' m' n') : IH P T V n n' := by
  intro q hq
  obtain ⟨h1, h2⟩ := h q hq
  rw [a.w 56 (by decide)]
  refine ⟨h1, fun e e2 e3 e4 w hw k hk => ?_⟩
  rw [a.w 55 (by decide)]
  exact h2 e e2 e3 e4 w (b.tr hw) k hk
theorem IH_c {P T V : Nat} {m m' n n' : Mem} (h : IH P T V m m') (a : Sm cTh m n) (b : Sm rTS m' n') : IH P T V n n' := IH_c' h a (TS'_of b)
theorem IH_grow {P T V P' T' V' : Nat} {m m' n n' : Mem} (h : IH P T V m m') (hV : V < V') (hV' : V' < 2 ^ 31) (a : Sm [(56, none)] m n) : IH P' T' V' n n' := by
  intro q hq
  obtain ⟨h1, -⟩ := h q hq
  rw [a.w 56 (by decide)]
  refine ⟨?_, fun e => ?_⟩
  · rcases h1 with h1 | ⟨z, z1, z2⟩
    · exact Or.inl h1
    · exact Or.inr ⟨z, by omega, z2⟩
  · exfalso
    rcases h1 with h1 | ⟨z, z1, z2⟩
    · rw [h1] at e
      have := congrArg Int32.toInt e
      rw [nI_toInt (by omega)] at this
      change (-1 : Int) = _ at this
      omega
    · rw [z2] at e
      have := (eq_nn (by omega) (by omega)).mp e
      omega
abbrev sAc : List (Nat × Option Nat) := [(69, some 1), (71, none), (69, some 2), (70, none), (85, some 66), (124, none), (85, some 69), (125, none)]
theorem sAc_c {B : Nat} {m n : Mem} (h : IA B m) (a : Sm sAc m n) : IA B n := by
  unfold IA
  rw [a.i 69 (i := 1) rfl, a.i 85 (i := 66) rfl, a.i 69 (i := 2) rfl, a.i 85 (i := 69) rfl]
  refine ⟨h.1, fun i hi => ?_, h.2.2.1, fun i hi => ?_⟩
  · rw [a.w 71 (by decide), a.w 124 (by decide)]; exact h.2.1 i hi
  · rw [a.w 70 (by decide), a.w 125 (by decide)]; exact h.2.2.2 i hi
abbrev sSh : List (Nat × Option Nat) := [(73, some 0), (73, some 1), (73, some 2), (75, some 0), (75, some 1), (75, some 2), (77, some 0), (77, some 1), (77, some 2), (79, some 0), (79, some 1), (79, some 2), (81, some 0), (81, some 1), (81, some 2), (83, some 0), (83, some 1), (83, some 2), (74, none), (76, none), (78, none), (80, none), (82, none), (84, none), (126, none), (127, none), (128, none)]
theorem sSh_c {B : Nat} {m n : Mem} (h : IS B m) (a : Sm sSh m n) : IS B n := by
  intro d hd
  refine IS1_cong (fun i hi => ?_) (a.w 126 (by decide) d) (a.w 127 (by decide) d) (fun i hi => ?_) (fun i hi => a.j 128 (by decide) _) (h d hd)
  · have h1 : d = 0 ∨ d = 1 ∨ d = 2 ∨ d = 3 ∨ d = 4 ∨ d = 5 := by omega
    have h2 : i = 0 ∨ i = 1 ∨ i = 2 := by omega
    rcases h1 with rfl | rfl | rfl | rfl | rfl | rfl <;> rcases h2 with rfl | rfl | rfl <;> exact a.i _ rfl
  · have h1 : d = 0 ∨ d = 1 ∨ d = 2 ∨ d = 3 ∨ d = 4 ∨ d = 5 := by omega
    rcases h1 with rfl | rfl | rfl | rfl | rfl | rfl <;> exact a.j _ (by decide) i
/-- all that holds between calls, class and reference read from two memories -/
def Bk (P T C V D K L : Nat) (m m' : Mem) : Prop := ITn2 P T C V m m' ∧ ITp2 m m' ∧ ITt2 m m' ∧ ITc2 T C m m' ∧ ITb C m ∧ ITs2 m m' ∧ IL0 m m' ∧ IC2 D K m m' ∧ IQ L m m' ∧ IM m m' ∧ IH P T V m m'
theorem Bk.n {P T C V D K L : Nat} {m m' : Mem} (w : Bk P T C V D K L m m') : ITn2 P T C V m m' := w.1
theorem Bk.p {P T C V D K L : Nat} {m m' : Mem} (w : Bk P T C V D K L m m') : ITp2 m m' := w.2.1
theorem Bk.t {P T C V D K L : Nat} {m m' : Mem} (w : Bk P T C V D K L m m') : ITt2 m m' := w.2.2.1
theorem Bk.c {P T C V D K L : Nat} {m m' : Mem} (w : Bk P T C V D K L m m') : ITc2 T C m m' := w.2.2.2.1
theorem Bk.b {P T C V D K L : Nat} {m m' : Mem} (w : Bk P T C V D K L m m') : ITb C m := w.2.2.2.2.1
theorem Bk.s {P T C V D K L : Nat} {m m' : Mem} (w : Bk P T C V D K L m m') : ITs2 m m' := w.2.2.2.2.2.1
theorem Bk.l {P T C V D K L : Nat} {m m' : Mem} (w : Bk P T C V D K L m m') : IL0 m m' := w.2.2.2.2.2.2.1
theorem Bk.h {P T C V D K L : Nat} {m m' : Mem} (w : Bk P T C V D K L m m') : IC2 D K m m' := w.2.2.2.2.2.2.2.1
theorem Bk.q {P T C V D K L : Nat} {m m' : Mem} (w : Bk P T C V D K L m m') : IQ L m m' := w.2.2.2.2.2.2.2.2.1
theorem Bk.m {P T C V D K L : Nat} {m m' : Mem} (w : Bk P T C V D K L m m') : IM m m' := w.2.2.2.2.2.2.2.2.2.1
theorem Bk.i {P T C V D K L : Nat} {m m' : Mem} (w : Bk P T C V D K L m m') : IH P T V m m' := w.2.2.2.2.2.2.2.2.2.2
abbrev cW : List (Nat × Option Nat) := cTn ++ cTp ++ cTt ++ cTc ++ cTb ++ cTs ++ cLw ++ cCh ++ cTq ++ cMi ++ cTh
abbrev rW : List (Nat × Option Nat) := rTn ++ rTp ++ rTt ++ rTc ++ rTs ++ rLw ++ rCh ++ rTq ++ rMi ++ rTS
theorem Sm.sub {F F' : List (Nat × Option Nat)} {m n : Mem} (h : Sm F m n) (hs : (F'.all fun q => F.contains q) = true) : Sm F' m n := by
  have key : ∀ q ∈ F', q ∈ F := fun q hq => List.contains_iff_mem.mp (List.all_eq_true.mp hs q hq)
  exact ⟨fun q hq => h.1 q (key q hq), fun hq => h.2 (key _ hq)⟩
theorem Sm.rf {F : List (Nat × Option Nat)} {m : Mem} : Sm F m m := ⟨fun _ _ _ _ => ⟨rfl, rfl⟩, fun _ => rfl⟩
theorem Bk_c {P T C V D K L : Nat} {m m' n n' : Mem} (w : Bk P T C V D K L m m') (a : Sm cW m n) (b : Sm rW m' n') : Bk P T C V D K L n n' :=
  ⟨cTn_c w.n (a.sub rfl) (b.sub rfl), cTp_c w.p (a.sub rfl) (b.sub rfl), cTt_c w.t (a.sub rfl) (b.sub rfl), cTc_c w.c (a.sub rfl) (b.sub rfl), cTb_c w.b (a.sub rfl), cTs_c w.s (a.sub rfl) (b.sub rfl), cLw_c w.l (a.sub rfl) (b.sub rfl), cCh_c w.h (a.sub rfl) (b.sub rfl), cTq_c w.q (a.sub rfl) (b.sub rfl), cMi_c w.m (a.sub rfl) (b.sub rfl), IH_c w.i (a.sub rfl) (b.sub rfl)⟩
def Inv (V : Nat) (m : Mem) : Prop := ∃ P T C B D K L, Bk P T C V D K L m m ∧ IA B m ∧ IS B m
theorem Bk.tb {P T C V D K L : Nat} {m m' : Mem} (w : Bk P T C V D K L m m') : TB P T C V m m' := ⟨w.n, w.p, w.t, w.c, w.b, w.s, IL_of w.l⟩
