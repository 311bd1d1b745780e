/-! THE CALLS, one behind another -/
def CALL {α : Type} (f8 f9 : Mem → Option (α × Mem)) (V : Nat) (m : Mem) : Prop := ∃ v m1 m2 V', f8 m = some (v, m1) ∧ f9 m1 = some (v, m2) ∧ Inv V' m2 ∧ V' ≤ V + 20
theorem call_0 {α : Type} {f8 f9 : Mem → Option (α × Mem)} {V : Nat} {m : Mem} (hI : Inv V m) (h : ∃ v, f8 m = some (v, m) ∧ f9 m = some (v, m)) : CALL f8 f9 V m := by
  obtain ⟨v, h1, h2⟩ := h
  exact ⟨v, m, m, V, h1, h2, hI, by omega⟩
theorem cTn_v {P T C V V' : Nat} {m m' n n' : Mem} (h : ITn2 P T C V m m') (a : Sm [(1, some 13), (1, some 14), (1, some 15)] m n) (b : Sm rTn m' n') (hv : gI n 1 16 = nI V') : ITn2 P T C V' n n' := by
  obtain ⟨⟨n1, n2, n3⟩, ⟨n4, n5, n6⟩, ⟨n7, n8, n9⟩, n0⟩ := h
  exact ⟨⟨(a.i 1 (i := 13) rfl).trans n1, (b.i 85 (i := 6) rfl).trans n2, n3⟩, ⟨(a.i 1 (i := 14) rfl).trans n4, (b.i 85 (i := 8) rfl).trans n5, n6⟩, ⟨(a.i 1 (i := 15) rfl).trans n7, (b.i 85 (i := 9) rfl).trans n8, n9⟩, hv⟩
theorem TS'_of2 {m n : Mem} (b : Sm [(86, none), (90, none), (91, none), (92, none), (93, none), (85, some 6), (85, some 8), (85, some 9), (85, some 13), (85, some 14), (85, some 15)] m n) (h : SL' m n) : TS' m n := by
  refine ⟨fun c hc i => ?_, fun i hi => ?_, h⟩
  · refine b.w c ?_ i
    have : c = 86 ∨ c = 90 ∨ c = 91 ∨ c = 92 ∨ c = 93 := by omega
    rcases this with rfl | rfl | rfl | rfl | rfl <;> decide
  · rcases hi with rfl | rfl | rfl | rfl | rfl | rfl <;> exact b.i 85 rfl
theorem cTc_T {T C : Nat} {m m' : Mem} (h : ITc2 T C m m') : ITc2 (T + 1) C m m' := fun k hk => ⟨(h k hk).1, fun z => by
  obtain ⟨t, a, b⟩ := (h k hk).2.1 z
  exact ⟨t, by omega, b⟩, (h k hk).2.2⟩
theorem IS_mono {B B' : Nat} {m : Mem} (h : B ≤ B') (k : IS B m) : IS B' m := fun d hd => IS1_mono h (k d hd)
theorem c_of {V : Nat} {m : Mem} (hI : Inv V m) (a b : Int32) : CALL (f_X8_of a b) (f_X9_of a b) V m := by
  have hI' := hI
  obtain ⟨P, T, C, B, D, K, L, w, hA, hS⟩ := hI
  exact call_0 hI' (op_of w.n w.p w.t w.c a b)
theorem c_told {V : Nat} {m : Mem} (hI : Inv V m) (a : Int32) : CALL (f_X8_told a) (f_X9_told a) V m := by
  have hI' := hI
  obtain ⟨P, T, C, B, D, K, L, w, hA, hS⟩ := hI
  exact call_0 hI' (op_told w.m a)
theorem c_saying {V : Nat} {m : Mem} (hI : Inv V m) (a b : Int32) : CALL (f_X8_saying a b) (f_X9_saying a b) V m := by
  have hI' := hI
  obtain ⟨P, T, C, B, D, K, L, w, hA, hS⟩ := hI
  exact call_0 hI' (op_saying w.m a b)
theorem c_took {V : Nat} {m : Mem} (hI : Inv V m) (a b : Int32) : CALL (f_X8_took a b) (f_X9_took a b) V m := by
  have hI' := hI
  obtain ⟨P, T, C, B, D, K, L, w, hA, hS⟩ := hI
  exact call_0 hI' (op_took w.m a b)
theorem c_did {V : Nat} {m : Mem} (hI : Inv V m) (a b : Int32) : CALL (f_X8_did a b) (f_X9_did a b) V m := by
  have hI' := hI
  obtain ⟨P, T, C, B, D, K, L, w, hA, hS⟩ := hI
  exact call_0 hI' (op_did w.m a b)
theorem c_first {V : Nat} {m : Mem} (hI : Inv V m) (a b : Int32) : CALL (f_X8_first a b) (f_X9_first a b) V m := by
  have hI' := hI
  obtain ⟨P, T, C, B, D, K, L, w, hA, hS⟩ := hI
  exact call_0 hI' (op_first w.m a b)
theorem c_trace {V : Nat} {m : Mem} (hI : Inv V m) (a : Int32) : CALL (f_X8_trace a) (f_X9_trace a) V m := by
  have hI' := hI
  obtain ⟨P, T, C, B, D, K, L, w, hA, hS⟩ := hI
  exact call_0 hI' (op_trace hA a)
theorem c_element {V : Nat} {m : Mem} (hI : Inv V m) (a b : Int32) : CALL (f_X8_element a b) (f_X9_element a b) V m := by
  have hI' := hI
  obtain ⟨P, T, C, B, D, K, L, w, hA, hS⟩ := hI
  exact call_0 hI' (op_element hS a b)
theorem c_taken {V : Nat} {m : Mem} (hI : Inv V m) (a b : Int32) : CALL (f_X8_taken a b) (f_X9_taken a b) V m := by
  have hI' := hI
  obtain ⟨P, T, C, B, D, K, L, w, hA, hS⟩ := hI
  exact call_0 hI' (op_taken hA hS a b)
theorem c_count {V : Nat} {m : Mem} (hI : Inv V m) (a : Int32) : CALL (f_X8_count a) (f_X9_count a) V m := by
  have hI' := hI
  obtain ⟨P, T, C, B, D, K, L, w, hA, hS⟩ := hI
  exact call_0 hI' (op_count w.n hA (w.q.1.1.trans w.q.1.2.1.symm) (w.h.1.1.trans w.h.1.2.symm) a)
theorem c_person {V : Nat} {m : Mem} (hI : Inv V m) (hV : V < 2000000) (a b : Int32) : CALL (f_X8_person a b) (f_X9_person a b) V m := by
  have hI' := hI
  obtain ⟨P, T, C, B, D, K, L, w, hA, hS⟩ := hI
  obtain ⟨v, m1, m2, e8, e9, r⟩ := op_person w.n w.p a b
  rcases r with ⟨rfl, rfl⟩ | ⟨r1, r2, f8, f9⟩
  · exact ⟨v, _, _, V, e8, e9, hI', by omega⟩
  · have F := Fr_2 f8 f9
    obtain ⟨v', n1, n2, g8, g9, r86⟩ := person_86 w.n w.p a b
    have hh := Option.some.inj (e8.symm.trans g8)
    cases hh
    have hh := Option.some.inj (e9.symm.trans g9)
    cases hh
    exact ⟨v, m1, m2, V + 1, e8, e9, ⟨P + 1, T, C, B, D, K, L, ⟨r1, r2, cTt_c' w.t (Sm_of F (by decide +kernel)) r86, cTc_c w.c (Sm_of F (by decide +kernel)) (Sm_of F (by decide +kernel)), cTb_c w.b (Sm_of F (by decide +kernel)), cTs_c w.s (Sm_of F (by decide +kernel)) (Sm_of F (by decide +kernel)), cLw_c w.l (Sm_of F (by decide +kernel)) (Sm_of F (by decide +kernel)), cCh_c w.h (Sm_of F (by decide +kernel)) (Sm_of F (by decide +kernel)), cTq_c w.q (Sm_of F (by decide +kernel)) (Sm_of F (by decide +kernel)), cMi_c w.m (Sm_of F (by decide +kernel)) (Sm_of F (by decide +kernel)), IH_grow w.i (Nat.lt_succ_self V) (by omega) (Sm_of F (by decide +kernel))⟩, sAc_c hA (Sm_of F (by decide +kernel)), sSh_c hS (Sm_of F (by decide +kernel))⟩, by omega⟩
theorem c_thing {V : Nat} {m : Mem} (hI : Inv V m) (hV : V < 2000000) (a b : Int32) : CALL (f_X8_thing a b) (f_X9_thing a b) V m := by
  have hI' := hI
  obtain ⟨P, T, C, B, D, K, L, w, hA, hS⟩ := hI
  obtain ⟨v, m1, m2, e8, e9, r⟩ := op_thing w.n w.t a b
  rcases r with ⟨rfl, rfl⟩ | ⟨r1, r2, f8, f9⟩
  · exact ⟨v, _, _, V, e8, e9, hI', by omega⟩
  · have F := Fr_2 f8 f9
    obtain ⟨v', n1, n2, g8, g9, r86⟩ := thing_86 w.n w.t a b
    have hh := Option.some.inj (e8.symm.trans g8)
    cases hh
    have hh := Option.some.inj (e9.symm.trans g9)
    cases hh
    exact ⟨v, m1, m2, V + 1, e8, e9, ⟨P, T + 1, C, B, D, K, L, ⟨r1, cTp_c' w.p (Sm_of F (by decide +kernel)) r86 (fun i => (Sm_of F (F := [(90, none)]) (by decide +kernel)).w 90 (by decide) i), r2, cTc_T (cTc_c w.c (Sm_of F (by decide +kernel)) (Sm_of F (by decide +kernel))), cTb_c w.b (Sm_of F (by decide +kernel)), cTs_c w.s (Sm_of F (by decide +kernel)) (Sm_of F (by decide +kernel)), cLw_c w.l (Sm_of F (by decide +kernel)) (Sm_of F (by decide +kernel)), cCh_c w.h (Sm_of F (by decide +kernel)) (Sm_of F (by decide +kernel)), cTq_c w.q (Sm_of F (by decide +kernel)) (Sm_of F (by decide +kernel)), cMi_c w.m (Sm_of F (by decide +kernel)) (Sm_of F (by decide +kernel)), IH_grow w.i (Nat.lt_succ_self V) (by omega) (Sm_of F (by decide +kernel))⟩, sAc_c hA (Sm_of F (by decide +kernel)), sSh_c hS (Sm_of F (by decide +kernel))⟩, by omega⟩
theorem c_set {V : Nat} {m : Mem} (hI : Inv V m) (hV : V < 2000000) (a b : Int32) : CALL (f_X8_set a b) (f_X9_set a b) V m := by
  have hI' := hI
  obtain ⟨P, T, C, B, D, K, L, w, hA, hS⟩ := hI
  obtain ⟨v, m1, m2, e8, e9, r⟩ := op_set w.n w.s a b
  rcases r with ⟨rfl, rfl⟩ | ⟨r1, r2, f8, f9⟩
  · exact ⟨v, _, _, V, e8, e9, hI', by omega⟩
  · have F := Fr_2 f8 f9
    exact ⟨v, m1, m2, V + 1, e8, e9, ⟨P, T, C, B, D, K, L, ⟨r1, cTp_c w.p (Sm_of F (by decide +kernel)) (Sm_of F (by decide +kernel)), cTt_c w.t (Sm_of F (by decide +kernel)) (Sm_of F (by decide +kernel)), cTc_c w.c (Sm_of F (by decide +kernel)) (Sm_of F (by decide +kernel)), cTb_c w.b (Sm_of F (by decide +kernel)), r2, cLw_c w.l (Sm_of F (by decide +kernel)) (Sm_of F (by decide +kernel)), cCh_c w.h (Sm_of F (by decide +kernel)) (Sm_of F (by decide +kernel)), cTq_c w.q (Sm_of F (by decide +kernel)) (Sm_of F (by decide +kernel)), cMi_c w.m (Sm_of F (by decide +kernel)) (Sm_of F (by decide +kernel)), IH_grow w.i (Nat.lt_succ_self V) (by omega) (Sm_of F (by decide +kernel))⟩, sAc_c hA (Sm_of F (by decide +kernel)), sSh_c hS (Sm_of F (by decide +kernel))⟩, by omega⟩
theorem c_body {V : Nat} {m : Mem} (hI : Inv V m) (a : Int32) : CALL (f_X8_body a) (f_X9_body a) V m := by
  have hI' := hI
  obtain ⟨P, T, C, B, D, K, L, w, hA, hS⟩ := hI
  obtain ⟨v, m1, m2, e8, e9, B', hB, r⟩ := op_body hA a
  have F := Fr_2 (fr_X8_body e8) (fr_X9_body e9)
  exact ⟨v, m1, m2, V, e8, e9, ⟨P, T, C, B', D, K, L, Bk_c w (Sm_of F (by decide +kernel)) (Sm_of F (by decide +kernel)), r, IS_mono hB (sSh_c hS (Sm_of F (by decide +kernel)))⟩, by omega⟩
theorem c_act {V : Nat} {m : Mem} (hI : Inv V m) (a b c : Int32) : CALL (f_X8_act a b c) (f_X9_act a b c) V m := by
  have hI' := hI
  obtain ⟨P, T, C, B, D, K, L, w, hA, hS⟩ := hI
  obtain ⟨v, m1, m2, e8, e9, r⟩ := op_act hA a b c
  have F := Fr_2 (fr_X8_act e8) (fr_X9_act e9)
  exact ⟨v, m1, m2, V, e8, e9, ⟨P, T, C, B, D, K, L, Bk_c w (Sm_of F (by decide +kernel)) (Sm_of F (by decide +kernel)), r, sSh_c hS (Sm_of F (by decide +kernel))⟩, by omega⟩
theorem c_keep {V : Nat} {m : Mem} (hI : Inv V m) (a b : Int32) : CALL (f_X8_keep a b) (f_X9_keep a b) V m := by
  have hI' := hI
  obtain ⟨P, T, C, B, D, K, L, w, hA, hS⟩ := hI
  obtain ⟨v, m1, m2, e8, e9, r⟩ := op_keep hA hS a b
  have F := Fr_2 (fr_X8_keep e8) (fr_X9_keep e9)
  exact ⟨v, m1, m2, V, e8, e9, ⟨P, T, C, B, D, K, L, Bk_c w (Sm_of F (by decide +kernel)) (Sm_of F (by decide +kernel)), sAc_c hA (Sm_of F (by decide +kernel)), r⟩, by omega⟩
theorem c_row {V : Nat} {m : Mem} (hI : Inv V m) (a b c : Int32) : CALL (f_X8_row a b c) (f_X9_row a b c) V m := by
  have hI' := hI
  obtain ⟨P, T, C, B, D, K, L, w, hA, hS⟩ := hI
  obtain ⟨v, m1, m2, e8, e9, r⟩ := op_row hS a b c
  have F := Fr_2 (fr_X8_row e8) (fr_X9_row e9)
  exact ⟨v, m1, m2, V, e8, e9, ⟨P, T, C, B, D, K, L, Bk_c w (Sm_of F (by decide +kernel)) (Sm_of F (by decide +kernel)), sAc_c hA (Sm_of F (by decide +kernel)), r⟩, by omega⟩
theorem c_put {V : Nat} {m : Mem} (hI : Inv V m) (a b : Int32) (x : Int64) : CALL (f_X8_put a b x) (f_X9_put a b x) V m := by
  have hI' := hI
  obtain ⟨P, T, C, B, D, K, L, w, hA, hS⟩ := hI
  obtain ⟨v, m1, m2, e8, e9, r⟩ := op_put hS a b x
  have F := Fr_2 (fr_X8_put e8) (fr_X9_put e9)
  exact ⟨v, m1, m2, V, e8, e9, ⟨P, T, C, B, D, K, L, Bk_c w (Sm_of F (by decide +kernel)) (Sm_of F (by decide +kernel)), sAc_c hA (Sm_of F (by decide +kernel)), r⟩, by omega⟩
theorem c_shift {V : Nat} {m : Mem} (hI : Inv V m) (a b c d e : Int32) : CALL (f_X8_shift a b c d e) (f_X9_shift a b c d e) V m := by
  have hI' := hI
  obtain ⟨P, T, C, B, D, K, L, w, hA, hS⟩ := hI
  obtain ⟨v, m1, m2, e8, e9, r⟩ := op_shift hS a b c d e
  have F := Fr_2 (fr_X8_shift e8) (fr_X9_shift e9)
  exact ⟨v, m1, m2, V, e8, e9, ⟨P, T, C, B, D, K, L, Bk_c w (Sm_of F (by decide +kernel)) (Sm_of F (by decide +kernel)), sAc_c hA (Sm_of F (by decide +kernel)), r⟩, by omega⟩
theorem c_card {V : Nat} {m : Mem} (hI : Inv V m) (hV : V < 2000000) (a b c : Int32) : CALL (f_X8_card a b c) (f_X9_card a b c) V m := by
  have hI' := hI
  obtain ⟨P, T, C, B, D, K, L, w, hA, hS⟩ := hI
  obtain ⟨v, m1, _, e8, -⟩ := op_card w.n w.c w.b a b c
  have f8 := fr_X8_card e8
  have w1 : Bk P T C V D K L m m1 := Bk_c w Sm.rf (Sm_of f8 (by decide +kernel))
  have hR : Sm [(126, none), (127, none), (128, none)] m m1 := Sm_of f8 (by decide +kernel)
  obtain ⟨v', n1, m2, e8', e9, r⟩ := op_card w1.n w1.c w1.b a b c
  have hh := Option.some.inj (e8.symm.trans e8')
  cases hh
  have f9 := fr_X9_card e9
  have F := Fr_2 f8 f9
  have hE : Sm cW m1 m2 := Sm_of f9 (by decide +kernel)
  have hA2 := sAc_c hA (Sm_of F (by decide +kernel))
  have hS2 := sSh_c hS (Sm_of F (by decide +kernel))
  rcases r with ⟨q1, q2⟩ | ⟨r1, r2, r3⟩
  · exact ⟨v, m1, m2, V, e8, e9, ⟨P, T, C, B, D, K, L, by rw [q2, q1]; exact w, hA2, hS2⟩, by omega⟩
  · exact ⟨v, m1, m2, V + 1, e8, e9, ⟨P, T, C + 1, B, D, K, L, Bk_c (show Bk P T (C + 1) (V + 1) D K L m1 m2 from ⟨r1, cTp_c w.p (Sm_of f8 (by decide +kernel)) (Sm_of F (by decide +kernel)), cTt_c w.t (Sm_of f8 (by decide +kernel)) (Sm_of F (by decide +kernel)), r2, r3, cTs_c w.s (Sm_of f8 (by decide +kernel)) (Sm_of F (by decide +kernel)), cLw_c w.l (Sm_of f8 (by decide +kernel)) (Sm_of F (by decide +kernel)), cCh_c w.h (Sm_of f8 (by decide +kernel)) (Sm_of F (by decide +kernel)), cTq_c w.q (Sm_of f8 (by decide +kernel)) (Sm_of F (by decide +kernel)), cMi_c w.m (Sm_of f8 (by decide +kernel)) (Sm_of F (by decide +kernel)), IH_grow w.i (by omega) (by omega) (Sm_of f8 (by decide +kernel))⟩) hE Sm.rf, hA2, hS2⟩, by omega⟩
theorem c_cards {V : Nat} {m : Mem} (hI : Inv V m) (hV : V < 2000000) (a b c : Int32) : CALL (f_X8_cards a b c) (f_X9_cards a b c) V m := by
  have hI' := hI
  obtain ⟨P, T, C, B, D, K, L, w, hA, hS⟩ := hI
  obtain ⟨v, m1, _, _, _, e8, -⟩ := op_cards2 w.n w.c w.b hS (fun _ => rfl) (fun _ => rfl) (fun _ => rfl) a b c
  have f8 := fr_X8_cards e8
  have w1 : Bk P T C V D K L m m1 := Bk_c w Sm.rf (Sm_of f8 (by decide +kernel))
  have hR : Sm [(126, none), (127, none), (128, none)] m m1 := Sm_of f8 (by decide +kernel)
  obtain ⟨v', n1, m2, C', V', e8', e9, r1, r2, r3, r4, r5⟩ := op_cards2 w1.n w1.c w1.b hS (fun i => hR.w 126 (by decide) i) (fun i => hR.w 127 (by decide) i) (fun i => hR.j 128 (by decide) i) a b c
  have hh := Option.some.inj (e8.symm.trans e8')
  cases hh
  have f9 := fr_X9_cards e9
  have F := Fr_2 f8 f9
  have hE : Sm cW m1 m2 := Sm_of f9 (by decide +kernel)
  have hA2 := sAc_c hA (Sm_of F (by decide +kernel))
  have hS2 := sSh_c hS (Sm_of F (by decide +kernel))
  rcases r5 with r5 | ⟨q1, q2⟩
  · exact ⟨v, m1, m2, V', e8, e9, ⟨P, T, C', B, D, K, L, Bk_c (show Bk P T C' V' D K L m1 m2 from ⟨r1, cTp_c w.p (Sm_of f8 (by decide +kernel)) (Sm_of F (by decide +kernel)), cTt_c w.t (Sm_of f8 (by decide +kernel)) (Sm_of F (by decide +kernel)), r2, r3, cTs_c w.s (Sm_of f8 (by decide +kernel)) (Sm_of F (by decide +kernel)), cLw_c w.l (Sm_of f8 (by decide +kernel)) (Sm_of F (by decide +kernel)), cCh_c w.h (Sm_of f8 (by decide +kernel)) (Sm_of F (by decide +kernel)), cTq_c w.q (Sm_of f8 (by decide +kernel)) (Sm_of F (by decide +kernel)), cMi_c w.m (Sm_of f8 (by decide +kernel)) (Sm_of F (by decide +kernel)), IH_grow w.i (by omega) (by omega) (Sm_of f8 (by decide +kernel))⟩) hE Sm.rf, hA2, hS2⟩, by omega⟩
  · exact ⟨v, m1, m2, V, e8, e9, ⟨P, T, C, B, D, K, L, by rw [q2, q1]; exact w, hA2, hS2⟩, by omega⟩
theorem c_feed {V : Nat} {m : Mem} (hI : Inv V m) (a : Int32) : CALL (f_X8_feed a) (f_X9_feed a) V m := by
  have hI' := hI
  obtain ⟨P, T, C, B, D, K, L, w, hA, hS⟩ := hI
  obtain ⟨v, m1, _, _, e8, -⟩ := op_feed w.q a
  have f8 := fr_X8_feed e8
  have w1 : Bk P T C V D K L m m1 := Bk_c w Sm.rf (Sm_of f8 (by decide +kernel))
  have hR : Sm [(126, none), (127, none), (128, none)] m m1 := Sm_of f8 (by decide +kernel)
  obtain ⟨v', n1, m2, L', e8', e9, r⟩ := op_feed w1.q a
  have hh := Option.some.inj (e8.symm.trans e8')
  cases hh
  have f9 := fr_X9_feed e9
  have F := Fr_2 f8 f9
  have hE : Sm cW m1 m2 := Sm_of f9 (by decide +kernel)
  have hA2 := sAc_c hA (Sm_of F (by decide +kernel))
  have hS2 := sSh_c hS (Sm_of F (by decide +kernel))
  exact ⟨v, m1, m2, V, e8, e9, ⟨P, T, C, B, D, K, L', Bk_c (show Bk P T C V D K L' m1 m2 from ⟨cTn_c w.n (Sm_of f8 (by decide +kernel)) (Sm_of F (by decide +kernel)), cTp_c w.p (Sm_of f8 (by decide +kernel)) (Sm_of F (by decide +kernel)), cTt_c w.t (Sm_of f8 (by decide +kernel)) (Sm_of F (by decide +kernel)), cTc_c w.c (Sm_of f8 (by decide +kernel)) (Sm_of F (by decide +kernel)), cTb_c w.b (Sm_of f8 (by decide +kernel)), cTs_c w.s (Sm_of f8 (by decide +kernel)) (Sm_of F (by decide +kernel)), cLw_c w.l (Sm_of f8 (by decide +kernel)) (Sm_of F (by decide +kernel)), cCh_c w.h (Sm_of f8 (by decide +kernel)) (Sm_of F (by decide +kernel)), r, cMi_c w.m (Sm_of f8 (by decide +kernel)) (Sm_of F (by decide +kernel)), IH_c w.i (Sm_of f8 (by decide +kernel)) (Sm_of F (by decide +kernel))⟩) hE Sm.rf, hA2, hS2⟩, by omega⟩
theorem c_meet {V : Nat} {m : Mem} (hI : Inv V m) (a : Int32) : CALL (f_X8_meet a) (f_X9_meet a) V m := by
  have hI' := hI
  obtain ⟨P, T, C, B, D, K, L, w, hA, hS⟩ := hI
  obtain ⟨v, m1, _, e8, -⟩ := op_meet w.tb w.m a
  have f8 := fr_X8_meet e8
  have w1 : Bk P T C V D K L m m1 := Bk_c w Sm.rf (Sm_of f8 (by decide +kernel))
  have hR : Sm [(126, none), (127, none), (128, none)] m m1 := Sm_of f8 (by decide +kernel)
  obtain ⟨v', n1, m2, e8', e9, r⟩ := op_meet w1.tb w1.m a
  have hh := Option.some.inj (e8.symm.trans e8')
  cases hh
  have f9 := fr_X9_meet e9
  have F := Fr_2 f8 f9
  have hE : Sm cW m1 m2 := Sm_of f9 (by decide +kernel)
  have hA2 := sAc_c hA (Sm_of F (by decide +kernel))
  have hS2 := sSh_c hS (Sm_of F (by decide +kernel))
  exact ⟨v, m1, m2, V, e8, e9, ⟨P, T, C, B, D, K, L, Bk_c (show Bk P T C V D K L m1 m2 from ⟨cTn_c w.n (Sm_of f8 (by decide +kernel)) (Sm_of F (by decide +kernel)), cTp_c w.p (Sm_of f8 (by decide +kernel)) (Sm_of F (by decide +kernel)), cTt_c w.t (Sm_of f8 (by decide +kernel)) (Sm_of F (by decide +kernel)), cTc_c w.c (Sm_of f8 (by decide +kernel)) (Sm_of F (by decide +kernel)), cTb_c w.b (Sm_of f8 (by decide +kernel)), cTs_c w.s (Sm_of f8 (by decide +kernel)) (Sm_of F (by decide +kernel)), cLw_c w.l (Sm_of f8 (by decide +kernel)) (Sm_of F (by decide +kernel)), cCh_c w.h (Sm_of f8 (by decide +kernel)) (Sm_of F (by decide +kernel)), cTq_c w.q (Sm_of f8 (by decide +kernel)) (Sm_of F (by decide +kernel)), r, IH_c w.i (Sm_of f8 (by decide +kernel)) (Sm_of F (by decide +kernel))⟩) hE Sm.rf, hA2, hS2⟩, by omega⟩
theorem c_wish {V : Nat} {m : Mem} (hI : Inv V m) (a b : Int32) : CALL (f_X8_wish a b) (f_X9_wish a b) V m := by
  have hI' := hI
  obtain ⟨P, T, C, B, D, K, L, w, hA, hS⟩ := hI
  obtain ⟨v, m1, _, e8, -⟩ := op_wish w.tb a b
  have f8 := fr_X8_wish e8
  have w1 : Bk P T C V D K L m m1 := Bk_c w Sm.rf (Sm_of f8 (by decide +kernel))
  have hR : Sm [(126, none), (127, none), (128, none)] m m1 := Sm_of f8 (by decide +kernel)
  obtain ⟨v', n1, m2, e8', e9⟩ := op_wish w1.tb a b
  have hh := Option.some.inj (e8.symm.trans e8')
  cases hh
  have f9 := fr_X9_wish e9
  have F := Fr_2 f8 f9
  have hE : Sm cW m1 m2 := Sm_of f9 (by decide +kernel)
  have hA2 := sAc_c hA (Sm_of F (by decide +kernel))
  have hS2 := sSh_c hS (Sm_of F (by decide +kernel))
  exact ⟨v, m1, m2, V, e8, e9, ⟨P, T, C, B, D, K, L, Bk_c (show Bk P T C V D K L m1 m2 from ⟨cTn_c w.n (Sm_of f8 (by decide +kernel)) (Sm_of F (by decide +kernel)), cTp_c w.p (Sm_of f8 (by decide +kernel)) (Sm_of F (by decide +kernel)), cTt_c w.t (Sm_of f8 (by decide +kernel)) (Sm_of F (by decide +kernel)), cTc_c w.c (Sm_of f8 (by decide +kernel)) (Sm_of F (by decide +kernel)), cTb_c w.b (Sm_of f8 (by decide +kernel)), cTs_c w.s (Sm_of f8 (by decide +kernel)) (Sm_of F (by decide +kernel)), cLw_c w.l (Sm_of f8 (by decide +kernel)) (Sm_of F (by decide +kernel)), cCh_c w.h (Sm_of f8 (by decide +kernel)) (Sm_of F (by decide +kernel)), cTq_c w.q (Sm_of f8 (by decide +kernel)) (Sm_of F (by decide +kernel)), cMi_c w.m (Sm_of f8 (by decide +kernel)) (Sm_of F (by decide +kernel)), IH_c w.i (Sm_of f8 (by decide +kernel)) (Sm_of F (by decide +kernel))⟩) hE Sm.rf, hA2, hS2⟩, by omega⟩
theorem c_film {V : Nat} {m : Mem} (hI : Inv V m) (a : Int32) : CALL (f_X8_film a) (f_X9_film a) V m := by
  have hI' := hI
  obtain ⟨P, T, C, B, D, K, L, w, hA, hS⟩ := hI
  obtain ⟨v, m1, _, e8, -⟩ := op_film w.tb hS (fun _ => rfl) (fun _ => rfl) (fun _ => rfl) a
  have f8 := fr_X8_film e8
  have w1 : Bk P T C V D K L m m1 := Bk_c w Sm.rf (Sm_of f8 (by decide +kernel))
  have hR : Sm [(126, none), (127, none), (128, none)] m m1 := Sm_of f8 (by decide +kernel)
  obtain ⟨v', n1, m2, e8', e9⟩ := op_film w1.tb hS (fun i => hR.w 126 (by decide) i) (fun i => hR.w 127 (by decide) i) (fun i => hR.j 128 (by decide) i) a
  have hh := Option.some.inj (e8.symm.trans e8')
  cases hh
  have f9 := fr_X9_film e9
  have F := Fr_2 f8 f9
  have hE : Sm cW m1 m2 := Sm_of f9 (by decide +kernel)
  have hA2 := sAc_c hA (Sm_of F (by decide +kernel))
  have hS2 := sSh_c hS (Sm_of F (by decide +kernel))
  exact ⟨v, m1, m2, V, e8, e9, ⟨P, T, C, B, D, K, L, Bk_c (show Bk P T C V D K L m1 m2 from ⟨cTn_c w.n (Sm_of f8 (by decide +kernel)) (Sm_of F (by decide +kernel)), cTp_c w.p (Sm_of f8 (by decide +kernel)) (Sm_of F (by decide +kernel)), cTt_c w.t (Sm_of f8 (by decide +kernel)) (Sm_of F (by decide +kernel)), cTc_c w.c (Sm_of f8 (by decide +kernel)) (Sm_of F (by decide +kernel)), cTb_c w.b (Sm_of f8 (by decide +kernel)), cTs_c w.s (Sm_of f8 (by decide +kernel)) (Sm_of F (by decide +kernel)), cLw_c w.l (Sm_of f8 (by decide +kernel)) (Sm_of F (by decide +kernel)), cCh_c w.h (Sm_of f8 (by decide +kernel)) (Sm_of F (by decide +kernel)), cTq_c w.q (Sm_of f8 (by decide +kernel)) (Sm_of F (by decide +kernel)), cMi_c w.m (Sm_of f8 (by decide +kernel)) (Sm_of F (by decide +kernel)), IH_c w.i (Sm_of f8 (by decide +kernel)) (Sm_of F (by decide +kernel))⟩) hE Sm.rf, hA2, hS2⟩, by omega⟩
theorem as_rule {x : Int32} {m : Mem} {t : Int32 × Mem} (h : f_X7_answer (nI 0) x m = some t) : f_X8_rule x m = some t := by
  unfold f_X8_rule
  exact bs h rfl
theorem c_rule {V : Nat} {m : Mem} (hI : Inv V m) (hV : V < 2000000) (a : Int32) : CALL (f_X8_rule a) (f_X9_rule a) V m := by
  have hI' := hI
  obtain ⟨P, T, C, B, D, K, L, w, hA, hS⟩ := hI
  obtain ⟨v, m1, _, d8, -⟩ := op_answer (q := 0) (by decide) (by omega) w.tb w.i a
  have e8 := as_rule d8
  have f8 := fr_X8_rule e8
  have w1 : Bk P T C V D K L m m1 := Bk_c w Sm.rf (Sm_of f8 (by decide +kernel))
  have hR : Sm [(126, none), (127, none), (128, none)] m m1 := Sm_of f8 (by decide +kernel)
  obtain ⟨v', n1, m2, d8', d9, r⟩ := op_answer (q := 0) (by decide) (by omega) w1.tb w1.i a
  have hh := Option.some.inj (d8.symm.trans d8')
  cases hh
  have e9 : f_X9_rule a m1 = some (v, m2) := d9
  have f9 := fr_X9_rule e9
  have F := Fr_2 f8 f9
  have hE : Sm cW m1 m2 := Sm_of f9 (by decide +kernel)
  have hA2 := sAc_c hA (Sm_of F (by decide +kernel))
  have hS2 := sSh_c hS (Sm_of F (by decide +kernel))
  exact ⟨v, m1, m2, V, e8, e9, ⟨P, T, C, B, D, K, L, Bk_c (show Bk P T C V D K L m1 m2 from ⟨cTn_c w.n (Sm_of f8 (by decide +kernel)) (Sm_of F (by decide +kernel)), cTp_c w.p (Sm_of f8 (by decide +kernel)) (Sm_of F (by decide +kernel)), cTt_c w.t (Sm_of f8 (by decide +kernel)) (Sm_of F (by decide +kernel)), cTc_c w.c (Sm_of f8 (by decide +kernel)) (Sm_of F (by decide +kernel)), cTb_c w.b (Sm_of f8 (by decide +kernel)), cTs_c w.s (Sm_of f8 (by decide +kernel)) (Sm_of F (by decide +kernel)), cLw_c w.l (Sm_of f8 (by decide +kernel)) (Sm_of F (by decide +kernel)), cCh_c w.h (Sm_of f8 (by decide +kernel)) (Sm_of F (by decide +kernel)), cTq_c w.q (Sm_of f8 (by decide +kernel)) (Sm_of F (by decide +kernel)), cMi_c w.m (Sm_of f8 (by decide +kernel)) (Sm_of F (by decide +kernel)), r (TS'_of (Sm_of f9 (by decide +kernel)))⟩) hE Sm.rf, hA2, hS2⟩, by omega⟩
theorem as_order {x : Int32} {m : Mem} {t : Int32 × Mem} (h : f_X7_answer (nI 1) x m = some t) : f_X8_order x m = some t := by
  unfold f_X8_order
  exact bs h rfl
theorem c_order {V : Nat} {m : Mem} (hI : Inv V m) (hV : V < 2000000) (a : Int32) : CALL (f_X8_order a) (f_X9_order a) V m := by
  have hI' := hI
  obtain ⟨P, T, C, B, D, K, L, w, hA, hS⟩ := hI
  obtain ⟨v, m1, _, d8, -⟩ := op_answer (q := 1) (by decide) (by omega) w.tb w.i a
  have e8 := as_order d8
  have f8 := fr_X8_order e8
  have w1 : Bk P T C V D K L m m1 := Bk_c w Sm.rf (Sm_of f8 (by decide +kernel))
  have hR : Sm [(126, none), (127, none), (128, none)] m m1 := Sm_of f8 (by decide +kernel)
  obtain ⟨v', n1, m2, d8', d9, r⟩ := op_answer (q := 1) (by decide) (by omega) w1.tb w1.i a
  have hh := Option.some.inj (d8.symm.trans d8')
  cases hh
  have e9 : f_X9_order a m1 = some (v, m2) := d9
  have f9 := fr_X9_order e9
  have F := Fr_2 f8 f9
  have hE : Sm cW m1 m2 := Sm_of f9 (by decide +kernel)
  have hA2 := sAc_c hA (Sm_of F (by decide +kernel))
  have hS2 := sSh_c hS (Sm_of F (by decide +kernel))
  exact ⟨v, m1, m2, V, e8, e9, ⟨P, T, C, B, D, K, L, Bk_c (show Bk P T C V D K L m1 m2 from ⟨cTn_c w.n (Sm_of f8 (by decide +kernel)) (Sm_of F (by decide +kernel)), cTp_c w.p (Sm_of f8 (by decide +kernel)) (Sm_of F (by decide +kernel)), cTt_c w.t (Sm_of f8 (by decide +kernel)) (Sm_of F (by decide +kernel)), cTc_c w.c (Sm_of f8 (by decide +kernel)) (Sm_of F (by decide +kernel)), cTb_c w.b (Sm_of f8 (by decide +kernel)), cTs_c w.s (Sm_of f8 (by decide +kernel)) (Sm_of F (by decide +kernel)), cLw_c w.l (Sm_of f8 (by decide +kernel)) (Sm_of F (by decide +kernel)), cCh_c w.h (Sm_of f8 (by decide +kernel)) (Sm_of F (by decide +kernel)), cTq_c w.q (Sm_of f8 (by decide +kernel)) (Sm_of F (by decide +kernel)), cMi_c w.m (Sm_of f8 (by decide +kernel)) (Sm_of F (by decide +kernel)), r (TS'_of (Sm_of f9 (by decide +kernel)))⟩) hE Sm.rf, hA2, hS2⟩, by omega⟩
theorem as_times {x : Int32} {m : Mem} {t : Int32 × Mem} (h : f_X7_answer (nI 2) x m = some t) : f_X8_times x m = some t := by
  unfold f_X8_times
  exact bs h rfl
theorem c_times {V : Nat} {m : Mem} (hI : Inv V m) (hV : V < 2000000) (a : Int32) : CALL (f_X8_times a) (f_X9_times a) V m := by
  have hI' := hI
  obtain ⟨P, T, C, B, D, K, L, w, hA, hS⟩ := hI
  obtain ⟨v, m1, _, d8, -⟩ := op_answer (q := 2) (by decide) (by omega) w.tb w.i a
  have e8 := as_times d8
  have f8 := fr_X8_times e8
  have w1 : Bk P T C V D K L m m1 := Bk_c w Sm.rf (Sm_of f8 (by decide +kernel))
  have hR : Sm [(126, none), (127, none), (128, none)] m m1 := Sm_of f8 (by decide +kernel)
  obtain ⟨v', n1, m2, d8', d9, r⟩ := op_answer (q := 2) (by decide) (by omega) w1.tb w1.i a
  have hh := Option.some.inj (d8.symm.trans d8')
  cases hh
  have e9 : f_X9_times a m1 = some (v, m2) := d9
  have f9 := fr_X9_times e9
  have F := Fr_2 f8 f9
  have hE : Sm cW m1 m2 := Sm_of f9 (by decide +kernel)
  have hA2 := sAc_c hA (Sm_of F (by decide +kernel))
  have hS2 := sSh_c hS (Sm_of F (by decide +kernel))
  exact ⟨v, m1, m2, V, e8, e9, ⟨P, T, C, B, D, K, L, Bk_c (show Bk P T C V D K L m1 m2 from ⟨cTn_c w.n (Sm_of f8 (by decide +kernel)) (Sm_of F (by decide +kernel)), cTp_c w.p (Sm_of f8 (by decide +kernel)) (Sm_of F (by decide +kernel)), cTt_c w.t (Sm_of f8 (by decide +kernel)) (Sm_of F (by decide +kernel)), cTc_c w.c (Sm_of f8 (by decide +kernel)) (Sm_of F (by decide +kernel)), cTb_c w.b (Sm_of f8 (by decide +kernel)), cTs_c w.s (Sm_of f8 (by decide +kernel)) (Sm_of F (by decide +kernel)), cLw_c w.l (Sm_of f8 (by decide +kernel)) (Sm_of F (by decide +kernel)), cCh_c w.h (Sm_of f8 (by decide +kernel)) (Sm_of F (by decide +kernel)), cTq_c w.q (Sm_of f8 (by decide +kernel)) (Sm_of F (by decide +kernel)), cMi_c w.m (Sm_of f8 (by decide +kernel)) (Sm_of F (by decide +kernel)), r (TS'_of (Sm_of f9 (by decide +kernel)))⟩) hE Sm.rf, hA2, hS2⟩, by omega⟩
theorem c_law {V : Nat} {m : Mem} (hI : Inv V m) (hV : V < 2000000)  : CALL (f_X8_law ) (f_X9_law ) V m := by
  have hI' := hI
  obtain ⟨P, T, C, B, D, K, L, w, hA, hS⟩ := hI
  obtain ⟨v, m1, _, e8, -⟩ := op_law w.q w.l w.n.2.2.2 hV
  have f8 := fr_X8_law e8
  have w1 : Bk P T C V D K L m m1 := Bk_c w Sm.rf (Sm_of f8 (by decide +kernel))
  have hR : Sm [(126, none), (127, none), (128, none)] m m1 := Sm_of f8 (by decide +kernel)
  obtain ⟨v', n1, m2, e8', e9, r1, r2, r3⟩ := op_law w1.q w1.l w1.n.2.2.2 hV
  have hh := Option.some.inj (e8.symm.trans e8')
  cases hh
  have f9 := fr_X9_law e9
  have F := Fr_2 f8 f9
  have hE : Sm cW m1 m2 := Sm_of f9 (by decide +kernel)
  have hA2 := sAc_c hA (Sm_of F (by decide +kernel))
  have hS2 := sSh_c hS (Sm_of F (by decide +kernel))
  rcases r3 with ⟨r3, -, -, -, r4, r5⟩ | r3
  · have f19 := (Sm_of f8 (F := [(85, some 19), (95, none)]) (by decide +kernel))
    have hts : TS' m m2 := TS'_of2 (Sm_of F (by decide +kernel)) ⟨r4.trans (f19.i 85 (i := 19) rfl), fun i => (r5 i).trans (f19.w 95 (by decide) i)⟩
    exact ⟨v, m1, m2, V, e8, e9, ⟨P, T, C, B, D, K, 0, Bk_c (show Bk P T C V D K 0 m1 m2 from ⟨cTn_v w.n (Sm_of f8 (by decide +kernel)) (Sm_of F (by decide +kernel)) r3, cTp_c w.p (Sm_of f8 (by decide +kernel)) (Sm_of F (by decide +kernel)), cTt_c w.t (Sm_of f8 (by decide +kernel)) (Sm_of F (by decide +kernel)), cTc_c w.c (Sm_of f8 (by decide +kernel)) (Sm_of F (by decide +kernel)), cTb_c w.b (Sm_of f8 (by decide +kernel)), cTs_c w.s (Sm_of f8 (by decide +kernel)) (Sm_of F (by decide +kernel)), r2, cCh_c w.h (Sm_of f8 (by decide +kernel)) (Sm_of F (by decide +kernel)), r1, cMi_c w.m (Sm_of f8 (by decide +kernel)) (Sm_of F (by decide +kernel)), IH_c' w.i (Sm_of f8 (by decide +kernel)) hts⟩) hE Sm.rf, hA2, hS2⟩, by omega⟩
  · exact ⟨v, m1, m2, V + 1, e8, e9, ⟨P, T, C, B, D, K, 0, Bk_c (show Bk P T C (V + 1) D K 0 m1 m2 from ⟨cTn_v w.n (Sm_of f8 (by decide +kernel)) (Sm_of F (by decide +kernel)) r3, cTp_c w.p (Sm_of f8 (by decide +kernel)) (Sm_of F (by decide +kernel)), cTt_c w.t (Sm_of f8 (by decide +kernel)) (Sm_of F (by decide +kernel)), cTc_c w.c (Sm_of f8 (by decide +kernel)) (Sm_of F (by decide +kernel)), cTb_c w.b (Sm_of f8 (by decide +kernel)), cTs_c w.s (Sm_of f8 (by decide +kernel)) (Sm_of F (by decide +kernel)), r2, cCh_c w.h (Sm_of f8 (by decide +kernel)) (Sm_of F (by decide +kernel)), r1, cMi_c w.m (Sm_of f8 (by decide +kernel)) (Sm_of F (by decide +kernel)), IH_grow w.i (by omega) (by omega) (Sm_of f8 (by decide +kernel))⟩) hE Sm.rf, hA2, hS2⟩, by omega⟩
/-! frames by hand: mend, undo, redo -/
abbrev l8m : List (Nat × Option Nat) := [(2, none), (3, none), (5, none), (6, none), (7, none), (1, none), (19, none), (20, none), (21, none), (22, none), (23, none), (19, some 4), (19, some 5)]
theorem mendable_a {p : Int32} {m : Mem} {t : Nat × Mem} (h : f_X6_mendable p m = some t) : t.2 = m ∧ (t.1, (none : Option Nat)) ∈ l8m := by
  unfold f_X6_mendable at h
  simp only [sw] at h
  repeat' split at h
  all_goals (cases h; first | exact ⟨rfl, (by decide : ((2 : Nat), (none : Option Nat)) ∈ l8m)⟩ | exact ⟨rfl, (by decide : ((3 : Nat), (none : Option Nat)) ∈ l8m)⟩ | exact ⟨rfl, (by decide : ((5 : Nat), (none : Option Nat)) ∈ l8m)⟩ | exact ⟨rfl, (by decide : ((6 : Nat), (none : Option Nat)) ∈ l8m)⟩ | exact ⟨rfl, (by decide : ((7 : Nat), (none : Option Nat)) ∈ l8m)⟩)
theorem fr_X6_change {a b c : Int32} {m n : Mem} (h : f_X6_change a b c m = some n) : Fr l8m m n := by
  unfold f_X6_change at h
  obtain ⟨q, e1, h⟩ := Option.bind_eq_some_iff.mp h
  obtain ⟨e2, e3⟩ := mendable_a e1
  obtain ⟨_, -, -, h⟩ := ckS_s h
  have h' := Option.some.inj h
  rw [← h', e2]
  exact Fr_I (Fr_I Fr.rf e3) (by decide)
theorem fr_X8_mend_J57 {a b c d e : Int32} {m : Mem} {t : Int32 × Mem} (h : f_X8_mend_J57 a b c d e m = some t) : Fr l8m m t.2 := by
  unfold f_X8_mend_J57 at h
  split at h
  · obtain ⟨q, e1, h⟩ := Option.bind_eq_some_iff.mp h
    obtain ⟨e2, e3⟩ := mendable_a e1
    obtain ⟨_, -, -, h⟩ := ckS_s h
    rw [e2] at h
    change (if gI m q.1 (ix a) = c then some (gI m q.1 (ix a), m) else _) = some t at h
    split at h
    · cases h; exact Fr.rf
    · obtain ⟨q3, e4, h⟩ := Option.bind_eq_some_iff.mp h
      obtain ⟨q4, e5, h⟩ := Option.bind_eq_some_iff.mp h
      cases h
      exact ((fr_X1_note e4).sub (by decide)).trans (fr_X6_change e5)
  · cases h; exact Fr.rf
theorem fr_X8_mend {a b c : Int32} {m : Mem} {t : Int32 × Mem} (h : f_X8_mend a b c m = some t) : Fr l8m m t.2 := by
  unfold f_X8_mend at h
  split at h
  · cases h; exact Fr.rf
  split at h
  · cases h; exact Fr.rf
  have h := (ck_s h).2
  split at h
  · cases h; exact Fr.rf
  have h := (ck_s h).2
  split at h
  · split at h
    · cases h; exact Fr.rf
    split at h
    · exact fr_X8_mend_J57 h
    · exact fr_X8_mend_J57 h
  · cases h; exact Fr.rf
theorem fr_X8_undo {m : Mem} {t : Int32 × Mem} (h : f_X8_undo m = some t) : Fr l8m m t.2 := by
  unfold f_X8_undo at h
  obtain ⟨q, e1, h⟩ := Option.bind_eq_some_iff.mp h
  have f1 : Fr l8m m q.2 := (fr_X1_goBack e1).sub (by decide)
  split at h
  · have h := (ck_s (ck_s (ck_s h).2).2).2
    obtain ⟨q4, e5, h⟩ := Option.bind_eq_some_iff.mp h
    cases h
    exact f1.trans (fr_X6_change e5)
  · cases h; exact f1
theorem fr_X8_redo {m : Mem} {t : Int32 × Mem} (h : f_X8_redo m = some t) : Fr l8m m t.2 := by
  unfold f_X8_redo at h
  obtain ⟨q, e1, h⟩ := Option.bind_eq_some_iff.mp h
  have f1 : Fr l8m m q.2 := (fr_X1_goOn e1).sub (by decide)
  split at h
  · have h := (ck_s (ck_s (ck_s h).2).2).2
    obtain ⟨q4, e5, h⟩ := Option.bind_eq_some_iff.mp h
    cases h
    exact f1.trans (fr_X6_change e5)
  · cases h; exact f1
theorem c_undo {V : Nat} {m : Mem} (hI : Inv V m) (hV : V < 2000000)  : CALL (f_X8_undo ) (f_X9_undo ) V m := by
  have hI' := hI
  obtain ⟨P, T, C, B, D, K, L, w, hA, hS⟩ := hI
  obtain ⟨v, m1, _, e8, -⟩ := op_undo w.n w.p w.t w.h
  have f8 := fr_X8_undo e8
  have w1 : Bk P T C V D K L m m1 := Bk_c w Sm.rf (Sm_of f8 (by decide +kernel))
  have hR : Sm [(126, none), (127, none), (128, none)] m m1 := Sm_of f8 (by decide +kernel)
  obtain ⟨v', n1, m2, e8', e9, r⟩ := op_undo w1.n w1.p w1.t w1.h
  have hh := Option.some.inj (e8.symm.trans e8')
  cases hh
  have f9 := fr_X9_undo e9
  have F := Fr_2 f8 f9
  have hE : Sm cW m1 m2 := Sm_of f9 (by decide +kernel)
  have hA2 := sAc_c hA (Sm_of F (by decide +kernel))
  have hS2 := sSh_c hS (Sm_of F (by decide +kernel))
  rcases r with ⟨q1, q2⟩ | ⟨r1, r2, r3, D', r4⟩
  · exact ⟨v, m1, m2, V, e8, e9, ⟨P, T, C, B, D, K, L, by rw [q2, q1]; exact w, hA2, hS2⟩, by omega⟩
  · exact ⟨v, m1, m2, V + 1, e8, e9, ⟨P, T, C, B, D', K, L, Bk_c (show Bk P T C (V + 1) D' K L m1 m2 from ⟨r1, r2, r3, cTc_c w.c (Sm_of f8 (by decide +kernel)) (Sm_of F (by decide +kernel)), cTb_c w.b (Sm_of f8 (by decide +kernel)), cTs_c w.s (Sm_of f8 (by decide +kernel)) (Sm_of F (by decide +kernel)), cLw_c w.l (Sm_of f8 (by decide +kernel)) (Sm_of F (by decide +kernel)), r4, cTq_c w.q (Sm_of f8 (by decide +kernel)) (Sm_of F (by decide +kernel)), cMi_c w.m (Sm_of f8 (by decide +kernel)) (Sm_of F (by decide +kernel)), IH_grow w.i (by omega) (by omega) (Sm_of f8 (by decide +kernel))⟩) hE Sm.rf, hA2, hS2⟩, by omega⟩
theorem c_redo {V : Nat} {m : Mem} (hI : Inv V m) (hV : V < 2000000)  : CALL (f_X8_redo ) (f_X9_redo ) V m := by
  have hI' := hI
  obtain ⟨P, T, C, B, D, K, L, w, hA, hS⟩ := hI
  obtain ⟨v, m1, _, e8, -⟩ := op_redo w.n w.p w.t w.h
  have f8 := fr_X8_redo e8
  have w1 : Bk P T C V D K L m m1 := Bk_c w Sm.rf (Sm_of f8 (by decide +kernel))
  have hR : Sm [(126, none), (127, none), (128, none)] m m1 := Sm_of f8 (by decide +kernel)
  obtain ⟨v', n1, m2, e8', e9, r⟩ := op_redo w1.n w1.p w1.t w1.h
  have hh := Option.some.inj (e8.symm.trans e8')
  cases hh
  have f9 := fr_X9_redo e9
  have F := Fr_2 f8 f9
  have hE : Sm cW m1 m2 := Sm_of f9 (by decide +kernel)
  have hA2 := sAc_c hA (Sm_of F (by decide +kernel))
  have hS2 := sSh_c hS (Sm_of F (by decide +kernel))
  rcases r with ⟨q1, q2⟩ | ⟨r1, r2, r3, D', r4⟩
  · exact ⟨v, m1, m2, V, e8, e9, ⟨P, T, C, B, D, K, L, by rw [q2, q1]; exact w, hA2, hS2⟩, by omega⟩
  · exact ⟨v, m1, m2, V + 1, e8, e9, ⟨P, T, C, B, D', K, L, Bk_c (show Bk P T C (V + 1) D' K L m1 m2 from ⟨r1, r2, r3, cTc_c w.c (Sm_of f8 (by decide +kernel)) (Sm_of F (by decide +kernel)), cTb_c w.b (Sm_of f8 (by decide +kernel)), cTs_c w.s (Sm_of f8 (by decide +kernel)) (Sm_of F (by decide +kernel)), cLw_c w.l (Sm_of f8 (by decide +kernel)) (Sm_of F (by decide +kernel)), r4, cTq_c w.q (Sm_of f8 (by decide +kernel)) (Sm_of F (by decide +kernel)), cMi_c w.m (Sm_of f8 (by decide +kernel)) (Sm_of F (by decide +kernel)), IH_grow w.i (by omega) (by omega) (Sm_of f8 (by decide +kernel))⟩) hE Sm.rf, hA2, hS2⟩, by omega⟩
theorem c_mend {V : Nat} {m : Mem} (hI : Inv V m) (hV : V < 2000000) (a b c : Int32) : CALL (f_X8_mend a b c) (f_X9_mend a b c) V m := by
  have hI' := hI
  obtain ⟨P, T, C, B, D, K, L, w, hA, hS⟩ := hI
  obtain ⟨v, m1, _, e8, -⟩ := op_mend w.n w.p w.t w.h a b c
  have f8 := fr_X8_mend e8
  have w1 : Bk P T C V D K L m m1 := Bk_c w Sm.rf (Sm_of f8 (by decide +kernel))
  have hR : Sm [(126, none), (127, none), (128, none)] m m1 := Sm_of f8 (by decide +kernel)
  obtain ⟨v', n1, m2, e8', e9, r⟩ := op_mend w1.n w1.p w1.t w1.h a b c
  have hh := Option.some.inj (e8.symm.trans e8')
  cases hh
  have f9 := fr_X9_mend e9
  have F := Fr_2 f8 f9
  have hE : Sm cW m1 m2 := Sm_of f9 (by decide +kernel)
  have hA2 := sAc_c hA (Sm_of F (by decide +kernel))
  have hS2 := sSh_c hS (Sm_of F (by decide +kernel))
  rcases r with ⟨q1, q2⟩ | ⟨r1, r2, r3, D', K', r4⟩
  · exact ⟨v, m1, m2, V, e8, e9, ⟨P, T, C, B, D, K, L, by rw [q2, q1]; exact w, hA2, hS2⟩, by omega⟩
  · exact ⟨v, m1, m2, V + 1, e8, e9, ⟨P, T, C, B, D', K', L, Bk_c (show Bk P T C (V + 1) D' K' L m1 m2 from ⟨r1, r2, r3, cTc_c w.c (Sm_of f8 (by decide +kernel)) (Sm_of F (by decide +kernel)), cTb_c w.b (Sm_of f8 (by decide +kernel)), cTs_c w.s (Sm_of f8 (by decide +kernel)) (Sm_of F (by decide +kernel)), cLw_c w.l (Sm_of f8 (by decide +kernel)) (Sm_of F (by decide +kernel)), r4, cTq_c w.q (Sm_of f8 (by decide +kernel)) (Sm_of F (by decide +kernel)), cMi_c w.m (Sm_of f8 (by decide +kernel)) (Sm_of F (by decide +kernel)), IH_grow w.i (by omega) (by omega) (Sm_of f8 (by decide +kernel))⟩) hE Sm.rf, hA2, hS2⟩, by omega⟩
