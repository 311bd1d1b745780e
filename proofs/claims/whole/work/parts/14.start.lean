/-! THE START OF THE LAW -/
def fl0 : List Cond := flatC (Jvm.Cond.and given_1 narrow_1)
theorem sm_0 : (Cond.arrayOf (Term.static "SpeaksInTurn" "LEAST_SET" "[I") .int) ∈ fl0 ∧ (Cond.eq (.length (Term.static "SpeaksInTurn" "LEAST_SET" "[I")) (.int (Int32.ofNat 3))) ∈ fl0 ∧ ∀ j, j < 3 → (Cond.eq (.elem (Term.static "SpeaksInTurn" "LEAST_SET" "[I") (.int (Int32.ofNat j))) (.int (st_0.getD j 0))) ∈ fl0 := by decide +kernel
theorem sm_1 : (Cond.arrayOf (Term.static "SpeaksInTurn" "MOST_SET" "[I") .int) ∈ fl0 ∧ (Cond.eq (.length (Term.static "SpeaksInTurn" "MOST_SET" "[I")) (.int (Int32.ofNat 3))) ∈ fl0 ∧ ∀ j, j < 3 → (Cond.eq (.elem (Term.static "SpeaksInTurn" "MOST_SET" "[I") (.int (Int32.ofNat j))) (.int (st_1.getD j 0))) ∈ fl0 := by decide +kernel
theorem sm_2 : (Cond.arrayOf (Term.static "SpeaksInTurn" "LEAST_MENDED" "[I") .int) ∈ fl0 ∧ (Cond.eq (.length (Term.static "SpeaksInTurn" "LEAST_MENDED" "[I")) (.int (Int32.ofNat 5))) ∈ fl0 ∧ ∀ j, j < 5 → (Cond.eq (.elem (Term.static "SpeaksInTurn" "LEAST_MENDED" "[I") (.int (Int32.ofNat j))) (.int (st_2.getD j 0))) ∈ fl0 := by decide +kernel
theorem sm_3 : (Cond.arrayOf (Term.static "SpeaksInTurn" "MOST_MENDED" "[I") .int) ∈ fl0 ∧ (Cond.eq (.length (Term.static "SpeaksInTurn" "MOST_MENDED" "[I")) (.int (Int32.ofNat 5))) ∈ fl0 ∧ ∀ j, j < 5 → (Cond.eq (.elem (Term.static "SpeaksInTurn" "MOST_MENDED" "[I") (.int (Int32.ofNat j))) (.int (st_3.getD j 0))) ∈ fl0 := by decide +kernel
theorem sm_4 : (Cond.arrayOf (Term.static "SpeaksInTurn$Acts" "ABOVE" "[I") .int) ∈ fl0 ∧ (Cond.eq (.length (Term.static "SpeaksInTurn$Acts" "ABOVE" "[I")) (.int (Int32.ofNat 8))) ∈ fl0 ∧ ∀ j, j < 8 → (Cond.eq (.elem (Term.static "SpeaksInTurn$Acts" "ABOVE" "[I") (.int (Int32.ofNat j))) (.int (st_4.getD j 0))) ∈ fl0 := by decide +kernel
theorem sm_5 : (Cond.arrayOf (Term.static "SpeaksInTurn$Acts" "OWN" "[I") .int) ∈ fl0 ∧ (Cond.eq (.length (Term.static "SpeaksInTurn$Acts" "OWN" "[I")) (.int (Int32.ofNat 32))) ∈ fl0 ∧ ∀ j, j < 32 → (Cond.eq (.elem (Term.static "SpeaksInTurn$Acts" "OWN" "[I") (.int (Int32.ofNat j))) (.int (st_5.getD j 0))) ∈ fl0 := by decide +kernel
theorem sm_s : (Cond.exactly (Term.string "SpeaksInTurn$Law" 70) "java/lang/String") ∈ fl0 ∧ (Cond.eq (.field (Term.string "SpeaksInTurn$Law" 70) "java/lang/String" "coder" "B") (.int 0)) ∈ fl0 ∧ (Cond.arrayOf (.field (Term.string "SpeaksInTurn$Law" 70) "java/lang/String" "value" "[B") .byte) ∈ fl0 ∧ (Cond.eq (.length (.field (Term.string "SpeaksInTurn$Law" 70) "java/lang/String" "value" "[B")) (.int (Int32.ofNat 8))) ∈ fl0 ∧ (∀ j, j < 8 → (Cond.eq (.elem (.field (Term.string "SpeaksInTurn$Law" 70) "java/lang/String" "value" "[B") (.int (Int32.ofNat j))) (.int (strB.getD j 0))) ∈ fl0) ∧ (Cond.eq (.static "java/lang/String" "COMPACT_STRINGS" "Z") (.int 1)) ∈ fl0 := by decide +kernel
def gSx (t0 t1 t2 t3 t4 t5 b k v : Nat) : Nat → Nat := fun j => if j = 0 then t0 else if j = 1 then t1 else if j = 2 then t2 else if j = 3 then t3 else if j = 4 then t4 else if j = 5 then t5 else if j = 100 then b else if j = 200 then k else v

abbrev TT : Type := List (List (Option Nat))
def rOf (T : TT) : UR := fun a k => (T.getD a []).getD k none
def setT (T : TT) (q : Nat × Nat × Nat) : TT := T.set q.1 ((T.getD q.1 []).set q.2.1 (some q.2.2))
def okF : List (Nat × Nat × Nat) → TT → Bool
  | [], _ => true
  | q :: l, T => (decide (q.1 < T.length) && decide (q.2.1 < (T.getD q.1 []).length)) && okF l (setT T q)
theorem rOf_set {T : TT} {q : Nat × Nat × Nat} (h1 : q.1 < T.length) (h2 : q.2.1 < (T.getD q.1 []).length) : uR (rOf T) q.1 q.2.1 (some q.2.2) = rOf (setT T q) := by
  funext a k
  unfold rOf setT
  by_cases ha : a = q.1
  · subst ha
    have e : (T.set q.1 ((T.getD q.1 []).set q.2.1 (some q.2.2))).getD q.1 [] = (T.getD q.1 []).set q.2.1 (some q.2.2) := by
      rw [List.getD_eq_getElem?_getD, List.getElem?_set, if_pos rfl, if_pos h1]; rfl
    rw [e, uR, if_pos rfl, va_up]
    by_cases hk : k = q.2.1
    · subst hk
      rw [if_pos rfl, List.getD_eq_getElem?_getD, List.getElem?_set, if_pos rfl, if_pos h2]; rfl
    · rw [if_neg hk, List.getD_eq_getElem?_getD (l := (T.getD q.1 []).set q.2.1 (some q.2.2)), List.getElem?_set, if_neg (fun z => hk z.symm), ← List.getD_eq_getElem?_getD]
  · rw [uR_other ha]
    have e : (T.set q.1 ((T.getD q.1 []).set q.2.1 (some q.2.2))).getD a [] = T.getD a [] := by
      rw [List.getD_eq_getElem?_getD, List.getElem?_set, if_neg (fun z => ha z.symm), ← List.getD_eq_getElem?_getD]
    rw [e]
theorem rOf_fold : ∀ {l : List (Nat × Nat × Nat)} {T : TT}, okF l T = true → l.foldl (fun r q => uR r q.1 q.2.1 (some q.2.2)) (rOf T) = rOf (l.foldl setT T)
  | [], _, _ => rfl
  | q :: l, T, h => by
    unfold okF at h
    rw [Bool.and_eq_true, Bool.and_eq_true] at h
    rw [List.foldl_cons, List.foldl_cons, rOf_set (of_decide_eq_true h.1.1) (of_decide_eq_true h.1.2)]
    exact rOf_fold h.2
def T0 : TT := (rT false).map (fun row => row.map (fun _ => none))
theorem rOf_T0 : rOf T0 = fun _ _ => none := by
  funext a k
  unfold rOf
  have h : ∀ row ∈ T0, ∀ x ∈ row, x = none := by
    intro row hr x hx
    obtain ⟨r0, -, rfl⟩ := List.mem_map.mp hr
    obtain ⟨y, -, rfl⟩ := List.mem_map.mp hx
    rfl
  rw [List.getD_eq_getElem?_getD]
  cases hk : (T0.getD a [])[k]? with
  | none => rfl
  | some x =>
    have h2 : T0.getD a [] ∈ T0 := by
      rw [List.getD_eq_getElem?_getD] at hk ⊢
      cases ha : T0[a]? with
      | none => rw [ha] at hk; simp at hk
      | some row => exact List.mem_of_getElem? ha
    exact h _ h2 _ (List.mem_of_getElem? hk)
theorem rP_end : rP 133 = rF false := by
  unfold rP
  rw [← rOf_T0, rOf_fold (by decide +kernel)]
  have : (RPl.take 133).foldl setT T0 = rT false := by decide +kernel
  rw [this]; rfl
def m0 : Mem := (uP 27, wZ, false)
/-- THE PURE GOAL: on every script the law's loop ends with 1 -/
def Goal : Prop := ∀ g : Gx, gN g ≤ 384 → ∃ m', wh (f_law_L18 g) ((0 : Int32), m0) = some ((1 : Int32), m')

theorem law_walk {g : Gx} {t : Int32 × Mem} (h : wh (f_law_L18 g) ((0 : Int32), m0) = some t) (ht : t.1 = 1) : Wp g 1000 mi_law 0 [some (.ref 1100), none, none, none] [] 0 0 (shF.take 0) (uP 0) wZ (rP 0) (zL g) := by
  refine wc_newO (pc' := 3) (a := 0) (c0 := 8) (T := TX8) dL_law_0 q120 q121 q101 inX8 tyX8_ok rfl dfX8 s_0 (fresh_u (by decide +kernel)) (fresh_r (by decide +kernel)) (by decide) (by decide) rfl rfl rfl ?_
  refine wp_dup (pc' := 4) dL_law_3 rfl rfl ?_
  refine wc_callI (pc' := 7) (As := []) (rest := [.ref 0]) (kc2 := 85) (ks2 := 5968) dL_law_4 oi_L_9 c_1 (by decide) rfl (Nat.le_of_ble_eq_true rfl) (by decide) (by decide) rfl rfl rfl ?_
  refine wp_astore_n (pc' := 8) (L' := [some (.ref 1100), some (.ref 0), none, none]) dL_law_7 (by decide) rfl rfl rfl ?_
  refine wc_newO (pc' := 11) (a := 85) (c0 := 9) (T := TX9) dL_law_8 q1145 q1146 q110 inX9 tyX9_ok rfl dfX9 s_85 (fresh_u (by decide +kernel)) (fresh_r (by decide +kernel)) (by decide) (by decide) rfl rfl rfl ?_
  refine wp_dup (pc' := 12) dL_law_11 rfl rfl ?_
  refine wc_callI (pc' := 15) (As := []) (rest := [.ref 85]) (kc2 := 130) (ks2 := 9984) dL_law_12 oi_L_12 c_17 (by decide) rfl (Nat.le_of_ble_eq_true rfl) (by decide) (by decide) rfl rfl rfl ?_
  refine wp_astore_n (pc' := 16) (L' := [some (.ref 1100), some (.ref 0), some (.ref 85), none]) dL_law_15 (by decide) rfl rfl rfl ?_
  refine wp_iconst (pc' := 17) (0 : Int32) dL_law_16 ic_0 rfl ?_
  refine wp_istore_n (pc' := 18) (L' := [some (.ref 1100), some (.ref 0), some (.ref 85), some (.int (0 : Int32))]) dL_law_17 (by decide) rfl rfl rfl ?_
  have hB := wh_ok (A := A_law_18 g) (B := fun t => t.1 = 1) (fun s t h hP => k_law_L18 h hP) h ht
  rw [rP_end, show shF.take 130 = shF from List.take_of_length_le (by rw [shF_len]; exact Nat.le_refl _)]
  exact hB
theorem law_start (hG : Goal) {p : Program} {e : Env} {s : State} {m : MethodId} {below : List Frame} {meth : Method} {c : Code} (l : Launch) (hflags : l.flags = flags0) {b L : Nat} {xs : Nat → Int32} (hL : L ≤ 384) (C0 : lw_At p s m meth c b L xs) : W p l e room_1 s m #[Value.ref b] below meth c s.heap [] 0 0 (lw_Z below #[Value.ref b] s) (entryFrame m ([Value.ref b] : List Value).toArray 4) := by
  obtain ⟨hx, hb, hr, hml, hown, hts, hX, hbl, hlocks, hgv⟩ := C0
  have hflat : ∀ w ∈ fl0, w.before #[Value.ref b] s = true := flat_of_before _ hgv
  have htg : ∀ w ∈ TBg, w.before #[Value.ref b] s = true := fun w hw => hts w (List.mem_filter.mp hw).1
  have hA : ∀ a : Nat, a < s.heap.size → ¬ (fun q : Nat => s.heap.size ≤ q) a := fun a h1 h2 => absurd h1 (Nat.not_lt.mpr h2)
  have hcl : ∀ c0 : Nat, ∃ q : ClassId × (Nat → Nat), ∀ v, vwCl[c0]? = some v → u_Kn s v.1 v.2.1 v.2.2 q.1 q.2 := by
    intro c0
    match c0 with
    | 0 => obtain ⟨cC, iS, h⟩ := u_known (s := s) (C := "SpeaksInTurn$Acts") (T := TX0) (N := 6) htg inX0 (htg _ q429); exact ⟨(cC, iS), fun v hv => by cases hv; exact h⟩
    | 1 => obtain ⟨cC, iS, h⟩ := u_known (s := s) (C := "SpeaksInTurn$Changes") (T := TX1) (N := 6) htg inX1 (htg _ q252); exact ⟨(cC, iS), fun v hv => by cases hv; exact h⟩
    | 2 => obtain ⟨cC, iS, h⟩ := u_known (s := s) (C := "SpeaksInTurn$Law") (T := TX2) (N := 9) htg inX2 (htg _ q135); exact ⟨(cC, iS), fun v hv => by cases hv; exact h⟩
    | 3 => obtain ⟨cC, iS, h⟩ := u_known (s := s) (C := "SpeaksInTurn$Meeting") (T := TX3) (N := 19) htg inX3 (htg _ q289); exact ⟨(cC, iS), fun v hv => by cases hv; exact h⟩
    | 4 => obtain ⟨cC, iS, h⟩ := u_known (s := s) (C := "SpeaksInTurn$Minutes") (T := TX4) (N := 11) htg inX4 (htg _ q283); exact ⟨(cC, iS), fun v hv => by cases hv; exact h⟩
    | 5 => obtain ⟨cC, iS, h⟩ := u_known (s := s) (C := "SpeaksInTurn$Shelf") (T := TX5) (N := 4) htg inX5 (htg _ q458); exact ⟨(cC, iS), fun v hv => by cases hv; exact h⟩
    | 6 => obtain ⟨cC, iS, h⟩ := u_known (s := s) (C := "SpeaksInTurn$Table") (T := TX6) (N := 17) htg inX6 (htg _ q129); exact ⟨(cC, iS), fun v hv => by cases hv; exact h⟩
    | 7 => obtain ⟨cC, iS, h⟩ := u_known (s := s) (C := "SpeaksInTurn$Thought") (T := TX7) (N := 5) htg inX7 (htg _ q405); exact ⟨(cC, iS), fun v hv => by cases hv; exact h⟩
    | 8 => obtain ⟨cC, iS, h⟩ := u_known (s := s) (C := "SpeaksInTurn") (T := TX8) (N := 6) htg inX8 (htg _ q121); exact ⟨(cC, iS), fun v hv => by cases hv; exact h⟩
    | 9 => obtain ⟨cC, iS, h⟩ := u_known (s := s) (C := "SpeaksInTurnModel") (T := TX9) (N := 76) htg inX9 (htg _ q1146); exact ⟨(cC, iS), fun v hv => by cases hv; exact h⟩
    | n + 10 => exact ⟨(0, fun _ => 0), fun v hv => by simp [vwCl] at hv⟩
  obtain ⟨D, hD⟩ := Classical.axiomOfChoice hcl
  obtain ⟨cI, kI, pI0, hI1, hI2, hI3⟩ := Cond.arrayClass_spec (htg _ q169)
  obtain ⟨cJ0, kJ, pJ0, hJ1, hJ2, hJ3⟩ := Cond.arrayClass_spec (htg _ q482)
  have hao := hts _ q457
  obtain ⟨pS0, cS, kS, hS1, hS2, hS3, hS4, hS5⟩ := Cond.arrayOver_spec hao
  obtain ⟨t0, e0, hT0⟩ := va_Tof (tm := .static "SpeaksInTurn" "LEAST_SET" "[I") (ty := .int) (N := 3) (f := fun i => .int (st_0.getD i 0)) (A := fun q => s.heap.size ≤ q) (by decide) (hflat _ sm_0.1) (va_eqt (hflat _ sm_0.2.1)) (fun j hj => va_eqt (hflat _ (sm_0.2.2 j hj))) hA
  have hZ0 := va_Zref (A := fun q => s.heap.size ≤ q) (hts _ q711) (htg _ q101) e0 hA
  obtain ⟨t1, e1, hT1⟩ := va_Tof (tm := .static "SpeaksInTurn" "MOST_SET" "[I") (ty := .int) (N := 3) (f := fun i => .int (st_1.getD i 0)) (A := fun q => s.heap.size ≤ q) (by decide) (hflat _ sm_1.1) (va_eqt (hflat _ sm_1.2.1)) (fun j hj => va_eqt (hflat _ (sm_1.2.2 j hj))) hA
  have hZ1 := va_Zref (A := fun q => s.heap.size ≤ q) (hts _ q713) (htg _ q101) e1 hA
  obtain ⟨t2, e2, hT2⟩ := va_Tof (tm := .static "SpeaksInTurn" "LEAST_MENDED" "[I") (ty := .int) (N := 5) (f := fun i => .int (st_2.getD i 0)) (A := fun q => s.heap.size ≤ q) (by decide) (hflat _ sm_2.1) (va_eqt (hflat _ sm_2.2.1)) (fun j hj => va_eqt (hflat _ (sm_2.2.2 j hj))) hA
  have hZ2 := va_Zref (A := fun q => s.heap.size ≤ q) (hts _ q719) (htg _ q101) e2 hA
  obtain ⟨t3, e3, hT3⟩ := va_Tof (tm := .static "SpeaksInTurn" "MOST_MENDED" "[I") (ty := .int) (N := 5) (f := fun i => .int (st_3.getD i 0)) (A := fun q => s.heap.size ≤ q) (by decide) (hflat _ sm_3.1) (va_eqt (hflat _ sm_3.2.1)) (fun j hj => va_eqt (hflat _ (sm_3.2.2 j hj))) hA
  have hZ3 := va_Zref (A := fun q => s.heap.size ≤ q) (hts _ q721) (htg _ q101) e3 hA
  obtain ⟨t4, e4, hT4⟩ := va_Tof (tm := .static "SpeaksInTurn$Acts" "ABOVE" "[I") (ty := .int) (N := 8) (f := fun i => .int (st_4.getD i 0)) (A := fun q => s.heap.size ≤ q) (by decide) (hflat _ sm_4.1) (va_eqt (hflat _ sm_4.2.1)) (fun j hj => va_eqt (hflat _ (sm_4.2.2 j hj))) hA
  have hZ4 := va_Zref (A := fun q => s.heap.size ≤ q) (hts _ q1082) (htg _ q108) e4 hA
  obtain ⟨t5, e5, hT5⟩ := va_Tof (tm := .static "SpeaksInTurn$Acts" "OWN" "[I") (ty := .int) (N := 32) (f := fun i => .int (st_5.getD i 0)) (A := fun q => s.heap.size ≤ q) (by decide) (hflat _ sm_5.1) (va_eqt (hflat _ sm_5.2.1)) (fun j hj => va_eqt (hflat _ (sm_5.2.2 j hj))) hA
  have hZ5 := va_Zref (A := fun q => s.heap.size ≤ q) (hts _ q1080) (htg _ q108) e5 hA
  obtain ⟨adK, adV, hV, hE⟩ := vk_Sof (N := 1) (tm := fun _ => (Term.string "SpeaksInTurn$Law" 70)) (len := [8]) (byt := [[114, 118, 101, 110, 115, 116, 112, 108]]) (A := fun q => s.heap.size ≤ q) (fun i hi => by rw [show i = 0 by omega]; decide) (fun i hi => hflat _ sm_s.1) (fun i hi => hflat _ sm_s.2.1) (fun i hi => hflat _ sm_s.2.2.1) (fun i hi => by rw [show i = 0 by omega]; exact hflat _ sm_s.2.2.2.1) (fun i hi j hj => by rw [show i = 0 by omega] at hj ⊢; exact hflat _ (sm_s.2.2.2.2.1 j hj)) (fun i j hi hj hij => absurd (by omega) hij) hA
  have hR := vk_R.of (hts _ q599) (hE 0 (by decide))
  have hC := va_Zof (A := fun q => s.heap.size ≤ q) (hts _ q613) (htg _ q111) (va_eqt (hflat _ sm_s.2.2.2.2.2)) hA
  let g : Gx := (l, (fun c0 => (D c0).1, fun c0 => (D c0).2), s.heap.size, gSx t0 t1 t2 t3 t4 t5 b (adK 0) (adV 0), (cI, cJ0, cS), L, xs)
  have hSx : Sx g s s.heap := by
    refine ⟨fun j q hj => ?_, hX, hbl, hR, ⟨fun i hi => ?_, fun i j hi hj _ => by omega⟩, hC, ?_, va_AO.of hao⟩
    · match j, hj with
      | 0, hj => cases hj; exact ⟨hZ0, hT0⟩
      | 1, hj => cases hj; exact ⟨hZ1, hT1⟩
      | 2, hj => cases hj; exact ⟨hZ2, hT2⟩
      | 3, hj => cases hj; exact ⟨hZ3, hT3⟩
      | 4, hj => cases hj; exact ⟨hZ4, hT4⟩
      | 5, hj => cases hj; exact ⟨hZ5, hT5⟩
      | n + 6, hj => simp [stA] at hj
    · have := hV.1 0 (by decide)
      have e0 : i = 0 := by omega
      subst e0
      exact this
    · intro q hq
      simp only [nests, List.mem_cons, List.not_mem_nil, or_false] at hq
      rcases hq with rfl | rfl | rfl | rfl | rfl | rfl | rfl
      · exact va_Nw.of rfl (hts _ q130)
      · exact va_Nw.of rfl (hts _ q136)
      · exact va_Nw.of rfl (hts _ q253)
      · exact va_Nw.of rfl (hts _ q430)
      · exact va_Nw.of rfl (hts _ q459)
      · exact va_Nw.of rfl (hts _ q763)
      · exact va_Nw.of rfl (hts _ q975)
  have hK : va_K (gD g) vwCl (gT g) s := by
    refine ⟨fun c0 q hq => hD c0 q hq, fun k q hk => ?_⟩
    match k, hk with
    | 0, hk => cases hk; exact ⟨fun n z => ⟨(fun k h => by cases h), kI, hI2, pI0, hI3⟩, hI1⟩
    | 1, hk => cases hk; exact ⟨fun n z => ⟨(fun k h => by cases h), kJ, hJ2, pJ0, hJ3⟩, hJ1⟩
    | 2, hk => cases hk; exact ⟨fun n z => ⟨(fun k h => by cases h), kS, hS3, pS0, hS4⟩, kS, pS0, hS3, hS4, hS1, hS5⟩
    | n + 3, hk => simp [gT] at hk
  obtain ⟨m1, hm1⟩ := hG g hL
  have hw := law_walk hm1 rfl p e room_1 s m #[Value.ref b] below meth c ⟨⟨hx, hb, hml, hr, hlocks, fun h => by simp at h⟩, ⟨hown, htg, hK, Nat.le_refl _, hSx⟩, by decide, by decide, by decide, by decide⟩ s.heap [] _ ⟨rfl, by decide⟩ (fun k q h => by simp [w_ws] at h) va_S.rf (entry_has (g := g) (vs := [.ref 1100]) (n := 4) (Nat.le_of_ble_eq_true rfl))
  rw [lg_entry_eq]
  exact room_law hw (fun t ht => ht rfl)
