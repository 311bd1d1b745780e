noncomputable def f_X9_act  (p1 : Int32) (p2 : Int32) (p3 : Int32) (m : Mem) : Option (Int32 × Mem) := bnd (sI m 85 69 (0 : Int32)) (fun m1 => (f_X9_isBody p1 m1).bind (fun q2 => if ¬ q2.1 = 0 then ck p1 50 (bnd (sI q2.2 85 70 (gI q2.2 124 (ix p1))) (fun m3 => bnd (sI m3 85 71 p1) (fun m4 => sw p2 [((0 : Int32), (f_X9_knowsAs 4 (gI m4 85 70) p3 m4).bind (fun q5 => some (q5.1, q5.2))), ((1 : Int32), (f_X9_speaksAs 6 (gI m4 85 70) p3 m4).bind (fun q6 => some (q6.1, q6.2))), ((2 : Int32), (f_X9_stopsAs 4 (gI m4 85 70) p3 m4).bind (fun q7 => some (q7.1, q7.2))), ((3 : Int32), (f_X9_decidesAs 4 (gI m4 85 70) p3 m4).bind (fun q8 => some (q8.1, q8.2)))] (some ((0 : Int32), m4))))) else some ((0 : Int32), q2.2)))
theorem k_X9_act_E {g : Gx}  {p1 : Int32} {p2 : Int32} {p3 : Int32} {Q : Qy} {m : Mem} {t : Int32 × Mem} (h : f_X9_act p1 p2 p3 m = some t) (hP : pI Q t) : WpM g 893 mi_X9_act 0 [some (.ref 85), some (.int p1), some (.int p2), some (.int p3)] [] m (zM g mi_X9_act Q) := by
  refine wp_aload_n dX9_act_0 rfl rfl ?_
  refine wp_iconst (0 : Int32) dX9_act_1 ic_0 rfl ?_
  refine wm_putI dX9_act_2 s_85 fk_X9_449 rfl rfl h (fun m1 h => ?_)
  refine wp_aload_n dX9_act_5 rfl rfl ?_
  refine wp_iload_n dX9_act_6 rfl rfl ?_
  refine wm_callVI (As := [.int p1]) (rest := []) dX9_act_7 ok_X9_473 (by decide) rfl s_85 ⟨_, rfl⟩ (Nat.le_of_ble_eq_true rfl) ⟨rfl, rfl⟩ rfl (fun t h => o_X9_isBody h) h (fun q2 h => ?_)
  refine wm_if_ne 15 dX9_act_10 rfl rfl h (fun h => ?_) (fun h => ?_)
  · refine wp_aload_n dX9_act_15 rfl rfl ?_
    refine wp_aload_n dX9_act_16 rfl rfl ?_
    refine wm_getR dX9_act_17 s_85 fk_X9_124 rfl r_85_67 rfl ?_
    refine wp_iload_n dX9_act_20 rfl rfl ?_
    refine wm_iald dX9_act_21 s_124 rfl h (fun h => ?_)
    refine wm_putI dX9_act_22 s_85 fk_X9_464 rfl rfl h (fun m3 h => ?_)
    refine wp_aload_n dX9_act_25 rfl rfl ?_
    refine wp_iload_n dX9_act_26 rfl rfl ?_
    refine wm_putI dX9_act_27 s_85 fk_X9_458 rfl rfl h (fun m4 h => ?_)
    refine wp_iload_n dX9_act_30 rfl rfl ?_
    refine wm_tsw [((0 : Int32), 60), ((1 : Int32), 70), ((2 : Int32), 80), ((3 : Int32), 90)] 100 dX9_act_31 rfl (by decide) (by decide +kernel) (by decide +kernel) (by decide +kernel) h rfl ⟨fun h => ?_, fun h => ?_, fun h => ?_, fun h => ?_, trivial⟩ (fun h => ?_)
    · refine wp_aload_n dX9_act_60 rfl rfl ?_
      refine wp_aload_n dX9_act_61 rfl rfl ?_
      refine wm_getI dX9_act_62 s_85 fk_X9_464 rfl rfl ?_
      refine wp_iload_n dX9_act_65 rfl rfl ?_
      refine wm_callVI (As := [.int (gI m4 85 70), .int p3]) (rest := []) dX9_act_66 ok_X9_455 (by decide) rfl s_85 ⟨_, rfl⟩ (Nat.le_of_ble_eq_true rfl) ⟨rfl, rfl⟩ rfl (fun t h => o_X9_knowsAs 4 h) h (fun q5 h => ?_)
      exact wm_iret dX9_act_69 rfl ⟨rfl, rfl⟩ h hP
    · refine wp_aload_n dX9_act_70 rfl rfl ?_
      refine wp_aload_n dX9_act_71 rfl rfl ?_
      refine wm_getI dX9_act_72 s_85 fk_X9_464 rfl rfl ?_
      refine wp_iload_n dX9_act_75 rfl rfl ?_
      refine wm_callVI (As := [.int (gI m4 85 70), .int p3]) (rest := []) dX9_act_76 ok_X9_461 (by decide) rfl s_85 ⟨_, rfl⟩ (Nat.le_of_ble_eq_true rfl) ⟨rfl, rfl⟩ rfl (fun t h => o_X9_speaksAs 6 h) h (fun q6 h => ?_)
      exact wm_iret dX9_act_79 rfl ⟨rfl, rfl⟩ h hP
    · refine wp_aload_n dX9_act_80 rfl rfl ?_
      refine wp_aload_n dX9_act_81 rfl rfl ?_
      refine wm_getI dX9_act_82 s_85 fk_X9_464 rfl rfl ?_
      refine wp_iload_n dX9_act_85 rfl rfl ?_
      refine wm_callVI (As := [.int (gI m4 85 70), .int p3]) (rest := []) dX9_act_86 ok_X9_467 (by decide) rfl s_85 ⟨_, rfl⟩ (Nat.le_of_ble_eq_true rfl) ⟨rfl, rfl⟩ rfl (fun t h => o_X9_stopsAs 4 h) h (fun q7 h => ?_)
      exact wm_iret dX9_act_89 rfl ⟨rfl, rfl⟩ h hP
    · refine wp_aload_n dX9_act_90 rfl rfl ?_
      refine wp_aload_n dX9_act_91 rfl rfl ?_
      refine wm_getI dX9_act_92 s_85 fk_X9_464 rfl rfl ?_
      refine wp_iload_n dX9_act_95 rfl rfl ?_
      refine wm_callVI (As := [.int (gI m4 85 70), .int p3]) (rest := []) dX9_act_96 ok_X9_470 (by decide) rfl s_85 ⟨_, rfl⟩ (Nat.le_of_ble_eq_true rfl) ⟨rfl, rfl⟩ rfl (fun t h => o_X9_decidesAs 4 h) h (fun q8 h => ?_)
      exact wm_iret dX9_act_99 rfl ⟨rfl, rfl⟩ h hP
    · refine wp_iconst (0 : Int32) dX9_act_100 ic_0 rfl ?_
      exact wm_iret dX9_act_101 rfl ⟨rfl, rfl⟩ h hP
  · refine wp_iconst (0 : Int32) dX9_act_13 ic_0 rfl ?_
    exact wm_iret dX9_act_14 rfl ⟨rfl, rfl⟩ h hP
theorem o_X9_act {g : Gx}  {p1 : Int32} {p2 : Int32} {p3 : Int32} {m : Mem} {t : Int32 × Mem} (h : f_X9_act p1 p2 p3 m = some t) : MxM g 893 mi_X9_act [.ref 85, .int p1, .int p2, .int p3] m (qI t) := mx_of pn_X9 (Nat.le_of_ble_eq_true rfl) (k_X9_act_E h ⟨rfl, rfl, rfl, rfl, rfl⟩)
noncomputable def f_X9_adds  (p1 : Int32) (p2 : Int32) (p3 : Int32) (m : Mem) : Option Mem := ck (gI m 85 9) 20 (bnd (sI m 91 (ix (gI m 85 9)) p1) (fun m1 => ck (gI m1 85 9) 20 (bnd (sI m1 92 (ix (gI m1 85 9)) p2) (fun m2 => ck (gI m2 85 9) 20 (bnd (sI m2 93 (ix (gI m2 85 9)) p3) (fun m3 => bnd (sI m3 85 9 ((gI m3 85 9) + (1 : Int32))) (fun m4 => some m4)))))))
theorem k_X9_adds_E {g : Gx}  {p1 : Int32} {p2 : Int32} {p3 : Int32} {Q : Qy} {m : Mem} {t : Mem} (h : f_X9_adds p1 p2 p3 m = some t) (hP : pV Q t) : WpM g 1 mi_X9_adds 0 [some (.ref 85), some (.int p1), some (.int p2), some (.int p3)] [] m (zM g mi_X9_adds Q) := by
  refine wp_aload_n dX9_adds_0 rfl rfl ?_
  refine wm_getR dX9_adds_1 s_85 fk_X9_25 rfl r_85_10 rfl ?_
  refine wp_aload_n dX9_adds_4 rfl rfl ?_
  refine wm_getI dX9_adds_5 s_85 fk_X9_169 rfl rfl ?_
  refine wp_iload_n dX9_adds_8 rfl rfl ?_
  refine wm_iast dX9_adds_9 s_91 rfl h (fun m1 h => ?_)
  refine wp_aload_n dX9_adds_10 rfl rfl ?_
  refine wm_getR dX9_adds_11 s_85 fk_X9_28 rfl r_85_11 rfl ?_
  refine wp_aload_n dX9_adds_14 rfl rfl ?_
  refine wm_getI dX9_adds_15 s_85 fk_X9_169 rfl rfl ?_
  refine wp_iload_n dX9_adds_18 rfl rfl ?_
  refine wm_iast dX9_adds_19 s_92 rfl h (fun m2 h => ?_)
  refine wp_aload_n dX9_adds_20 rfl rfl ?_
  refine wm_getR dX9_adds_21 s_85 fk_X9_31 rfl r_85_12 rfl ?_
  refine wp_aload_n dX9_adds_24 rfl rfl ?_
  refine wm_getI dX9_adds_25 s_85 fk_X9_169 rfl rfl ?_
  refine wp_iload_n dX9_adds_28 rfl rfl ?_
  refine wm_iast dX9_adds_29 s_93 rfl h (fun m3 h => ?_)
  refine wp_aload_n dX9_adds_30 rfl rfl ?_
  refine wp_dup dX9_adds_31 rfl rfl ?_
  refine wm_getI dX9_adds_32 s_85 fk_X9_169 rfl rfl ?_
  refine wp_iconst (1 : Int32) dX9_adds_35 ic_1 rfl ?_
  refine wp_iadd dX9_adds_36 rfl ?_
  refine wm_putI dX9_adds_37 s_85 fk_X9_169 rfl rfl h (fun m4 h => ?_)
  exact wm_vret dX9_adds_40 rfl ⟨rfl, rfl⟩ h hP
theorem o_X9_adds {g : Gx}  {p1 : Int32} {p2 : Int32} {p3 : Int32} {m : Mem} {t : Mem} (h : f_X9_adds p1 p2 p3 m = some t) : MxM g 1 mi_X9_adds [.ref 85, .int p1, .int p2, .int p3] m (qV t) := mx_of pn_X9 (Nat.le_of_ble_eq_true rfl) (k_X9_adds_E h ⟨rfl, rfl, rfl, rfl, rfl⟩)
abbrev A_X9_bitsOf_4 (g : Gx)  (Q : Qy) (s : Int32 × Int32 × Mem) : Prop := WpM g 1 mi_X9_bitsOf 4 [none, some (.int s.1), some (.int s.2.1)] [] s.2.2 (zM g mi_X9_bitsOf Q)
abbrev P_X9_bitsOf_4 (g : Gx)  (Q : Qy) : ((Int32 × Int32 × Mem) ⊕ (Int32 × Mem)) → Prop := pS (A_X9_bitsOf_4 g Q) (pI Q)
noncomputable def f_X9_bitsOf_L4  (s : Int32 × Int32 × Mem) : Option ((Int32 × Int32 × Mem) ⊕ (Int32 × Mem)) := if s.2.1 = 0 then up (some (s.1, s.2.2)) else bnd (s.2.1 &&& (s.2.1 - (1 : Int32))) (fun y1 => some (Sum.inl ((s.1 + (1 : Int32)), y1, s.2.2)))
theorem k_X9_bitsOf_L4 {g : Gx}  {Q : Qy} {s : Int32 × Int32 × Mem} {t : (Int32 × Int32 × Mem) ⊕ (Int32 × Mem)} (h : f_X9_bitsOf_L4 s = some t) (hP : P_X9_bitsOf_4 g Q t) : A_X9_bitsOf_4 g Q s := by
  refine wp_iload_n dX9_bitsOf_4 rfl rfl ?_
  refine wm_if_eq 20 dX9_bitsOf_5 rfl rfl h (fun h => ?_) (fun h => ?_)
  · refine wm_up h hP (fun r h hP => ?_)
    refine wp_iload_n dX9_bitsOf_20 rfl rfl ?_
    exact wm_iret dX9_bitsOf_21 rfl ⟨rfl, rfl⟩ h hP
  · refine wp_inc dX9_bitsOf_8 rfl ii_1 (by decide) rfl rfl rfl ?_
    refine wp_iload_n dX9_bitsOf_11 rfl rfl ?_
    refine wp_iload_n dX9_bitsOf_12 rfl rfl ?_
    refine wp_iconst (1 : Int32) dX9_bitsOf_13 ic_1 rfl ?_
    refine wp_isub dX9_bitsOf_14 rfl ?_
    refine wp_iand dX9_bitsOf_15 rfl ?_
    refine wm_nm h (fun y1 h => ?_)
    refine wp_istore_n dX9_bitsOf_16 (by decide) rfl rfl rfl ?_
    refine wp_goto 4 dX9_bitsOf_17 rfl ?_
    have hB := wm_back h hP
    exact wm_mask [false, true, true] rfl (hB)
noncomputable def f_X9_bitsOf  (p1 : Int32) (m : Mem) : Option (Int32 × Mem) := wh (f_X9_bitsOf_L4) ((0 : Int32), p1, m)
theorem k_X9_bitsOf_E {g : Gx}  {p1 : Int32} {Q : Qy} {m : Mem} {t : Int32 × Mem} (h : f_X9_bitsOf p1 m = some t) (hP : pI Q t) : WpM g 1 mi_X9_bitsOf 0 [some (.int p1), none, none] [] m (zM g mi_X9_bitsOf Q) := by
  refine wp_iconst (0 : Int32) dX9_bitsOf_0 ic_0 rfl ?_
  refine wp_istore_n dX9_bitsOf_1 (by decide) rfl rfl rfl ?_
  refine wp_iload_n dX9_bitsOf_2 rfl rfl ?_
  refine wp_istore_n dX9_bitsOf_3 (by decide) rfl rfl rfl ?_
  have hB := wh_ok (A := A_X9_bitsOf_4 g Q) (B := pI Q) (fun s t h hP => k_X9_bitsOf_L4  h hP) h hP
  exact wm_mask [false, true, true] rfl (hB)
theorem o_X9_bitsOf {g : Gx}  {p1 : Int32} {m : Mem} {t : Int32 × Mem} (h : f_X9_bitsOf p1 m = some t) : MxM g 1 mi_X9_bitsOf [.int p1] m (qI t) := mx_of pn_X9 (Nat.le_of_ble_eq_true rfl) (k_X9_bitsOf_E h ⟨rfl, rfl, rfl, rfl, rfl⟩)
noncomputable def f_X9_isAlone  (p1 : Int32) (m : Mem) : Option (Int32 × Mem) := ck p1 20 ((f_X9_bitsOf ((gI m 93 (ix p1)) &&& (((1 : Int32) <<< ((gI m 85 6) &&& 31)) - (1 : Int32))) m).bind (fun q1 => if ¬ q1.1 = (1 : Int32) then bz (0 : Int32) (some ((0 : Int32), q1.2)) else bz (1 : Int32) (some ((1 : Int32), q1.2))))
theorem k_X9_isAlone_E {g : Gx}  {p1 : Int32} {Q : Qy} {m : Mem} {t : Int32 × Mem} (h : f_X9_isAlone p1 m = some t) (hP : pI Q t) : WpM g 2 mi_X9_isAlone 0 [some (.ref 85), some (.int p1)] [] m (zM g mi_X9_isAlone Q) := by
  refine wp_aload_n dX9_isAlone_0 rfl rfl ?_
  refine wm_getR dX9_isAlone_1 s_85 fk_X9_31 rfl r_85_12 rfl ?_
  refine wp_iload_n dX9_isAlone_4 rfl rfl ?_
  refine wm_iald dX9_isAlone_5 s_93 rfl h (fun h => ?_)
  refine wp_iconst (1 : Int32) dX9_isAlone_6 ic_1 rfl ?_
  refine wp_aload_n dX9_isAlone_7 rfl rfl ?_
  refine wm_getI dX9_isAlone_8 s_85 fk_X9_159 rfl rfl ?_
  refine wp_ishl dX9_isAlone_11 rfl ?_
  refine wp_iconst (1 : Int32) dX9_isAlone_12 ic_1 rfl ?_
  refine wp_isub dX9_isAlone_13 rfl ?_
  refine wp_iand dX9_isAlone_14 rfl ?_
  refine wm_callSI (As := [.int ((gI m 93 (ix p1)) &&& (((1 : Int32) <<< ((gI m 85 6) &&& 31)) - (1 : Int32)))]) (rest := []) dX9_isAlone_15 ok_X9_367 (by decide) rfl (Nat.le_of_ble_eq_true rfl) ⟨rfl, rfl⟩ rfl (fun t h => o_X9_bitsOf h) h (fun q1 h => ?_)
  refine wp_iconst (1 : Int32) dX9_isAlone_18 ic_1 rfl ?_
  refine wm_icmp_ne 26 dX9_isAlone_19 rfl rfl h (fun h => ?_) (fun h => ?_)
  · refine wp_iconst (0 : Int32) dX9_isAlone_26 ic_0 rfl ?_
    exact wm_zret dX9_isAlone_27 rfl ⟨rfl, rfl⟩ h hP
  · refine wp_iconst (1 : Int32) dX9_isAlone_22 ic_1 rfl ?_
    refine wp_goto 27 dX9_isAlone_23 rfl ?_
    exact wm_zret dX9_isAlone_27 rfl ⟨rfl, rfl⟩ h hP
theorem o_X9_isAlone {g : Gx}  {p1 : Int32} {m : Mem} {t : Int32 × Mem} (h : f_X9_isAlone p1 m = some t) : MxM g 2 mi_X9_isAlone [.ref 85, .int p1] m (qI t) := mx_of pn_X9 (Nat.le_of_ble_eq_true rfl) (k_X9_isAlone_E h ⟨rfl, rfl, rfl, rfl, rfl⟩)
noncomputable def f_X9_isSaid  (p1 : Int32) (m : Mem) : Option (Int32 × Mem) := ck p1 20 (if (gI m 100 (ix p1)) = (-2 : Int32) then bz (0 : Int32) (some ((0 : Int32), m)) else bz (1 : Int32) (some ((1 : Int32), m)))
theorem k_X9_isSaid_E {g : Gx}  {p1 : Int32} {Q : Qy} {m : Mem} {t : Int32 × Mem} (h : f_X9_isSaid p1 m = some t) (hP : pI Q t) : WpM g 1 mi_X9_isSaid 0 [some (.ref 85), some (.int p1)] [] m (zM g mi_X9_isSaid Q) := by
  refine wp_aload_n dX9_isSaid_0 rfl rfl ?_
  refine wm_getR dX9_isSaid_1 s_85 fk_X9_52 rfl r_85_35 rfl ?_
  refine wp_iload_n dX9_isSaid_4 rfl rfl ?_
  refine wm_iald dX9_isSaid_5 s_100 rfl h (fun h => ?_)
  refine wp_bipush (-2 : Int32) dX9_isSaid_6 ib_m2 rfl ?_
  refine wm_icmp_eq 15 dX9_isSaid_8 rfl rfl h (fun h => ?_) (fun h => ?_)
  · refine wp_iconst (0 : Int32) dX9_isSaid_15 ic_0 rfl ?_
    exact wm_zret dX9_isSaid_16 rfl ⟨rfl, rfl⟩ h hP
  · refine wp_iconst (1 : Int32) dX9_isSaid_11 ic_1 rfl ?_
    refine wp_goto 16 dX9_isSaid_12 rfl ?_
    exact wm_zret dX9_isSaid_16 rfl ⟨rfl, rfl⟩ h hP
theorem o_X9_isSaid {g : Gx}  {p1 : Int32} {m : Mem} {t : Int32 × Mem} (h : f_X9_isSaid p1 m = some t) : MxM g 1 mi_X9_isSaid [.ref 85, .int p1] m (qI t) := mx_of pn_X9 (Nat.le_of_ble_eq_true rfl) (k_X9_isSaid_E h ⟨rfl, rfl, rfl, rfl, rfl⟩)
abbrev A_X9_aloneSaid_4 (g : Gx)  (Q : Qy) (s : Int32 × Int32 × Int32 × Mem) : Prop := WpM g 3 mi_X9_aloneSaid 4 [some (.ref 85), some (.int s.1), some (.int s.2.1), some (.int s.2.2.1)] [] s.2.2.2 (zM g mi_X9_aloneSaid Q)
abbrev P_X9_aloneSaid_4 (g : Gx)  (Q : Qy) : ((Int32 × Int32 × Int32 × Mem) ⊕ (Int32 × Mem)) → Prop := pS (A_X9_aloneSaid_4 g Q) (pI Q)
noncomputable def f_X9_aloneSaid_L4  (s : Int32 × Int32 × Int32 × Mem) : Option ((Int32 × Int32 × Int32 × Mem) ⊕ (Int32 × Mem)) := if (gI s.2.2.2 85 9) ≤ s.2.2.1 then up (some (s.2.1, s.2.2.2)) else (f_X9_isAlone s.2.2.1 s.2.2.2).bind (fun q1 => if q1.1 = 0 then bnd (s.2.1 + (0 : Int32)) (fun y2 => some (Sum.inl (s.1, y2, (s.2.2.1 + (1 : Int32)), q1.2))) else if ¬ s.1 = 0 then bnd (s.2.1 + (1 : Int32)) (fun y3 => some (Sum.inl (s.1, y3, (s.2.2.1 + (1 : Int32)), q1.2))) else (f_X9_isSaid s.2.2.1 q1.2).bind (fun q4 => if q4.1 = 0 then bnd (s.2.1 + (0 : Int32)) (fun y5 => some (Sum.inl (s.1, y5, (s.2.2.1 + (1 : Int32)), q4.2))) else bnd (s.2.1 + (1 : Int32)) (fun y6 => some (Sum.inl (s.1, y6, (s.2.2.1 + (1 : Int32)), q4.2)))))
theorem k_X9_aloneSaid_L4 {g : Gx}  {Q : Qy} {s : Int32 × Int32 × Int32 × Mem} {t : (Int32 × Int32 × Int32 × Mem) ⊕ (Int32 × Mem)} (h : f_X9_aloneSaid_L4 s = some t) (hP : P_X9_aloneSaid_4 g Q t) : A_X9_aloneSaid_4 g Q s := by
  refine wp_iload_n dX9_aloneSaid_4 rfl rfl ?_
  refine wp_aload_n dX9_aloneSaid_5 rfl rfl ?_
  refine wm_getI dX9_aloneSaid_6 s_85 fk_X9_169 rfl rfl ?_
  refine wm_icmp_ge 46 dX9_aloneSaid_9 rfl rfl h (fun h => ?_) (fun h => ?_)
  · refine wm_up h hP (fun r h hP => ?_)
    refine wp_iload_n dX9_aloneSaid_46 rfl rfl ?_
    exact wm_iret dX9_aloneSaid_47 rfl ⟨rfl, rfl⟩ h hP
  · refine wp_iload_n dX9_aloneSaid_12 rfl rfl ?_
    refine wp_aload_n dX9_aloneSaid_13 rfl rfl ?_
    refine wp_iload_n dX9_aloneSaid_14 rfl rfl ?_
    refine wm_callVI (As := [.int s.2.2.1]) (rest := [.int s.2.1]) dX9_aloneSaid_15 ok_X9_373 (by decide) rfl s_85 ⟨_, rfl⟩ (Nat.le_of_ble_eq_true rfl) ⟨rfl, rfl⟩ rfl (fun t h => o_X9_isAlone h) h (fun q1 h => ?_)
    refine wm_if_eq 37 dX9_aloneSaid_18 rfl rfl h (fun h => ?_) (fun h => ?_)
    · refine wp_iconst (0 : Int32) dX9_aloneSaid_37 ic_0 rfl ?_
      refine wp_iadd dX9_aloneSaid_38 rfl ?_
      refine wm_nm h (fun y2 h => ?_)
      refine wp_istore_n dX9_aloneSaid_39 (by decide) rfl rfl rfl ?_
      refine wp_inc dX9_aloneSaid_40 rfl ii_1 (by decide) rfl rfl rfl ?_
      refine wp_goto 4 dX9_aloneSaid_43 rfl ?_
      have hB := wm_back h hP
      exact wm_mask [true, true, true, true] rfl (hB)
    · refine wp_iload_n dX9_aloneSaid_21 rfl rfl ?_
      refine wm_if_ne 33 dX9_aloneSaid_22 rfl rfl h (fun h => ?_) (fun h => ?_)
      · refine wp_iconst (1 : Int32) dX9_aloneSaid_33 ic_1 rfl ?_
        refine wp_goto 38 dX9_aloneSaid_34 rfl ?_
        refine wp_iadd dX9_aloneSaid_38 rfl ?_
        refine wm_nm h (fun y3 h => ?_)
        refine wp_istore_n dX9_aloneSaid_39 (by decide) rfl rfl rfl ?_
        refine wp_inc dX9_aloneSaid_40 rfl ii_1 (by decide) rfl rfl rfl ?_
        refine wp_goto 4 dX9_aloneSaid_43 rfl ?_
        have hB := wm_back h hP
        exact wm_mask [true, true, true, true] rfl (hB)
      · refine wp_aload_n dX9_aloneSaid_25 rfl rfl ?_
        refine wp_iload_n dX9_aloneSaid_26 rfl rfl ?_
        refine wm_callVI (As := [.int s.2.2.1]) (rest := [.int s.2.1]) dX9_aloneSaid_27 ok_X9_296 (by decide) rfl s_85 ⟨_, rfl⟩ (Nat.le_of_ble_eq_true rfl) ⟨rfl, rfl⟩ rfl (fun t h => o_X9_isSaid h) h (fun q4 h => ?_)
        refine wm_if_eq 37 dX9_aloneSaid_30 rfl rfl h (fun h => ?_) (fun h => ?_)
        · refine wp_iconst (0 : Int32) dX9_aloneSaid_37 ic_0 rfl ?_
          refine wp_iadd dX9_aloneSaid_38 rfl ?_
          refine wm_nm h (fun y5 h => ?_)
          refine wp_istore_n dX9_aloneSaid_39 (by decide) rfl rfl rfl ?_
          refine wp_inc dX9_aloneSaid_40 rfl ii_1 (by decide) rfl rfl rfl ?_
          refine wp_goto 4 dX9_aloneSaid_43 rfl ?_
          have hB := wm_back h hP
          exact wm_mask [true, true, true, true] rfl (hB)
        · refine wp_iconst (1 : Int32) dX9_aloneSaid_33 ic_1 rfl ?_
          refine wp_goto 38 dX9_aloneSaid_34 rfl ?_
          refine wp_iadd dX9_aloneSaid_38 rfl ?_
          refine wm_nm h (fun y6 h => ?_)
          refine wp_istore_n dX9_aloneSaid_39 (by decide) rfl rfl rfl ?_
          refine wp_inc dX9_aloneSaid_40 rfl ii_1 (by decide) rfl rfl rfl ?_
          refine wp_goto 4 dX9_aloneSaid_43 rfl ?_
          have hB := wm_back h hP
          exact wm_mask [true, true, true, true] rfl (hB)
noncomputable def f_X9_aloneSaid  (p1 : Int32) (m : Mem) : Option (Int32 × Mem) := wh (f_X9_aloneSaid_L4) (p1, (0 : Int32), (0 : Int32), m)
theorem k_X9_aloneSaid_E {g : Gx}  {p1 : Int32} {Q : Qy} {m : Mem} {t : Int32 × Mem} (h : f_X9_aloneSaid p1 m = some t) (hP : pI Q t) : WpM g 3 mi_X9_aloneSaid 0 [some (.ref 85), some (.int p1), none, none] [] m (zM g mi_X9_aloneSaid Q) := by
  refine wp_iconst (0 : Int32) dX9_aloneSaid_0 ic_0 rfl ?_
  refine wp_istore_n dX9_aloneSaid_1 (by decide) rfl rfl rfl ?_
  refine wp_iconst (0 : Int32) dX9_aloneSaid_2 ic_0 rfl ?_
  refine wp_istore_n dX9_aloneSaid_3 (by decide) rfl rfl rfl ?_
  have hB := wh_ok (A := A_X9_aloneSaid_4 g Q) (B := pI Q) (fun s t h hP => k_X9_aloneSaid_L4  h hP) h hP
  exact wm_mask [true, true, true, true] rfl (hB)
theorem o_X9_aloneSaid {g : Gx}  {p1 : Int32} {m : Mem} {t : Int32 × Mem} (h : f_X9_aloneSaid p1 m = some t) : MxM g 3 mi_X9_aloneSaid [.ref 85, .int p1] m (qI t) := mx_of pn_X9 (Nat.le_of_ble_eq_true rfl) (k_X9_aloneSaid_E h ⟨rfl, rfl, rfl, rfl, rfl⟩)
noncomputable def f_X9_asSort  (p1 : Int32) (p2 : Int64) (m : Mem) : Option (Int64 × Mem) := if ¬ p1 = 0 then if ¬ p1 = (1 : Int32) then if ¬ p1 = (2 : Int32) then if ¬ p1 = (4 : Int32) then some (p2, m) else if (lg_cmp p2 (0 : Int64)) = 0 then some ((0 : Int64), m) else some ((1 : Int64), m) else some (p2.toInt32.toInt64, m) else some (p2.toInt32.toInt16.toInt32.toInt64, m) else some (p2.toInt32.toInt8.toInt32.toInt64, m)
theorem k_X9_asSort_E {g : Gx}  {p1 : Int32} {p2 : Int64} {Q : Qy} {m : Mem} {t : Int64 × Mem} (h : f_X9_asSort p1 p2 m = some t) (hP : pL Q t) : WpM g 1 mi_X9_asSort 0 [some (.int p1), some (.long p2), none] [] m (zM g mi_X9_asSort Q) := by
  refine wp_iload_n dX9_asSort_0 rfl rfl ?_
  refine wm_if_ne 11 dX9_asSort_1 rfl rfl h (fun h => ?_) (fun h => ?_)
  · refine wp_iload_n dX9_asSort_11 rfl rfl ?_
    refine wp_iconst (1 : Int32) dX9_asSort_12 ic_1 rfl ?_
    refine wm_icmp_ne 23 dX9_asSort_13 rfl rfl h (fun h => ?_) (fun h => ?_)
    · refine wp_iload_n dX9_asSort_23 rfl rfl ?_
      refine wp_iconst (2 : Int32) dX9_asSort_24 ic_2 rfl ?_
      refine wm_icmp_ne 34 dX9_asSort_25 rfl rfl h (fun h => ?_) (fun h => ?_)
      · refine wp_iload_n dX9_asSort_34 rfl rfl ?_
        refine wp_iconst (4 : Int32) dX9_asSort_35 ic_4 rfl ?_
        refine wm_icmp_ne 53 dX9_asSort_36 rfl rfl h (fun h => ?_) (fun h => ?_)
        · refine wp_lload_n dX9_asSort_53 rfl rfl ?_
          exact wm_lret dX9_asSort_54 rfl ⟨rfl, rfl⟩ h hP
        · refine wp_lload_n dX9_asSort_39 rfl rfl ?_
          refine wp_lconst (0 : Int64) dX9_asSort_40 rfl rfl ?_
          refine wp_lcmp dX9_asSort_41 rfl ?_
          refine wm_if_eq 49 dX9_asSort_42 rfl rfl h (fun h => ?_) (fun h => ?_)
          · refine wp_lconst (0 : Int64) dX9_asSort_49 rfl rfl ?_
            refine wp_goto 54 dX9_asSort_50 rfl ?_
            exact wm_lret dX9_asSort_54 rfl ⟨rfl, rfl⟩ h hP
          · refine wp_lconst (1 : Int64) dX9_asSort_45 rfl rfl ?_
            refine wp_goto 54 dX9_asSort_46 rfl ?_
            exact wm_lret dX9_asSort_54 rfl ⟨rfl, rfl⟩ h hP
      · refine wp_lload_n dX9_asSort_28 rfl rfl ?_
        refine wp_l2i dX9_asSort_29 rfl ?_
        refine wp_i2l dX9_asSort_30 rfl ?_
        refine wp_goto 54 dX9_asSort_31 rfl ?_
        exact wm_lret dX9_asSort_54 rfl ⟨rfl, rfl⟩ h hP
    · refine wp_lload_n dX9_asSort_16 rfl rfl ?_
      refine wp_l2i dX9_asSort_17 rfl ?_
      refine wp_i2s dX9_asSort_18 rfl ?_
      refine wp_i2l dX9_asSort_19 rfl ?_
      refine wp_goto 54 dX9_asSort_20 rfl ?_
      exact wm_lret dX9_asSort_54 rfl ⟨rfl, rfl⟩ h hP
  · refine wp_lload_n dX9_asSort_4 rfl rfl ?_
    refine wp_l2i dX9_asSort_5 rfl ?_
    refine wp_i2b dX9_asSort_6 rfl ?_
    refine wp_i2l dX9_asSort_7 rfl ?_
    refine wp_goto 54 dX9_asSort_8 rfl ?_
    exact wm_lret dX9_asSort_54 rfl ⟨rfl, rfl⟩ h hP
theorem o_X9_asSort {g : Gx}  {p1 : Int32} {p2 : Int64} {m : Mem} {t : Int64 × Mem} (h : f_X9_asSort p1 p2 m = some t) : MxM g 1 mi_X9_asSort [.int p1, .long p2] m (qL t) := mx_of pn_X9 (Nat.le_of_ble_eq_true rfl) (k_X9_asSort_E h ⟨rfl, rfl, rfl, rfl, rfl⟩)
noncomputable def f_X9_becomes_J97  (v1 : Int32) (v2 : Int32) (v3 : Int32) (m : Mem) : Option (Int32 × Mem) := ck (gI m 85 5) 40 (bnd (sI m 87 (ix (gI m 85 5)) v1) (fun m2 => ck (gI m2 85 5) 40 (bnd (sI m2 88 (ix (gI m2 85 5)) v3) (fun m3 => ck (gI m3 85 5) 40 (bnd (sI m3 89 (ix (gI m3 85 5)) v2) (fun m4 => bnd (sI m4 85 5 ((gI m4 85 5) + (1 : Int32))) (fun m5 => bnd (sI m5 85 4 (gI m5 85 5)) (fun m6 => ck v1 42 (bnd (sI m6 86 (ix v1) v2) (fun m7 => some (v3, m7)))))))))))
theorem k_X9_becomes_J97 {g : Gx}  {v1 : Int32} {v2 : Int32} {v3 : Int32}  {Q : Qy} {m : Mem} {t : Int32 × Mem} (h : f_X9_becomes_J97 v1 v2 v3 m = some t) (hP : pI Q t) : WpM g 1 mi_X9_becomes 97 [some (.ref 85), some (.int v1), some (.int v2), some (.int v3), none] [] m (zM g mi_X9_becomes Q) := by
  refine wp_aload_n dX9_becomes_97 rfl rfl ?_
  refine wm_getR dX9_becomes_98 s_85 fk_X9_13 rfl r_85_1 rfl ?_
  refine wp_aload_n dX9_becomes_101 rfl rfl ?_
  refine wm_getI dX9_becomes_102 s_85 fk_X9_153 rfl rfl ?_
  refine wp_iload_n dX9_becomes_105 rfl rfl ?_
  refine wm_iast dX9_becomes_106 s_87 rfl h (fun m2 h => ?_)
  refine wp_aload_n dX9_becomes_107 rfl rfl ?_
  refine wm_getR dX9_becomes_108 s_85 fk_X9_16 rfl r_85_2 rfl ?_
  refine wp_aload_n dX9_becomes_111 rfl rfl ?_
  refine wm_getI dX9_becomes_112 s_85 fk_X9_153 rfl rfl ?_
  refine wp_iload_n dX9_becomes_115 rfl rfl ?_
  refine wm_iast dX9_becomes_116 s_88 rfl h (fun m3 h => ?_)
  refine wp_aload_n dX9_becomes_117 rfl rfl ?_
  refine wm_getR dX9_becomes_118 s_85 fk_X9_19 rfl r_85_3 rfl ?_
  refine wp_aload_n dX9_becomes_121 rfl rfl ?_
  refine wm_getI dX9_becomes_122 s_85 fk_X9_153 rfl rfl ?_
  refine wp_iload_n dX9_becomes_125 rfl rfl ?_
  refine wm_iast dX9_becomes_126 s_89 rfl h (fun m4 h => ?_)
  refine wp_aload_n dX9_becomes_127 rfl rfl ?_
  refine wp_dup dX9_becomes_128 rfl rfl ?_
  refine wm_getI dX9_becomes_129 s_85 fk_X9_153 rfl rfl ?_
  refine wp_iconst (1 : Int32) dX9_becomes_132 ic_1 rfl ?_
  refine wp_iadd dX9_becomes_133 rfl ?_
  refine wm_putI dX9_becomes_134 s_85 fk_X9_153 rfl rfl h (fun m5 h => ?_)
  refine wp_aload_n dX9_becomes_137 rfl rfl ?_
  refine wp_aload_n dX9_becomes_138 rfl rfl ?_
  refine wm_getI dX9_becomes_139 s_85 fk_X9_153 rfl rfl ?_
  refine wm_putI dX9_becomes_142 s_85 fk_X9_156 rfl rfl h (fun m6 h => ?_)
  refine wp_aload_n dX9_becomes_145 rfl rfl ?_
  refine wm_getR dX9_becomes_146 s_85 fk_X9_9 rfl r_85_0 rfl ?_
  refine wp_iload_n dX9_becomes_149 rfl rfl ?_
  refine wp_iload_n dX9_becomes_150 rfl rfl ?_
  refine wm_iast dX9_becomes_151 s_86 rfl h (fun m7 h => ?_)
  refine wp_iload_n dX9_becomes_152 rfl rfl ?_
  exact wm_iret dX9_becomes_153 rfl ⟨rfl, rfl⟩ h hP
abbrev A_X9_becomes_26 (g : Gx)  (Q : Qy) (s : Int32 × Int32 × Int32 × Int32 × Mem) : Prop := WpM g 1 mi_X9_becomes 26 [some (.ref 85), some (.int s.1), some (.int s.2.1), some (.int s.2.2.1), some (.int s.2.2.2.1)] [] s.2.2.2.2 (zM g mi_X9_becomes Q)
abbrev P_X9_becomes_26 (g : Gx)  (Q : Qy) : ((Int32 × Int32 × Int32 × Int32 × Mem) ⊕ (Int32 × Mem)) → Prop := pS (A_X9_becomes_26 g Q) (pI Q)
noncomputable def f_X9_becomes_L26  (s : Int32 × Int32 × Int32 × Int32 × Mem) : Option ((Int32 × Int32 × Int32 × Int32 × Mem) ⊕ (Int32 × Mem)) := if (40 : Int32) ≤ s.2.2.2.1 then up (bnd (sI s.2.2.2.2 85 5 ((gI s.2.2.2.2 85 5) - (1 : Int32))) (fun m8 => f_X9_becomes_J97 s.1 s.2.1 s.2.2.1 m8)) else ck s.2.2.2.1 40 (ck (s.2.2.2.1 - (1 : Int32)) 40 (bnd (sI s.2.2.2.2 87 (ix (s.2.2.2.1 - (1 : Int32))) (gI s.2.2.2.2 87 (ix s.2.2.2.1))) (fun m9 => ck s.2.2.2.1 40 (ck (s.2.2.2.1 - (1 : Int32)) 40 (bnd (sI m9 88 (ix (s.2.2.2.1 - (1 : Int32))) (gI m9 88 (ix s.2.2.2.1))) (fun m10 => ck s.2.2.2.1 40 (ck (s.2.2.2.1 - (1 : Int32)) 40 (bnd (sI m10 89 (ix (s.2.2.2.1 - (1 : Int32))) (gI m10 89 (ix s.2.2.2.1))) (fun m11 => some (Sum.inl (s.1, s.2.1, s.2.2.1, (s.2.2.2.1 + (1 : Int32)), m11)))))))))))
theorem k_X9_becomes_L26 {g : Gx}  {Q : Qy} {s : Int32 × Int32 × Int32 × Int32 × Mem} {t : (Int32 × Int32 × Int32 × Int32 × Mem) ⊕ (Int32 × Mem)} (h : f_X9_becomes_L26 s = some t) (hP : P_X9_becomes_26 g Q t) : A_X9_becomes_26 g Q s := by
  refine wp_iload dX9_becomes_26 rfl rfl ?_
  refine wp_bipush (40 : Int32) dX9_becomes_28 ib_40 rfl ?_
  refine wm_icmp_ge 87 dX9_becomes_30 rfl rfl h (fun h => ?_) (fun h => ?_)
  · refine wm_up h hP (fun r h hP => ?_)
    refine wp_aload_n dX9_becomes_87 rfl rfl ?_
    refine wp_dup dX9_becomes_88 rfl rfl ?_
    refine wm_getI dX9_becomes_89 s_85 fk_X9_153 rfl rfl ?_
    refine wp_iconst (1 : Int32) dX9_becomes_92 ic_1 rfl ?_
    refine wp_isub dX9_becomes_93 rfl ?_
    refine wm_putI dX9_becomes_94 s_85 fk_X9_153 rfl rfl h (fun m8 h => ?_)
    exact wm_mask [true, true, true, true, false] rfl (k_X9_becomes_J97  h hP)
  · refine wp_aload_n dX9_becomes_33 rfl rfl ?_
    refine wm_getR dX9_becomes_34 s_85 fk_X9_13 rfl r_85_1 rfl ?_
    refine wp_iload dX9_becomes_37 rfl rfl ?_
    refine wp_iconst (1 : Int32) dX9_becomes_39 ic_1 rfl ?_
    refine wp_isub dX9_becomes_40 rfl ?_
    refine wp_aload_n dX9_becomes_41 rfl rfl ?_
    refine wm_getR dX9_becomes_42 s_85 fk_X9_13 rfl r_85_1 rfl ?_
    refine wp_iload dX9_becomes_45 rfl rfl ?_
    refine wm_iald dX9_becomes_47 s_87 rfl h (fun h => ?_)
    refine wm_iast dX9_becomes_48 s_87 rfl h (fun m9 h => ?_)
    refine wp_aload_n dX9_becomes_49 rfl rfl ?_
    refine wm_getR dX9_becomes_50 s_85 fk_X9_16 rfl r_85_2 rfl ?_
    refine wp_iload dX9_becomes_53 rfl rfl ?_
    refine wp_iconst (1 : Int32) dX9_becomes_55 ic_1 rfl ?_
    refine wp_isub dX9_becomes_56 rfl ?_
    refine wp_aload_n dX9_becomes_57 rfl rfl ?_
    refine wm_getR dX9_becomes_58 s_85 fk_X9_16 rfl r_85_2 rfl ?_
    refine wp_iload dX9_becomes_61 rfl rfl ?_
    refine wm_iald dX9_becomes_63 s_88 rfl h (fun h => ?_)
    refine wm_iast dX9_becomes_64 s_88 rfl h (fun m10 h => ?_)
    refine wp_aload_n dX9_becomes_65 rfl rfl ?_
    refine wm_getR dX9_becomes_66 s_85 fk_X9_19 rfl r_85_3 rfl ?_
    refine wp_iload dX9_becomes_69 rfl rfl ?_
    refine wp_iconst (1 : Int32) dX9_becomes_71 ic_1 rfl ?_
    refine wp_isub dX9_becomes_72 rfl ?_
    refine wp_aload_n dX9_becomes_73 rfl rfl ?_
    refine wm_getR dX9_becomes_74 s_85 fk_X9_19 rfl r_85_3 rfl ?_
    refine wp_iload dX9_becomes_77 rfl rfl ?_
    refine wm_iald dX9_becomes_79 s_89 rfl h (fun h => ?_)
    refine wm_iast dX9_becomes_80 s_89 rfl h (fun m11 h => ?_)
    refine wp_inc dX9_becomes_81 rfl ii_1 (by decide) rfl rfl rfl ?_
    refine wp_goto 26 dX9_becomes_84 rfl ?_
    have hB := wm_back h hP
    exact wm_mask [true, true, true, true, true] rfl (hB)
noncomputable def f_X9_becomes  (p1 : Int32) (p2 : Int32) (m : Mem) : Option (Int32 × Mem) := ck p1 42 (bnd (gI m 86 (ix p1)) (fun y1 => if ¬ y1 = p2 then if ¬ (gI m 85 5) = (40 : Int32) then f_X9_becomes_J97 p1 p2 y1 m else wh (f_X9_becomes_L26) (p1, p2, y1, (1 : Int32), m) else some (y1, m)))
theorem k_X9_becomes_E {g : Gx}  {p1 : Int32} {p2 : Int32} {Q : Qy} {m : Mem} {t : Int32 × Mem} (h : f_X9_becomes p1 p2 m = some t) (hP : pI Q t) : WpM g 1 mi_X9_becomes 0 [some (.ref 85), some (.int p1), some (.int p2), none, none] [] m (zM g mi_X9_becomes Q) := by
  refine wp_aload_n dX9_becomes_0 rfl rfl ?_
  refine wm_getR dX9_becomes_1 s_85 fk_X9_9 rfl r_85_0 rfl ?_
  refine wp_iload_n dX9_becomes_4 rfl rfl ?_
  refine wm_iald dX9_becomes_5 s_86 rfl h (fun h => ?_)
  refine wm_nm h (fun y1 h => ?_)
  refine wp_istore_n dX9_becomes_6 (by decide) rfl rfl rfl ?_
  refine wp_iload_n dX9_becomes_7 rfl rfl ?_
  refine wp_iload_n dX9_becomes_8 rfl rfl ?_
  refine wm_icmp_ne 14 dX9_becomes_9 rfl rfl h (fun h => ?_) (fun h => ?_)
  · refine wp_aload_n dX9_becomes_14 rfl rfl ?_
    refine wm_getI dX9_becomes_15 s_85 fk_X9_153 rfl rfl ?_
    refine wp_bipush (40 : Int32) dX9_becomes_18 ib_40 rfl ?_
    refine wm_icmp_ne 97 dX9_becomes_20 rfl rfl h (fun h => ?_) (fun h => ?_)
    · exact wm_mask [true, true, true, true, false] rfl (k_X9_becomes_J97  h hP)
    · refine wp_iconst (1 : Int32) dX9_becomes_23 ic_1 rfl ?_
      refine wp_istore dX9_becomes_24 (by decide) rfl rfl rfl ?_
      have hB := wh_ok (A := A_X9_becomes_26 g Q) (B := pI Q) (fun s t h hP => k_X9_becomes_L26  h hP) h hP
      exact wm_mask [true, true, true, true, true] rfl (hB)
  · refine wp_iload_n dX9_becomes_12 rfl rfl ?_
    exact wm_iret dX9_becomes_13 rfl ⟨rfl, rfl⟩ h hP
theorem o_X9_becomes {g : Gx}  {p1 : Int32} {p2 : Int32} {m : Mem} {t : Int32 × Mem} (h : f_X9_becomes p1 p2 m = some t) : MxM g 1 mi_X9_becomes [.ref 85, .int p1, .int p2] m (qI t) := mx_of pn_X9 (Nat.le_of_ble_eq_true rfl) (k_X9_becomes_E h ⟨rfl, rfl, rfl, rfl, rfl⟩)
noncomputable def f_X9_bestTold  (p1 : Int32) (m : Mem) : Option (Int32 × Mem) := if ¬ p1 = 0 then if ¬ p1 = (1 : Int32) then some ((gI m 85 65), m) else some ((gI m 85 64), m) else some ((gI m 85 63), m)
theorem k_X9_bestTold_E {g : Gx}  {p1 : Int32} {Q : Qy} {m : Mem} {t : Int32 × Mem} (h : f_X9_bestTold p1 m = some t) (hP : pI Q t) : WpM g 1 mi_X9_bestTold 0 [some (.ref 85), some (.int p1)] [] m (zM g mi_X9_bestTold Q) := by
  refine wp_iload_n dX9_bestTold_0 rfl rfl ?_
  refine wm_if_ne 11 dX9_bestTold_1 rfl rfl h (fun h => ?_) (fun h => ?_)
  · refine wp_iload_n dX9_bestTold_11 rfl rfl ?_
    refine wp_iconst (1 : Int32) dX9_bestTold_12 ic_1 rfl ?_
    refine wm_icmp_ne 23 dX9_bestTold_13 rfl rfl h (fun h => ?_) (fun h => ?_)
    · refine wp_aload_n dX9_bestTold_23 rfl rfl ?_
      refine wm_getI dX9_bestTold_24 s_85 fk_X9_430 rfl rfl ?_
      exact wm_iret dX9_bestTold_27 rfl ⟨rfl, rfl⟩ h hP
    · refine wp_aload_n dX9_bestTold_16 rfl rfl ?_
      refine wm_getI dX9_bestTold_17 s_85 fk_X9_427 rfl rfl ?_
      refine wp_goto 27 dX9_bestTold_20 rfl ?_
      exact wm_iret dX9_bestTold_27 rfl ⟨rfl, rfl⟩ h hP
  · refine wp_aload_n dX9_bestTold_4 rfl rfl ?_
    refine wm_getI dX9_bestTold_5 s_85 fk_X9_424 rfl rfl ?_
    refine wp_goto 27 dX9_bestTold_8 rfl ?_
    exact wm_iret dX9_bestTold_27 rfl ⟨rfl, rfl⟩ h hP
theorem o_X9_bestTold {g : Gx}  {p1 : Int32} {m : Mem} {t : Int32 × Mem} (h : f_X9_bestTold p1 m = some t) : MxM g 1 mi_X9_bestTold [.ref 85, .int p1] m (qI t) := mx_of pn_X9 (Nat.le_of_ble_eq_true rfl) (k_X9_bestTold_E h ⟨rfl, rfl, rfl, rfl, rfl⟩)
noncomputable def f_X9_body  (p1 : Int32) (m : Mem) : Option (Int32 × Mem) := (f_X9_within p1.toInt64 (0 : Int64) (7 : Int64) m).bind (fun q1 => if ¬ q1.1 = 0 then if ¬ (gI q1.2 85 66) = (50 : Int32) then ck (gI q1.2 85 66) 50 (bnd (sI q1.2 124 (ix (gI q1.2 85 66)) p1) (fun m2 => bnd (sI m2 85 66 ((gI m2 85 66) + (1 : Int32))) (fun m3 => some (((gI m3 85 66) - (1 : Int32)), m3)))) else some ((-3 : Int32), q1.2) else some ((-1 : Int32), q1.2))
theorem k_X9_body_E {g : Gx}  {p1 : Int32} {Q : Qy} {m : Mem} {t : Int32 × Mem} (h : f_X9_body p1 m = some t) (hP : pI Q t) : WpM g 2 mi_X9_body 0 [some (.ref 85), some (.int p1)] [] m (zM g mi_X9_body Q) := by
  refine wp_iload_n dX9_body_0 rfl rfl ?_
  refine wp_i2l dX9_body_1 rfl ?_
  refine wp_lconst (0 : Int64) dX9_body_2 rfl rfl ?_
  refine wp_ldc2 dX9_body_3 q1714 rfl ?_
  refine wm_callSI (As := [.long p1.toInt64, .long (0 : Int64), .long (7 : Int64)]) (rest := []) dX9_body_6 ok_X9_162 (by decide) rfl (Nat.le_of_ble_eq_true rfl) ⟨rfl, rfl⟩ rfl (fun t h => o_X9_within h) h (fun q1 h => ?_)
  refine wm_if_ne 14 dX9_body_9 rfl rfl h (fun h => ?_) (fun h => ?_)
  · refine wp_aload_n dX9_body_14 rfl rfl ?_
    refine wm_getI dX9_body_15 s_85 fk_X9_444 rfl rfl ?_
    refine wp_bipush (50 : Int32) dX9_body_18 ib_50 rfl ?_
    refine wm_icmp_ne 26 dX9_body_20 rfl rfl h (fun h => ?_) (fun h => ?_)
    · refine wp_aload_n dX9_body_26 rfl rfl ?_
      refine wm_getR dX9_body_27 s_85 fk_X9_124 rfl r_85_67 rfl ?_
      refine wp_aload_n dX9_body_30 rfl rfl ?_
      refine wm_getI dX9_body_31 s_85 fk_X9_444 rfl rfl ?_
      refine wp_iload_n dX9_body_34 rfl rfl ?_
      refine wm_iast dX9_body_35 s_124 rfl h (fun m2 h => ?_)
      refine wp_aload_n dX9_body_36 rfl rfl ?_
      refine wp_dup dX9_body_37 rfl rfl ?_
      refine wm_getI dX9_body_38 s_85 fk_X9_444 rfl rfl ?_
      refine wp_iconst (1 : Int32) dX9_body_41 ic_1 rfl ?_
      refine wp_iadd dX9_body_42 rfl ?_
      refine wm_putI dX9_body_43 s_85 fk_X9_444 rfl rfl h (fun m3 h => ?_)
      refine wp_aload_n dX9_body_46 rfl rfl ?_
      refine wm_getI dX9_body_47 s_85 fk_X9_444 rfl rfl ?_
      refine wp_iconst (1 : Int32) dX9_body_50 ic_1 rfl ?_
      refine wp_isub dX9_body_51 rfl ?_
      exact wm_iret dX9_body_52 rfl ⟨rfl, rfl⟩ h hP
    · refine wp_bipush (-3 : Int32) dX9_body_23 ib_m3 rfl ?_
      exact wm_iret dX9_body_25 rfl ⟨rfl, rfl⟩ h hP
  · refine wp_iconst (-1 : Int32) dX9_body_12 ic_m1 rfl ?_
    exact wm_iret dX9_body_13 rfl ⟨rfl, rfl⟩ h hP
theorem o_X9_body {g : Gx}  {p1 : Int32} {m : Mem} {t : Int32 × Mem} (h : f_X9_body p1 m = some t) : MxM g 2 mi_X9_body [.ref 85, .int p1] m (qI t) := mx_of pn_X9 (Nat.le_of_ble_eq_true rfl) (k_X9_body_E h ⟨rfl, rfl, rfl, rfl, rfl⟩)
noncomputable def f_X9_byteAt   (m : Mem) : Option (Int32 × Mem) := if (gI m 85 22) ≤ (gI m 85 21) then some ((0 : Int32), m) else if 0 ≤ (gI m 85 20) then ck ((gI m 85 20) + (gI m 85 21)) 120 (some ((gI m 95 (ix ((gI m 85 20) + (gI m 85 21)))), m)) else ck (gI m 85 21) 120 (some ((gI m 94 (ix (gI m 85 21))), m))
theorem k_X9_byteAt_E {g : Gx}   {Q : Qy} {m : Mem} {t : Int32 × Mem} (h : f_X9_byteAt m = some t) (hP : pI Q t) : WpM g 1 mi_X9_byteAt 0 [some (.ref 85)] [] m (zM g mi_X9_byteAt Q) := by
  refine wp_aload_n dX9_byteAt_0 rfl rfl ?_
  refine wm_getI dX9_byteAt_1 s_85 fk_X9_230 rfl rfl ?_
  refine wp_aload_n dX9_byteAt_4 rfl rfl ?_
  refine wm_getI dX9_byteAt_5 s_85 fk_X9_233 rfl rfl ?_
  refine wm_icmp_ge 47 dX9_byteAt_8 rfl rfl h (fun h => ?_) (fun h => ?_)
  · refine wp_iconst (0 : Int32) dX9_byteAt_47 ic_0 rfl ?_
    exact wm_iret dX9_byteAt_48 rfl ⟨rfl, rfl⟩ h hP
  · refine wp_aload_n dX9_byteAt_11 rfl rfl ?_
    refine wm_getI dX9_byteAt_12 s_85 fk_X9_236 rfl rfl ?_
    refine wm_if_ge 30 dX9_byteAt_15 rfl rfl h (fun h => ?_) (fun h => ?_)
    · refine wp_aload_n dX9_byteAt_30 rfl rfl ?_
      refine wm_getR dX9_byteAt_31 s_85 fk_X9_37 rfl r_85_18 rfl ?_
      refine wp_aload_n dX9_byteAt_34 rfl rfl ?_
      refine wm_getI dX9_byteAt_35 s_85 fk_X9_236 rfl rfl ?_
      refine wp_aload_n dX9_byteAt_38 rfl rfl ?_
      refine wm_getI dX9_byteAt_39 s_85 fk_X9_230 rfl rfl ?_
      refine wp_iadd dX9_byteAt_42 rfl ?_
      refine wm_iald dX9_byteAt_43 s_95 rfl h (fun h => ?_)
      refine wp_goto 48 dX9_byteAt_44 rfl ?_
      exact wm_iret dX9_byteAt_48 rfl ⟨rfl, rfl⟩ h hP
    · refine wp_aload_n dX9_byteAt_18 rfl rfl ?_
      refine wm_getR dX9_byteAt_19 s_85 fk_X9_34 rfl r_85_16 rfl ?_
      refine wp_aload_n dX9_byteAt_22 rfl rfl ?_
      refine wm_getI dX9_byteAt_23 s_85 fk_X9_230 rfl rfl ?_
      refine wm_iald dX9_byteAt_26 s_94 rfl h (fun h => ?_)
      refine wp_goto 48 dX9_byteAt_27 rfl ?_
      exact wm_iret dX9_byteAt_48 rfl ⟨rfl, rfl⟩ h hP
theorem o_X9_byteAt {g : Gx}   {m : Mem} {t : Int32 × Mem} (h : f_X9_byteAt m = some t) : MxM g 1 mi_X9_byteAt [.ref 85] m (qI t) := mx_of pn_X9 (Nat.le_of_ble_eq_true rfl) (k_X9_byteAt_E h ⟨rfl, rfl, rfl, rfl, rfl⟩)
abbrev A_X9_product_10 (g : Gx) (d0 : Nat) (Q : Qy) (s : Int32 × Int32 × Mem) : Prop := WpM g (d0 + 2) mi_X9_product 10 [some (.ref 85), some (.int s.1), some (.int s.2.1), none] [] s.2.2 (zM g mi_X9_product Q)
abbrev P_X9_product_10 (g : Gx) (d0 : Nat) (Q : Qy) : ((Int32 × Int32 × Mem) ⊕ (Int32 × Mem)) → Prop := pS (A_X9_product_10 g d0 Q) (pI Q)
noncomputable def f_X9_product_J35 (rc : Mem → Option (Int32 × Mem)) (v1 : Int32) (v2 : Int32) (m : Mem) : Option ((Int32 × Int32 × Mem) ⊕ (Int32 × Mem)) := bnd (sI m 85 21 ((gI m 85 21) + (1 : Int32))) (fun m3 => (rc m3).bind (fun q4 => if ¬ v2 = (42 : Int32) then if ¬ q4.1 = 0 then if ¬ v2 = (47 : Int32) then dv q4.1 (bnd (v1 - v1 / q4.1 * q4.1) (fun y5 => (f_X9_byteAt q4.2).bind (fun q6 => some (Sum.inl (y5, q6.1, q6.2))))) else dv q4.1 (bnd (v1 / q4.1) (fun y7 => (f_X9_byteAt q4.2).bind (fun q8 => some (Sum.inl (y7, q8.1, q8.2))))) else (f_X9_byteAt q4.2).bind (fun q9 => some (Sum.inl ((0 : Int32), q9.1, q9.2))) else bnd (v1 * q4.1) (fun y10 => (f_X9_byteAt q4.2).bind (fun q11 => some (Sum.inl (y10, q11.1, q11.2))))))
theorem k_X9_product_J35 {g : Gx} {d0 : Nat} {rc : Mem → Option (Int32 × Mem)} (hrc : ∀ m t, rc m = some t → MxM g d0 mi_X9_one [.ref 85] m (qI t)) {v1 : Int32} {v2 : Int32}  {Q : Qy} {m : Mem} {t : (Int32 × Int32 × Mem) ⊕ (Int32 × Mem)} (h : f_X9_product_J35 rc v1 v2 m = some t) (hP : P_X9_product_10 g d0 Q t) : WpM g (d0 + 2) mi_X9_product 35 [some (.ref 85), some (.int v1), some (.int v2), none] [] m (zM g mi_X9_product Q) := by
  refine wp_aload_n dX9_product_35 rfl rfl ?_
  refine wp_dup dX9_product_36 rfl rfl ?_
  refine wm_getI dX9_product_37 s_85 fk_X9_230 rfl rfl ?_
  refine wp_iconst (1 : Int32) dX9_product_40 ic_1 rfl ?_
  refine wp_iadd dX9_product_41 rfl ?_
  refine wm_putI dX9_product_42 s_85 fk_X9_230 rfl rfl h (fun m3 h => ?_)
  refine wp_aload_n dX9_product_45 rfl rfl ?_
  refine wm_callVI (As := []) (rest := []) dX9_product_46 ok_X9_261 (by omega) rfl s_85 ⟨_, rfl⟩ (Nat.le_of_ble_eq_true rfl) ⟨rfl, rfl⟩ rfl (hrc _) h (fun q4 h => ?_)
  refine wp_istore_n dX9_product_49 (by decide) rfl rfl rfl ?_
  refine wp_iload_n dX9_product_50 rfl rfl ?_
  refine wp_bipush (42 : Int32) dX9_product_51 ib_42 rfl ?_
  refine wm_icmp_ne 62 dX9_product_53 rfl rfl h (fun h => ?_) (fun h => ?_)
  · refine wp_iload_n dX9_product_62 rfl rfl ?_
    refine wm_if_ne 70 dX9_product_63 rfl rfl h (fun h => ?_) (fun h => ?_)
    · refine wp_iload_n dX9_product_70 rfl rfl ?_
      refine wp_bipush (47 : Int32) dX9_product_71 ib_47 rfl ?_
      refine wm_icmp_ne 82 dX9_product_73 rfl rfl h (fun h => ?_) (fun h => ?_)
      · refine wp_iload_n dX9_product_82 rfl rfl ?_
        refine wp_iload_n dX9_product_83 rfl rfl ?_
        refine wm_irem dX9_product_84 rfl h (fun h => ?_)
        refine wm_nm h (fun y5 h => ?_)
        refine wp_istore_n dX9_product_85 (by decide) rfl rfl rfl ?_
        refine wp_aload_n dX9_product_86 rfl rfl ?_
        refine wm_callVI (As := []) (rest := []) dX9_product_87 ok_X9_242 (by omega) rfl s_85 ⟨_, rfl⟩ (Nat.le_of_ble_eq_true rfl) ⟨rfl, rfl⟩ rfl (fun t h => o_X9_byteAt h) h (fun q6 h => ?_)
        refine wp_istore_n dX9_product_90 (by decide) rfl rfl rfl ?_
        refine wp_goto 10 dX9_product_91 rfl ?_
        have hB := wm_back h hP
        exact wm_mask [true, true, true, false] rfl (hB)
      · refine wp_iload_n dX9_product_76 rfl rfl ?_
        refine wp_iload_n dX9_product_77 rfl rfl ?_
        refine wm_idiv dX9_product_78 rfl h (fun h => ?_)
        refine wp_goto 85 dX9_product_79 rfl ?_
        refine wm_nm h (fun y7 h => ?_)
        refine wp_istore_n dX9_product_85 (by decide) rfl rfl rfl ?_
        refine wp_aload_n dX9_product_86 rfl rfl ?_
        refine wm_callVI (As := []) (rest := []) dX9_product_87 ok_X9_242 (by omega) rfl s_85 ⟨_, rfl⟩ (Nat.le_of_ble_eq_true rfl) ⟨rfl, rfl⟩ rfl (fun t h => o_X9_byteAt h) h (fun q8 h => ?_)
        refine wp_istore_n dX9_product_90 (by decide) rfl rfl rfl ?_
        refine wp_goto 10 dX9_product_91 rfl ?_
        have hB := wm_back h hP
        exact wm_mask [true, true, true, false] rfl (hB)
    · refine wp_iconst (0 : Int32) dX9_product_66 ic_0 rfl ?_
      refine wp_goto 85 dX9_product_67 rfl ?_
      refine wp_istore_n dX9_product_85 (by decide) rfl rfl rfl ?_
      refine wp_aload_n dX9_product_86 rfl rfl ?_
      refine wm_callVI (As := []) (rest := []) dX9_product_87 ok_X9_242 (by omega) rfl s_85 ⟨_, rfl⟩ (Nat.le_of_ble_eq_true rfl) ⟨rfl, rfl⟩ rfl (fun t h => o_X9_byteAt h) h (fun q9 h => ?_)
      refine wp_istore_n dX9_product_90 (by decide) rfl rfl rfl ?_
      refine wp_goto 10 dX9_product_91 rfl ?_
      have hB := wm_back h hP
      exact wm_mask [true, true, true, false] rfl (hB)
  · refine wp_iload_n dX9_product_56 rfl rfl ?_
    refine wp_iload_n dX9_product_57 rfl rfl ?_
    refine wp_imul dX9_product_58 rfl ?_
    refine wp_goto 85 dX9_product_59 rfl ?_
    refine wm_nm h (fun y10 h => ?_)
    refine wp_istore_n dX9_product_85 (by decide) rfl rfl rfl ?_
    refine wp_aload_n dX9_product_86 rfl rfl ?_
    refine wm_callVI (As := []) (rest := []) dX9_product_87 ok_X9_242 (by omega) rfl s_85 ⟨_, rfl⟩ (Nat.le_of_ble_eq_true rfl) ⟨rfl, rfl⟩ rfl (fun t h => o_X9_byteAt h) h (fun q11 h => ?_)
    refine wp_istore_n dX9_product_90 (by decide) rfl rfl rfl ?_
    refine wp_goto 10 dX9_product_91 rfl ?_
    have hB := wm_back h hP
    exact wm_mask [true, true, true, false] rfl (hB)
noncomputable def f_X9_product_L10 (rc : Mem → Option (Int32 × Mem)) (s : Int32 × Int32 × Mem) : Option ((Int32 × Int32 × Mem) ⊕ (Int32 × Mem)) := if 0 ≤ (gI s.2.2 85 23) then up (some (s.1, s.2.2)) else if s.2.1 = (42 : Int32) then f_X9_product_J35 rc s.1 s.2.1 s.2.2 else if s.2.1 = (47 : Int32) then f_X9_product_J35 rc s.1 s.2.1 s.2.2 else if ¬ s.2.1 = (37 : Int32) then up (some (s.1, s.2.2)) else f_X9_product_J35 rc s.1 s.2.1 s.2.2
theorem k_X9_product_L10 {g : Gx} {d0 : Nat} {rc : Mem → Option (Int32 × Mem)} (hrc : ∀ m t, rc m = some t → MxM g d0 mi_X9_one [.ref 85] m (qI t)) {Q : Qy} {s : Int32 × Int32 × Mem} {t : (Int32 × Int32 × Mem) ⊕ (Int32 × Mem)} (h : f_X9_product_L10 rc s = some t) (hP : P_X9_product_10 g d0 Q t) : A_X9_product_10 g d0 Q s := by
  refine wp_aload_n dX9_product_10 rfl rfl ?_
  refine wm_getI dX9_product_11 s_85 fk_X9_239 rfl rfl ?_
  refine wm_if_ge 94 dX9_product_14 rfl rfl h (fun h => ?_) (fun h => ?_)
  · refine wm_up h hP (fun r h hP => ?_)
    refine wp_iload_n dX9_product_94 rfl rfl ?_
    exact wm_iret dX9_product_95 rfl ⟨rfl, rfl⟩ h hP
  · refine wp_iload_n dX9_product_17 rfl rfl ?_
    refine wp_bipush (42 : Int32) dX9_product_18 ib_42 rfl ?_
    refine wm_icmp_eq 35 dX9_product_20 rfl rfl h (fun h => ?_) (fun h => ?_)
    · exact wm_mask [true, true, true, false] rfl (k_X9_product_J35 hrc h hP)
    · refine wp_iload_n dX9_product_23 rfl rfl ?_
      refine wp_bipush (47 : Int32) dX9_product_24 ib_47 rfl ?_
      refine wm_icmp_eq 35 dX9_product_26 rfl rfl h (fun h => ?_) (fun h => ?_)
      · exact wm_mask [true, true, true, false] rfl (k_X9_product_J35 hrc h hP)
      · refine wp_iload_n dX9_product_29 rfl rfl ?_
        refine wp_bipush (37 : Int32) dX9_product_30 ib_37 rfl ?_
        refine wm_icmp_ne 94 dX9_product_32 rfl rfl h (fun h => ?_) (fun h => ?_)
        · refine wm_up h hP (fun r h hP => ?_)
          refine wp_iload_n dX9_product_94 rfl rfl ?_
          exact wm_iret dX9_product_95 rfl ⟨rfl, rfl⟩ h hP
        · exact wm_mask [true, true, true, false] rfl (k_X9_product_J35 hrc h hP)
noncomputable def f_X9_product (rc : Mem → Option (Int32 × Mem))  (m : Mem) : Option (Int32 × Mem) := (rc m).bind (fun q1 => (f_X9_byteAt q1.2).bind (fun q2 => wh (f_X9_product_L10 rc) (q1.1, q2.1, q2.2)))
theorem k_X9_product_E {g : Gx} {d0 : Nat} {rc : Mem → Option (Int32 × Mem)} (hrc : ∀ m t, rc m = some t → MxM g d0 mi_X9_one [.ref 85] m (qI t))  {Q : Qy} {m : Mem} {t : Int32 × Mem} (h : f_X9_product rc m = some t) (hP : pI Q t) : WpM g (d0 + 2) mi_X9_product 0 [some (.ref 85), none, none, none] [] m (zM g mi_X9_product Q) := by
  refine wp_aload_n dX9_product_0 rfl rfl ?_
  refine wm_callVI (As := []) (rest := []) dX9_product_1 ok_X9_261 (by omega) rfl s_85 ⟨_, rfl⟩ (Nat.le_of_ble_eq_true rfl) ⟨rfl, rfl⟩ rfl (hrc _) h (fun q1 h => ?_)
  refine wp_istore_n dX9_product_4 (by decide) rfl rfl rfl ?_
  refine wp_aload_n dX9_product_5 rfl rfl ?_
  refine wm_callVI (As := []) (rest := []) dX9_product_6 ok_X9_242 (by omega) rfl s_85 ⟨_, rfl⟩ (Nat.le_of_ble_eq_true rfl) ⟨rfl, rfl⟩ rfl (fun t h => o_X9_byteAt h) h (fun q2 h => ?_)
  refine wp_istore_n dX9_product_9 (by decide) rfl rfl rfl ?_
  have hB := wh_ok (A := A_X9_product_10 g d0 Q) (B := pI Q) (fun s t h hP => k_X9_product_L10 hrc h hP) h hP
  exact wm_mask [true, true, true, false] rfl (hB)
theorem o_X9_product {g : Gx} {d0 : Nat} {rc : Mem → Option (Int32 × Mem)} (hrc : ∀ m t, rc m = some t → MxM g d0 mi_X9_one [.ref 85] m (qI t))  {m : Mem} {t : Int32 × Mem} (h : f_X9_product rc m = some t) : MxM g (d0 + 2) mi_X9_product [.ref 85] m (qI t) := mx_of pn_X9 (Nat.le_of_ble_eq_true rfl) (k_X9_product_E hrc h ⟨rfl, rfl, rfl, rfl, rfl⟩)
abbrev A_X9_sums_5 (g : Gx) (d0 : Nat) (Q : Qy) (s : Int32 × Mem) : Prop := WpM g (d0 + 3) mi_X9_sums 5 [some (.ref 85), some (.int s.1), none, none] [] s.2 (zM g mi_X9_sums Q)
abbrev P_X9_sums_5 (g : Gx) (d0 : Nat) (Q : Qy) : ((Int32 × Mem) ⊕ (Int32 × Mem)) → Prop := pS (A_X9_sums_5 g d0 Q) (pI Q)
noncomputable def f_X9_sums_J44 (rc : Mem → Option (Int32 × Mem)) (v1 : Int32) (t0 : Int32) (m : Mem) : Option ((Int32 × Mem) ⊕ (Int32 × Mem)) := bnd (sI m 85 21 ((gI m 85 21) + (1 : Int32))) (fun m4 => (f_X9_product rc m4).bind (fun q5 => if t0 = 0 then bnd (v1 - q5.1) (fun y6 => some (Sum.inl (y6, q5.2))) else bnd (v1 + q5.1) (fun y7 => some (Sum.inl (y7, q5.2)))))
theorem k_X9_sums_J44 {g : Gx} {d0 : Nat} {rc : Mem → Option (Int32 × Mem)} (hrc : ∀ m t, rc m = some t → MxM g d0 mi_X9_one [.ref 85] m (qI t)) {v1 : Int32} {t0 : Int32}  {Q : Qy} {m : Mem} {t : (Int32 × Mem) ⊕ (Int32 × Mem)} (h : f_X9_sums_J44 rc v1 t0 m = some t) (hP : P_X9_sums_5 g d0 Q t) : WpM g (d0 + 3) mi_X9_sums 44 [some (.ref 85), some (.int v1), none, none] [.int t0] m (zM g mi_X9_sums Q) := by
  refine wp_istore_n dX9_sums_44 (by decide) rfl rfl rfl ?_
  refine wp_aload_n dX9_sums_45 rfl rfl ?_
  refine wp_dup dX9_sums_46 rfl rfl ?_
  refine wm_getI dX9_sums_47 s_85 fk_X9_230 rfl rfl ?_
  refine wp_iconst (1 : Int32) dX9_sums_50 ic_1 rfl ?_
  refine wp_iadd dX9_sums_51 rfl ?_
  refine wm_putI dX9_sums_52 s_85 fk_X9_230 rfl rfl h (fun m4 h => ?_)
  refine wp_aload_n dX9_sums_55 rfl rfl ?_
  refine wm_callVI (As := []) (rest := []) dX9_sums_56 ok_X9_258 (by omega) rfl s_85 ⟨_, rfl⟩ (Nat.le_of_ble_eq_true rfl) ⟨rfl, rfl⟩ rfl (fun t h => o_X9_product hrc h) h (fun q5 h => ?_)
  refine wp_istore_n dX9_sums_59 (by decide) rfl rfl rfl ?_
  refine wp_iload_n dX9_sums_60 rfl rfl ?_
  refine wm_if_eq 70 dX9_sums_61 rfl rfl h (fun h => ?_) (fun h => ?_)
  · refine wp_iload_n dX9_sums_70 rfl rfl ?_
    refine wp_iload_n dX9_sums_71 rfl rfl ?_
    refine wp_isub dX9_sums_72 rfl ?_
    refine wm_nm h (fun y6 h => ?_)
    refine wp_istore_n dX9_sums_73 (by decide) rfl rfl rfl ?_
    refine wp_goto 5 dX9_sums_74 rfl ?_
    have hB := wm_back h hP
    exact wm_mask [true, true, false, false] rfl (hB)
  · refine wp_iload_n dX9_sums_64 rfl rfl ?_
    refine wp_iload_n dX9_sums_65 rfl rfl ?_
    refine wp_iadd dX9_sums_66 rfl ?_
    refine wp_goto 73 dX9_sums_67 rfl ?_
    refine wm_nm h (fun y7 h => ?_)
    refine wp_istore_n dX9_sums_73 (by decide) rfl rfl rfl ?_
    refine wp_goto 5 dX9_sums_74 rfl ?_
    have hB := wm_back h hP
    exact wm_mask [true, true, false, false] rfl (hB)
noncomputable def f_X9_sums_J30 (rc : Mem → Option (Int32 × Mem)) (v1 : Int32) (m : Mem) : Option ((Int32 × Mem) ⊕ (Int32 × Mem)) := (f_X9_byteAt m).bind (fun q3 => if ¬ q3.1 = (43 : Int32) then f_X9_sums_J44 rc v1 (0 : Int32) q3.2 else f_X9_sums_J44 rc v1 (1 : Int32) q3.2)
theorem k_X9_sums_J30 {g : Gx} {d0 : Nat} {rc : Mem → Option (Int32 × Mem)} (hrc : ∀ m t, rc m = some t → MxM g d0 mi_X9_one [.ref 85] m (qI t)) {v1 : Int32}  {Q : Qy} {m : Mem} {t : (Int32 × Mem) ⊕ (Int32 × Mem)} (h : f_X9_sums_J30 rc v1 m = some t) (hP : P_X9_sums_5 g d0 Q t) : WpM g (d0 + 3) mi_X9_sums 30 [some (.ref 85), some (.int v1), none, none] [] m (zM g mi_X9_sums Q) := by
  refine wp_aload_n dX9_sums_30 rfl rfl ?_
  refine wm_callVI (As := []) (rest := []) dX9_sums_31 ok_X9_242 (by omega) rfl s_85 ⟨_, rfl⟩ (Nat.le_of_ble_eq_true rfl) ⟨rfl, rfl⟩ rfl (fun t h => o_X9_byteAt h) h (fun q3 h => ?_)
  refine wp_bipush (43 : Int32) dX9_sums_34 ib_43 rfl ?_
  refine wm_icmp_ne 43 dX9_sums_36 rfl rfl h (fun h => ?_) (fun h => ?_)
  · refine wp_iconst (0 : Int32) dX9_sums_43 ic_0 rfl ?_
    exact wm_mask [true, true, false, false] rfl (k_X9_sums_J44 hrc h hP)
  · refine wp_iconst (1 : Int32) dX9_sums_39 ic_1 rfl ?_
    refine wp_goto 44 dX9_sums_40 rfl ?_
    exact wm_mask [true, true, false, false] rfl (k_X9_sums_J44 hrc h hP)
noncomputable def f_X9_sums_L5 (rc : Mem → Option (Int32 × Mem)) (s : Int32 × Mem) : Option ((Int32 × Mem) ⊕ (Int32 × Mem)) := if 0 ≤ (gI s.2 85 23) then up (some (s.1, s.2)) else (f_X9_byteAt s.2).bind (fun q2 => if q2.1 = (43 : Int32) then f_X9_sums_J30 rc s.1 q2.2 else (f_X9_byteAt q2.2).bind (fun q8 => if ¬ q8.1 = (45 : Int32) then up (some (s.1, q8.2)) else f_X9_sums_J30 rc s.1 q8.2))
theorem k_X9_sums_L5 {g : Gx} {d0 : Nat} {rc : Mem → Option (Int32 × Mem)} (hrc : ∀ m t, rc m = some t → MxM g d0 mi_X9_one [.ref 85] m (qI t)) {Q : Qy} {s : Int32 × Mem} {t : (Int32 × Mem) ⊕ (Int32 × Mem)} (h : f_X9_sums_L5 rc s = some t) (hP : P_X9_sums_5 g d0 Q t) : A_X9_sums_5 g d0 Q s := by
  refine wp_aload_n dX9_sums_5 rfl rfl ?_
  refine wm_getI dX9_sums_6 s_85 fk_X9_239 rfl rfl ?_
  refine wm_if_ge 77 dX9_sums_9 rfl rfl h (fun h => ?_) (fun h => ?_)
  · refine wm_up h hP (fun r h hP => ?_)
    refine wp_iload_n dX9_sums_77 rfl rfl ?_
    exact wm_iret dX9_sums_78 rfl ⟨rfl, rfl⟩ h hP
  · refine wp_aload_n dX9_sums_12 rfl rfl ?_
    refine wm_callVI (As := []) (rest := []) dX9_sums_13 ok_X9_242 (by omega) rfl s_85 ⟨_, rfl⟩ (Nat.le_of_ble_eq_true rfl) ⟨rfl, rfl⟩ rfl (fun t h => o_X9_byteAt h) h (fun q2 h => ?_)
    refine wp_bipush (43 : Int32) dX9_sums_16 ib_43 rfl ?_
    refine wm_icmp_eq 30 dX9_sums_18 rfl rfl h (fun h => ?_) (fun h => ?_)
    · exact wm_mask [true, true, false, false] rfl (k_X9_sums_J30 hrc h hP)
    · refine wp_aload_n dX9_sums_21 rfl rfl ?_
      refine wm_callVI (As := []) (rest := []) dX9_sums_22 ok_X9_242 (by omega) rfl s_85 ⟨_, rfl⟩ (Nat.le_of_ble_eq_true rfl) ⟨rfl, rfl⟩ rfl (fun t h => o_X9_byteAt h) h (fun q8 h => ?_)
      refine wp_bipush (45 : Int32) dX9_sums_25 ib_45 rfl ?_
      refine wm_icmp_ne 77 dX9_sums_27 rfl rfl h (fun h => ?_) (fun h => ?_)
      · refine wm_up h hP (fun r h hP => ?_)
        refine wp_iload_n dX9_sums_77 rfl rfl ?_
        exact wm_iret dX9_sums_78 rfl ⟨rfl, rfl⟩ h hP
      · exact wm_mask [true, true, false, false] rfl (k_X9_sums_J30 hrc h hP)
noncomputable def f_X9_sums (rc : Mem → Option (Int32 × Mem))  (m : Mem) : Option (Int32 × Mem) := (f_X9_product rc m).bind (fun q1 => wh (f_X9_sums_L5 rc) (q1.1, q1.2))
theorem k_X9_sums_E {g : Gx} {d0 : Nat} {rc : Mem → Option (Int32 × Mem)} (hrc : ∀ m t, rc m = some t → MxM g d0 mi_X9_one [.ref 85] m (qI t))  {Q : Qy} {m : Mem} {t : Int32 × Mem} (h : f_X9_sums rc m = some t) (hP : pI Q t) : WpM g (d0 + 3) mi_X9_sums 0 [some (.ref 85), none, none, none] [] m (zM g mi_X9_sums Q) := by
  refine wp_aload_n dX9_sums_0 rfl rfl ?_
  refine wm_callVI (As := []) (rest := []) dX9_sums_1 ok_X9_258 (by omega) rfl s_85 ⟨_, rfl⟩ (Nat.le_of_ble_eq_true rfl) ⟨rfl, rfl⟩ rfl (fun t h => o_X9_product hrc h) h (fun q1 h => ?_)
  refine wp_istore_n dX9_sums_4 (by decide) rfl rfl rfl ?_
  have hB := wh_ok (A := A_X9_sums_5 g d0 Q) (B := pI Q) (fun s t h hP => k_X9_sums_L5 hrc h hP) h hP
  exact wm_mask [true, true, false, false] rfl (hB)
theorem o_X9_sums {g : Gx} {d0 : Nat} {rc : Mem → Option (Int32 × Mem)} (hrc : ∀ m t, rc m = some t → MxM g d0 mi_X9_one [.ref 85] m (qI t))  {m : Mem} {t : Int32 × Mem} (h : f_X9_sums rc m = some t) : MxM g (d0 + 3) mi_X9_sums [.ref 85] m (qI t) := mx_of pn_X9 (Nat.le_of_ble_eq_true rfl) (k_X9_sums_E hrc h ⟨rfl, rfl, rfl, rfl, rfl⟩)
noncomputable def f_X9_compared_J37 (rc : Mem → Option (Int32 × Mem)) (v1 : Int32) (v2 : Int32) (m : Mem) : Option (Int32 × Mem) := bnd (sI m 85 21 ((gI m 85 21) + (1 : Int32))) (fun m3 => (f_X9_sums rc m3).bind (fun q4 => if ¬ v2 = (60 : Int32) then if ¬ v2 = (61 : Int32) then if v1 ≤ q4.1 then some ((0 : Int32), q4.2) else some ((1 : Int32), q4.2) else if ¬ v1 = q4.1 then some ((0 : Int32), q4.2) else some ((1 : Int32), q4.2) else if q4.1 ≤ v1 then some ((0 : Int32), q4.2) else some ((1 : Int32), q4.2)))
theorem k_X9_compared_J37 {g : Gx} {d0 : Nat} {rc : Mem → Option (Int32 × Mem)} (hrc : ∀ m t, rc m = some t → MxM g d0 mi_X9_one [.ref 85] m (qI t)) {v1 : Int32} {v2 : Int32}  {Q : Qy} {m : Mem} {t : Int32 × Mem} (h : f_X9_compared_J37 rc v1 v2 m = some t) (hP : pI Q t) : WpM g (d0 + 4) mi_X9_compared 37 [some (.ref 85), some (.int v1), some (.int v2), none] [] m (zM g mi_X9_compared Q) := by
  refine wp_aload_n dX9_compared_37 rfl rfl ?_
  refine wp_dup dX9_compared_38 rfl rfl ?_
  refine wm_getI dX9_compared_39 s_85 fk_X9_230 rfl rfl ?_
  refine wp_iconst (1 : Int32) dX9_compared_42 ic_1 rfl ?_
  refine wp_iadd dX9_compared_43 rfl ?_
  refine wm_putI dX9_compared_44 s_85 fk_X9_230 rfl rfl h (fun m3 h => ?_)
  refine wp_aload_n dX9_compared_47 rfl rfl ?_
  refine wm_callVI (As := []) (rest := []) dX9_compared_48 ok_X9_255 (by omega) rfl s_85 ⟨_, rfl⟩ (Nat.le_of_ble_eq_true rfl) ⟨rfl, rfl⟩ rfl (fun t h => o_X9_sums hrc h) h (fun q4 h => ?_)
  refine wp_istore_n dX9_compared_51 (by decide) rfl rfl rfl ?_
  refine wp_iload_n dX9_compared_52 rfl rfl ?_
  refine wp_bipush (60 : Int32) dX9_compared_53 ib_60 rfl ?_
  refine wm_icmp_ne 66 dX9_compared_55 rfl rfl h (fun h => ?_) (fun h => ?_)
  · refine wp_iload_n dX9_compared_66 rfl rfl ?_
    refine wp_bipush (61 : Int32) dX9_compared_67 ib_61 rfl ?_
    refine wm_icmp_ne 80 dX9_compared_69 rfl rfl h (fun h => ?_) (fun h => ?_)
    · refine wp_iload_n dX9_compared_80 rfl rfl ?_
      refine wp_iload_n dX9_compared_81 rfl rfl ?_
      refine wm_icmp_le 89 dX9_compared_82 rfl rfl h (fun h => ?_) (fun h => ?_)
      · refine wp_iconst (0 : Int32) dX9_compared_89 ic_0 rfl ?_
        exact wm_iret dX9_compared_90 rfl ⟨rfl, rfl⟩ h hP
      · refine wp_iconst (1 : Int32) dX9_compared_85 ic_1 rfl ?_
        refine wp_goto 90 dX9_compared_86 rfl ?_
        exact wm_iret dX9_compared_90 rfl ⟨rfl, rfl⟩ h hP
    · refine wp_iload_n dX9_compared_72 rfl rfl ?_
      refine wp_iload_n dX9_compared_73 rfl rfl ?_
      refine wm_icmp_ne 89 dX9_compared_74 rfl rfl h (fun h => ?_) (fun h => ?_)
      · refine wp_iconst (0 : Int32) dX9_compared_89 ic_0 rfl ?_
        exact wm_iret dX9_compared_90 rfl ⟨rfl, rfl⟩ h hP
      · refine wp_goto 85 dX9_compared_77 rfl ?_
        refine wp_iconst (1 : Int32) dX9_compared_85 ic_1 rfl ?_
        refine wp_goto 90 dX9_compared_86 rfl ?_
        exact wm_iret dX9_compared_90 rfl ⟨rfl, rfl⟩ h hP
  · refine wp_iload_n dX9_compared_58 rfl rfl ?_
    refine wp_iload_n dX9_compared_59 rfl rfl ?_
    refine wm_icmp_ge 89 dX9_compared_60 rfl rfl h (fun h => ?_) (fun h => ?_)
    · refine wp_iconst (0 : Int32) dX9_compared_89 ic_0 rfl ?_
      exact wm_iret dX9_compared_90 rfl ⟨rfl, rfl⟩ h hP
    · refine wp_goto 85 dX9_compared_63 rfl ?_
      refine wp_iconst (1 : Int32) dX9_compared_85 ic_1 rfl ?_
      refine wp_goto 90 dX9_compared_86 rfl ?_
      exact wm_iret dX9_compared_90 rfl ⟨rfl, rfl⟩ h hP
noncomputable def f_X9_compared (rc : Mem → Option (Int32 × Mem))  (m : Mem) : Option (Int32 × Mem) := (f_X9_sums rc m).bind (fun q1 => (f_X9_byteAt q1.2).bind (fun q2 => if 0 ≤ (gI q2.2 85 23) then some (q1.1, q2.2) else if q2.1 = (60 : Int32) then f_X9_compared_J37 rc q1.1 q2.1 q2.2 else if q2.1 = (61 : Int32) then f_X9_compared_J37 rc q1.1 q2.1 q2.2 else if q2.1 = (62 : Int32) then f_X9_compared_J37 rc q1.1 q2.1 q2.2 else some (q1.1, q2.2)))
theorem k_X9_compared_E {g : Gx} {d0 : Nat} {rc : Mem → Option (Int32 × Mem)} (hrc : ∀ m t, rc m = some t → MxM g d0 mi_X9_one [.ref 85] m (qI t))  {Q : Qy} {m : Mem} {t : Int32 × Mem} (h : f_X9_compared rc m = some t) (hP : pI Q t) : WpM g (d0 + 4) mi_X9_compared 0 [some (.ref 85), none, none, none] [] m (zM g mi_X9_compared Q) := by
  refine wp_aload_n dX9_compared_0 rfl rfl ?_
  refine wm_callVI (As := []) (rest := []) dX9_compared_1 ok_X9_255 (by omega) rfl s_85 ⟨_, rfl⟩ (Nat.le_of_ble_eq_true rfl) ⟨rfl, rfl⟩ rfl (fun t h => o_X9_sums hrc h) h (fun q1 h => ?_)
  refine wp_istore_n dX9_compared_4 (by decide) rfl rfl rfl ?_
  refine wp_aload_n dX9_compared_5 rfl rfl ?_
  refine wm_callVI (As := []) (rest := []) dX9_compared_6 ok_X9_242 (by omega) rfl s_85 ⟨_, rfl⟩ (Nat.le_of_ble_eq_true rfl) ⟨rfl, rfl⟩ rfl (fun t h => o_X9_byteAt h) h (fun q2 h => ?_)
  refine wp_istore_n dX9_compared_9 (by decide) rfl rfl rfl ?_
  refine wp_aload_n dX9_compared_10 rfl rfl ?_
  refine wm_getI dX9_compared_11 s_85 fk_X9_239 rfl rfl ?_
  refine wm_if_ge 35 dX9_compared_14 rfl rfl h (fun h => ?_) (fun h => ?_)
  · refine wp_iload_n dX9_compared_35 rfl rfl ?_
    exact wm_iret dX9_compared_36 rfl ⟨rfl, rfl⟩ h hP
  · refine wp_iload_n dX9_compared_17 rfl rfl ?_
    refine wp_bipush (60 : Int32) dX9_compared_18 ib_60 rfl ?_
    refine wm_icmp_eq 37 dX9_compared_20 rfl rfl h (fun h => ?_) (fun h => ?_)
    · exact wm_mask [true, true, true, false] rfl (k_X9_compared_J37 hrc h hP)
    · refine wp_iload_n dX9_compared_23 rfl rfl ?_
      refine wp_bipush (61 : Int32) dX9_compared_24 ib_61 rfl ?_
      refine wm_icmp_eq 37 dX9_compared_26 rfl rfl h (fun h => ?_) (fun h => ?_)
      · exact wm_mask [true, true, true, false] rfl (k_X9_compared_J37 hrc h hP)
      · refine wp_iload_n dX9_compared_29 rfl rfl ?_
        refine wp_bipush (62 : Int32) dX9_compared_30 ib_62 rfl ?_
        refine wm_icmp_eq 37 dX9_compared_32 rfl rfl h (fun h => ?_) (fun h => ?_)
        · exact wm_mask [true, true, true, false] rfl (k_X9_compared_J37 hrc h hP)
        · refine wp_iload_n dX9_compared_35 rfl rfl ?_
          exact wm_iret dX9_compared_36 rfl ⟨rfl, rfl⟩ h hP
theorem o_X9_compared {g : Gx} {d0 : Nat} {rc : Mem → Option (Int32 × Mem)} (hrc : ∀ m t, rc m = some t → MxM g d0 mi_X9_one [.ref 85] m (qI t))  {m : Mem} {t : Int32 × Mem} (h : f_X9_compared rc m = some t) : MxM g (d0 + 4) mi_X9_compared [.ref 85] m (qI t) := mx_of pn_X9 (Nat.le_of_ble_eq_true rfl) (k_X9_compared_E hrc h ⟨rfl, rfl, rfl, rfl, rfl⟩)
noncomputable def f_X9_takes  (p1 : Int32) (m : Mem) : Option (Int32 × Mem) := if 0 ≤ (gI m 85 23) then bz (0 : Int32) (some ((0 : Int32), m)) else (f_X9_byteAt m).bind (fun q1 => if q1.1 = p1 then bnd (sI q1.2 85 21 ((gI q1.2 85 21) + (1 : Int32))) (fun m2 => bz (1 : Int32) (some ((1 : Int32), m2))) else bz (0 : Int32) (some ((0 : Int32), q1.2)))
theorem k_X9_takes_E {g : Gx}  {p1 : Int32} {Q : Qy} {m : Mem} {t : Int32 × Mem} (h : f_X9_takes p1 m = some t) (hP : pI Q t) : WpM g 2 mi_X9_takes 0 [some (.ref 85), some (.int p1)] [] m (zM g mi_X9_takes Q) := by
  refine wp_aload_n dX9_takes_0 rfl rfl ?_
  refine wm_getI dX9_takes_1 s_85 fk_X9_239 rfl rfl ?_
  refine wm_if_ge 15 dX9_takes_4 rfl rfl h (fun h => ?_) (fun h => ?_)
  · refine wp_iconst (0 : Int32) dX9_takes_15 ic_0 rfl ?_
    exact wm_zret dX9_takes_16 rfl ⟨rfl, rfl⟩ h hP
  · refine wp_aload_n dX9_takes_7 rfl rfl ?_
    refine wm_callVI (As := []) (rest := []) dX9_takes_8 ok_X9_242 (by decide) rfl s_85 ⟨_, rfl⟩ (Nat.le_of_ble_eq_true rfl) ⟨rfl, rfl⟩ rfl (fun t h => o_X9_byteAt h) h (fun q1 h => ?_)
    refine wp_iload_n dX9_takes_11 rfl rfl ?_
    refine wm_icmp_eq 17 dX9_takes_12 rfl rfl h (fun h => ?_) (fun h => ?_)
    · refine wp_aload_n dX9_takes_17 rfl rfl ?_
      refine wp_dup dX9_takes_18 rfl rfl ?_
      refine wm_getI dX9_takes_19 s_85 fk_X9_230 rfl rfl ?_
      refine wp_iconst (1 : Int32) dX9_takes_22 ic_1 rfl ?_
      refine wp_iadd dX9_takes_23 rfl ?_
      refine wm_putI dX9_takes_24 s_85 fk_X9_230 rfl rfl h (fun m2 h => ?_)
      refine wp_iconst (1 : Int32) dX9_takes_27 ic_1 rfl ?_
      exact wm_zret dX9_takes_28 rfl ⟨rfl, rfl⟩ h hP
    · refine wp_iconst (0 : Int32) dX9_takes_15 ic_0 rfl ?_
      exact wm_zret dX9_takes_16 rfl ⟨rfl, rfl⟩ h hP
theorem o_X9_takes {g : Gx}  {p1 : Int32} {m : Mem} {t : Int32 × Mem} (h : f_X9_takes p1 m = some t) : MxM g 2 mi_X9_takes [.ref 85, .int p1] m (qI t) := mx_of pn_X9 (Nat.le_of_ble_eq_true rfl) (k_X9_takes_E h ⟨rfl, rfl, rfl, rfl, rfl⟩)
abbrev A_X9_both_5 (g : Gx) (d0 : Nat) (Q : Qy) (s : Int32 × Mem) : Prop := WpM g (d0 + 5) mi_X9_both 5 [some (.ref 85), some (.int s.1), none] [] s.2 (zM g mi_X9_both Q)
abbrev P_X9_both_5 (g : Gx) (d0 : Nat) (Q : Qy) : ((Int32 × Mem) ⊕ (Int32 × Mem)) → Prop := pS (A_X9_both_5 g d0 Q) (pI Q)
noncomputable def f_X9_both_L5 (rc : Mem → Option (Int32 × Mem)) (s : Int32 × Mem) : Option ((Int32 × Mem) ⊕ (Int32 × Mem)) := (f_X9_takes (38 : Int32) s.2).bind (fun q2 => if q2.1 = 0 then up (some (s.1, q2.2)) else (f_X9_compared rc q2.2).bind (fun q3 => if s.1 = 0 then some (Sum.inl ((0 : Int32), q3.2)) else if q3.1 = 0 then some (Sum.inl ((0 : Int32), q3.2)) else some (Sum.inl ((1 : Int32), q3.2))))
theorem k_X9_both_L5 {g : Gx} {d0 : Nat} {rc : Mem → Option (Int32 × Mem)} (hrc : ∀ m t, rc m = some t → MxM g d0 mi_X9_one [.ref 85] m (qI t)) {Q : Qy} {s : Int32 × Mem} {t : (Int32 × Mem) ⊕ (Int32 × Mem)} (h : f_X9_both_L5 rc s = some t) (hP : P_X9_both_5 g d0 Q t) : A_X9_both_5 g d0 Q s := by
  refine wp_aload_n dX9_both_5 rfl rfl ?_
  refine wp_bipush (38 : Int32) dX9_both_6 ib_38 rfl ?_
  refine wm_callVI (As := [.int (38 : Int32)]) (rest := []) dX9_both_8 ok_X9_249 (by omega) rfl s_85 ⟨_, rfl⟩ (Nat.le_of_ble_eq_true rfl) ⟨rfl, rfl⟩ rfl (fun t h => o_X9_takes h) h (fun q2 h => ?_)
  refine wm_if_eq 36 dX9_both_11 rfl rfl h (fun h => ?_) (fun h => ?_)
  · refine wm_up h hP (fun r h hP => ?_)
    refine wp_iload_n dX9_both_36 rfl rfl ?_
    exact wm_iret dX9_both_37 rfl ⟨rfl, rfl⟩ h hP
  · refine wp_aload_n dX9_both_14 rfl rfl ?_
    refine wm_callVI (As := []) (rest := []) dX9_both_15 ok_X9_252 (by omega) rfl s_85 ⟨_, rfl⟩ (Nat.le_of_ble_eq_true rfl) ⟨rfl, rfl⟩ rfl (fun t h => o_X9_compared hrc h) h (fun q3 h => ?_)
    refine wp_istore_n dX9_both_18 (by decide) rfl rfl rfl ?_
    refine wp_iload_n dX9_both_19 rfl rfl ?_
    refine wm_if_eq 31 dX9_both_20 rfl rfl h (fun h => ?_) (fun h => ?_)
    · refine wp_iconst (0 : Int32) dX9_both_31 ic_0 rfl ?_
      refine wp_istore_n dX9_both_32 (by decide) rfl rfl rfl ?_
      refine wp_goto 5 dX9_both_33 rfl ?_
      have hB := wm_back h hP
      exact wm_mask [true, true, false] rfl (hB)
    · refine wp_iload_n dX9_both_23 rfl rfl ?_
      refine wm_if_eq 31 dX9_both_24 rfl rfl h (fun h => ?_) (fun h => ?_)
      · refine wp_iconst (0 : Int32) dX9_both_31 ic_0 rfl ?_
        refine wp_istore_n dX9_both_32 (by decide) rfl rfl rfl ?_
        refine wp_goto 5 dX9_both_33 rfl ?_
        have hB := wm_back h hP
        exact wm_mask [true, true, false] rfl (hB)
      · refine wp_iconst (1 : Int32) dX9_both_27 ic_1 rfl ?_
        refine wp_goto 32 dX9_both_28 rfl ?_
        refine wp_istore_n dX9_both_32 (by decide) rfl rfl rfl ?_
        refine wp_goto 5 dX9_both_33 rfl ?_
        have hB := wm_back h hP
        exact wm_mask [true, true, false] rfl (hB)
noncomputable def f_X9_both (rc : Mem → Option (Int32 × Mem))  (m : Mem) : Option (Int32 × Mem) := (f_X9_compared rc m).bind (fun q1 => wh (f_X9_both_L5 rc) (q1.1, q1.2))
theorem k_X9_both_E {g : Gx} {d0 : Nat} {rc : Mem → Option (Int32 × Mem)} (hrc : ∀ m t, rc m = some t → MxM g d0 mi_X9_one [.ref 85] m (qI t))  {Q : Qy} {m : Mem} {t : Int32 × Mem} (h : f_X9_both rc m = some t) (hP : pI Q t) : WpM g (d0 + 5) mi_X9_both 0 [some (.ref 85), none, none] [] m (zM g mi_X9_both Q) := by
  refine wp_aload_n dX9_both_0 rfl rfl ?_
  refine wm_callVI (As := []) (rest := []) dX9_both_1 ok_X9_252 (by omega) rfl s_85 ⟨_, rfl⟩ (Nat.le_of_ble_eq_true rfl) ⟨rfl, rfl⟩ rfl (fun t h => o_X9_compared hrc h) h (fun q1 h => ?_)
  refine wp_istore_n dX9_both_4 (by decide) rfl rfl rfl ?_
  have hB := wh_ok (A := A_X9_both_5 g d0 Q) (B := pI Q) (fun s t h hP => k_X9_both_L5 hrc h hP) h hP
  exact wm_mask [true, true, false] rfl (hB)
theorem o_X9_both {g : Gx} {d0 : Nat} {rc : Mem → Option (Int32 × Mem)} (hrc : ∀ m t, rc m = some t → MxM g d0 mi_X9_one [.ref 85] m (qI t))  {m : Mem} {t : Int32 × Mem} (h : f_X9_both rc m = some t) : MxM g (d0 + 5) mi_X9_both [.ref 85] m (qI t) := mx_of pn_X9 (Nat.le_of_ble_eq_true rfl) (k_X9_both_E hrc h ⟨rfl, rfl, rfl, rfl, rfl⟩)
noncomputable def f_X9_isThere  (p1 : Int32) (m : Mem) : Option (Int32 × Mem) := if p1 = (gI m 85 28) then bz (0 : Int32) (some ((0 : Int32), m)) else ck ((20 : Int32) + p1) 42 (if (gI m 85 29) < (gI m 86 (ix ((20 : Int32) + p1))) then bz (0 : Int32) (some ((0 : Int32), m)) else bz (1 : Int32) (some ((1 : Int32), m)))
theorem k_X9_isThere_E {g : Gx}  {p1 : Int32} {Q : Qy} {m : Mem} {t : Int32 × Mem} (h : f_X9_isThere p1 m = some t) (hP : pI Q t) : WpM g 1 mi_X9_isThere 0 [some (.ref 85), some (.int p1)] [] m (zM g mi_X9_isThere Q) := by
  refine wp_iload_n dX9_isThere_0 rfl rfl ?_
  refine wp_aload_n dX9_isThere_1 rfl rfl ?_
  refine wm_getI dX9_isThere_2 s_85 fk_X9_286 rfl rfl ?_
  refine wm_icmp_eq 28 dX9_isThere_5 rfl rfl h (fun h => ?_) (fun h => ?_)
  · refine wp_iconst (0 : Int32) dX9_isThere_28 ic_0 rfl ?_
    exact wm_zret dX9_isThere_29 rfl ⟨rfl, rfl⟩ h hP
  · refine wp_aload_n dX9_isThere_8 rfl rfl ?_
    refine wm_getR dX9_isThere_9 s_85 fk_X9_9 rfl r_85_0 rfl ?_
    refine wp_bipush (20 : Int32) dX9_isThere_12 ib_20 rfl ?_
    refine wp_iload_n dX9_isThere_14 rfl rfl ?_
    refine wp_iadd dX9_isThere_15 rfl ?_
    refine wm_iald dX9_isThere_16 s_86 rfl h (fun h => ?_)
    refine wp_aload_n dX9_isThere_17 rfl rfl ?_
    refine wm_getI dX9_isThere_18 s_85 fk_X9_289 rfl rfl ?_
    refine wm_icmp_gt 28 dX9_isThere_21 rfl rfl h (fun h => ?_) (fun h => ?_)
    · refine wp_iconst (0 : Int32) dX9_isThere_28 ic_0 rfl ?_
      exact wm_zret dX9_isThere_29 rfl ⟨rfl, rfl⟩ h hP
    · refine wp_iconst (1 : Int32) dX9_isThere_24 ic_1 rfl ?_
      refine wp_goto 29 dX9_isThere_25 rfl ?_
      exact wm_zret dX9_isThere_29 rfl ⟨rfl, rfl⟩ h hP
theorem o_X9_isThere {g : Gx}  {p1 : Int32} {m : Mem} {t : Int32 × Mem} (h : f_X9_isThere p1 m = some t) : MxM g 1 mi_X9_isThere [.ref 85, .int p1] m (qI t) := mx_of pn_X9 (Nat.le_of_ble_eq_true rfl) (k_X9_isThere_E h ⟨rfl, rfl, rfl, rfl, rfl⟩)
noncomputable def f_X9_wishes  (p1 : Int32) (m : Mem) : Option (Int32 × Mem) := (f_X9_isThere p1 m).bind (fun q1 => if q1.1 = 0 then bz (0 : Int32) (some ((0 : Int32), q1.2)) else ck p1 10 (if (gI q1.2 98 (ix p1)) ≤ 0 then bz (0 : Int32) (some ((0 : Int32), q1.2)) else bz (1 : Int32) (some ((1 : Int32), q1.2))))
theorem k_X9_wishes_E {g : Gx}  {p1 : Int32} {Q : Qy} {m : Mem} {t : Int32 × Mem} (h : f_X9_wishes p1 m = some t) (hP : pI Q t) : WpM g 2 mi_X9_wishes 0 [some (.ref 85), some (.int p1)] [] m (zM g mi_X9_wishes Q) := by
  refine wp_aload_n dX9_wishes_0 rfl rfl ?_
  refine wp_iload_n dX9_wishes_1 rfl rfl ?_
  refine wm_callVI (As := [.int p1]) (rest := []) dX9_wishes_2 ok_X9_299 (by decide) rfl s_85 ⟨_, rfl⟩ (Nat.le_of_ble_eq_true rfl) ⟨rfl, rfl⟩ rfl (fun t h => o_X9_isThere h) h (fun q1 h => ?_)
  refine wm_if_eq 21 dX9_wishes_5 rfl rfl h (fun h => ?_) (fun h => ?_)
  · refine wp_iconst (0 : Int32) dX9_wishes_21 ic_0 rfl ?_
    exact wm_zret dX9_wishes_22 rfl ⟨rfl, rfl⟩ h hP
  · refine wp_aload_n dX9_wishes_8 rfl rfl ?_
    refine wm_getR dX9_wishes_9 s_85 fk_X9_46 rfl r_85_33 rfl ?_
    refine wp_iload_n dX9_wishes_12 rfl rfl ?_
    refine wm_iald dX9_wishes_13 s_98 rfl h (fun h => ?_)
    refine wm_if_le 21 dX9_wishes_14 rfl rfl h (fun h => ?_) (fun h => ?_)
    · refine wp_iconst (0 : Int32) dX9_wishes_21 ic_0 rfl ?_
      exact wm_zret dX9_wishes_22 rfl ⟨rfl, rfl⟩ h hP
    · refine wp_iconst (1 : Int32) dX9_wishes_17 ic_1 rfl ?_
      refine wp_goto 22 dX9_wishes_18 rfl ?_
      exact wm_zret dX9_wishes_22 rfl ⟨rfl, rfl⟩ h hP
theorem o_X9_wishes {g : Gx}  {p1 : Int32} {m : Mem} {t : Int32 × Mem} (h : f_X9_wishes p1 m = some t) : MxM g 2 mi_X9_wishes [.ref 85, .int p1] m (qI t) := mx_of pn_X9 (Nat.le_of_ble_eq_true rfl) (k_X9_wishes_E h ⟨rfl, rfl, rfl, rfl, rfl⟩)
abbrev A_X9_byTurns_2 (g : Gx)  (Q : Qy) (s : Int32 × Mem) : Prop := WpM g 3 mi_X9_byTurns 2 [some (.ref 85), some (.int s.1), none] [] s.2 (zM g mi_X9_byTurns Q)
abbrev P_X9_byTurns_2 (g : Gx)  (Q : Qy) : ((Int32 × Mem) ⊕ (Int32 × Mem)) → Prop := pS (A_X9_byTurns_2 g Q) (pI Q)
noncomputable def f_X9_byTurns_L2  (s : Int32 × Mem) : Option ((Int32 × Mem) ⊕ (Int32 × Mem)) := if (gI s.2 85 6) < s.1 then up (some ((-1 : Int32), s.2)) else dv (gI s.2 85 6) (bnd (((gI s.2 85 31) + s.1) - ((gI s.2 85 31) + s.1) / (gI s.2 85 6) * (gI s.2 85 6)) (fun y1 => (f_X9_wishes y1 s.2).bind (fun q2 => if q2.1 = 0 then some (Sum.inl ((s.1 + (1 : Int32)), q2.2)) else up (some (y1, q2.2)))))
theorem k_X9_byTurns_L2 {g : Gx}  {Q : Qy} {s : Int32 × Mem} {t : (Int32 × Mem) ⊕ (Int32 × Mem)} (h : f_X9_byTurns_L2 s = some t) (hP : P_X9_byTurns_2 g Q t) : A_X9_byTurns_2 g Q s := by
  refine wp_iload_n dX9_byTurns_2 rfl rfl ?_
  refine wp_aload_n dX9_byTurns_3 rfl rfl ?_
  refine wm_getI dX9_byTurns_4 s_85 fk_X9_159 rfl rfl ?_
  refine wm_icmp_gt 38 dX9_byTurns_7 rfl rfl h (fun h => ?_) (fun h => ?_)
  · refine wm_up h hP (fun r h hP => ?_)
    refine wp_iconst (-1 : Int32) dX9_byTurns_38 ic_m1 rfl ?_
    exact wm_iret dX9_byTurns_39 rfl ⟨rfl, rfl⟩ h hP
  · refine wp_aload_n dX9_byTurns_10 rfl rfl ?_
    refine wm_getI dX9_byTurns_11 s_85 fk_X9_305 rfl rfl ?_
    refine wp_iload_n dX9_byTurns_14 rfl rfl ?_
    refine wp_iadd dX9_byTurns_15 rfl ?_
    refine wp_aload_n dX9_byTurns_16 rfl rfl ?_
    refine wm_getI dX9_byTurns_17 s_85 fk_X9_159 rfl rfl ?_
    refine wm_irem dX9_byTurns_20 rfl h (fun h => ?_)
    refine wm_nm h (fun y1 h => ?_)
    refine wp_istore_n dX9_byTurns_21 (by decide) rfl rfl rfl ?_
    refine wp_aload_n dX9_byTurns_22 rfl rfl ?_
    refine wp_iload_n dX9_byTurns_23 rfl rfl ?_
    refine wm_callVI (As := [.int y1]) (rest := []) dX9_byTurns_24 ok_X9_302 (by decide) rfl s_85 ⟨_, rfl⟩ (Nat.le_of_ble_eq_true rfl) ⟨rfl, rfl⟩ rfl (fun t h => o_X9_wishes h) h (fun q2 h => ?_)
    refine wm_if_eq 32 dX9_byTurns_27 rfl rfl h (fun h => ?_) (fun h => ?_)
    · refine wp_inc dX9_byTurns_32 rfl ii_1 (by decide) rfl rfl rfl ?_
      refine wp_goto 2 dX9_byTurns_35 rfl ?_
      have hB := wm_back h hP
      exact wm_mask [true, true, false] rfl (hB)
    · refine wm_up h hP (fun r h hP => ?_)
      refine wp_iload_n dX9_byTurns_30 rfl rfl ?_
      exact wm_iret dX9_byTurns_31 rfl ⟨rfl, rfl⟩ h hP
noncomputable def f_X9_byTurns   (m : Mem) : Option (Int32 × Mem) := wh (f_X9_byTurns_L2) ((1 : Int32), m)
theorem k_X9_byTurns_E {g : Gx}   {Q : Qy} {m : Mem} {t : Int32 × Mem} (h : f_X9_byTurns m = some t) (hP : pI Q t) : WpM g 3 mi_X9_byTurns 0 [some (.ref 85), none, none] [] m (zM g mi_X9_byTurns Q) := by
  refine wp_iconst (1 : Int32) dX9_byTurns_0 ic_1 rfl ?_
  refine wp_istore_n dX9_byTurns_1 (by decide) rfl rfl rfl ?_
  have hB := wh_ok (A := A_X9_byTurns_2 g Q) (B := pI Q) (fun s t h hP => k_X9_byTurns_L2  h hP) h hP
  exact wm_mask [true, true, false] rfl (hB)
theorem o_X9_byTurns {g : Gx}   {m : Mem} {t : Int32 × Mem} (h : f_X9_byTurns m = some t) : MxM g 3 mi_X9_byTurns [.ref 85] m (qI t) := mx_of pn_X9 (Nat.le_of_ble_eq_true rfl) (k_X9_byTurns_E h ⟨rfl, rfl, rfl, rfl, rfl⟩)
noncomputable def f_X9_isOne  (p1 : Int64) (p2 : Int64) (p3 : Int64) (m : Mem) : Option (Int32 × Mem) := (f_X9_within p1 (0 : Int64) ((gI m 85 8) - (1 : Int32)).toInt64 m).bind (fun q1 => if q1.1 = 0 then bz (0 : Int32) (some ((0 : Int32), q1.2)) else (f_X9_within p2 (-9 : Int64) (9 : Int64) q1.2).bind (fun q2 => if q2.1 = 0 then bz (0 : Int32) (some ((0 : Int32), q2.2)) else (f_X9_within p3 (0 : Int64) (1023 : Int64) q2.2).bind (fun q3 => if q3.1 = 0 then bz (0 : Int32) (some ((0 : Int32), q3.2)) else bz (1 : Int32) (some ((1 : Int32), q3.2)))))
theorem k_X9_isOne_E {g : Gx}  {p1 : Int64} {p2 : Int64} {p3 : Int64} {Q : Qy} {m : Mem} {t : Int32 × Mem} (h : f_X9_isOne p1 p2 p3 m = some t) (hP : pI Q t) : WpM g 2 mi_X9_isOne 0 [some (.ref 85), some (.long p1), none, some (.long p2), none, some (.long p3), none] [] m (zM g mi_X9_isOne Q) := by
  refine wp_lload_n dX9_isOne_0 rfl rfl ?_
  refine wp_lconst (0 : Int64) dX9_isOne_1 rfl rfl ?_
  refine wp_aload_n dX9_isOne_2 rfl rfl ?_
  refine wm_getI dX9_isOne_3 s_85 fk_X9_166 rfl rfl ?_
  refine wp_iconst (1 : Int32) dX9_isOne_6 ic_1 rfl ?_
  refine wp_isub dX9_isOne_7 rfl ?_
  refine wp_i2l dX9_isOne_8 rfl ?_
  refine wm_callSI (As := [.long p1, .long (0 : Int64), .long ((gI m 85 8) - (1 : Int32)).toInt64]) (rest := []) dX9_isOne_9 ok_X9_162 (by decide) rfl (Nat.le_of_ble_eq_true rfl) ⟨rfl, rfl⟩ rfl (fun t h => o_X9_within h) h (fun q1 h => ?_)
  refine wm_if_eq 44 dX9_isOne_12 rfl rfl h (fun h => ?_) (fun h => ?_)
  · refine wp_iconst (0 : Int32) dX9_isOne_44 ic_0 rfl ?_
    exact wm_zret dX9_isOne_45 rfl ⟨rfl, rfl⟩ h hP
  · refine wp_lload_n dX9_isOne_15 rfl rfl ?_
    refine wp_ldc2 dX9_isOne_16 q1417 rfl ?_
    refine wp_ldc2 dX9_isOne_19 q1408 rfl ?_
    refine wm_callSI (As := [.long p2, .long (-9 : Int64), .long (9 : Int64)]) (rest := []) dX9_isOne_22 ok_X9_162 (by decide) rfl (Nat.le_of_ble_eq_true rfl) ⟨rfl, rfl⟩ rfl (fun t h => o_X9_within h) h (fun q2 h => ?_)
    refine wm_if_eq 44 dX9_isOne_25 rfl rfl h (fun h => ?_) (fun h => ?_)
    · refine wp_iconst (0 : Int32) dX9_isOne_44 ic_0 rfl ?_
      exact wm_zret dX9_isOne_45 rfl ⟨rfl, rfl⟩ h hP
    · refine wp_lload dX9_isOne_28 rfl rfl ?_
      refine wp_lconst (0 : Int64) dX9_isOne_30 rfl rfl ?_
      refine wp_ldc2 dX9_isOne_31 q1418 rfl ?_
      refine wm_callSI (As := [.long p3, .long (0 : Int64), .long (1023 : Int64)]) (rest := []) dX9_isOne_34 ok_X9_162 (by decide) rfl (Nat.le_of_ble_eq_true rfl) ⟨rfl, rfl⟩ rfl (fun t h => o_X9_within h) h (fun q3 h => ?_)
      refine wm_if_eq 44 dX9_isOne_37 rfl rfl h (fun h => ?_) (fun h => ?_)
      · refine wp_iconst (0 : Int32) dX9_isOne_44 ic_0 rfl ?_
        exact wm_zret dX9_isOne_45 rfl ⟨rfl, rfl⟩ h hP
      · refine wp_iconst (1 : Int32) dX9_isOne_40 ic_1 rfl ?_
        refine wp_goto 45 dX9_isOne_41 rfl ?_
        exact wm_zret dX9_isOne_45 rfl ⟨rfl, rfl⟩ h hP
theorem o_X9_isOne {g : Gx}  {p1 : Int64} {p2 : Int64} {p3 : Int64} {m : Mem} {t : Int32 × Mem} (h : f_X9_isOne p1 p2 p3 m = some t) : MxM g 2 mi_X9_isOne [.ref 85, .long p1, .long p2, .long p3] m (qI t) := mx_of pn_X9 (Nat.le_of_ble_eq_true rfl) (k_X9_isOne_E h ⟨rfl, rfl, rfl, rfl, rfl⟩)
noncomputable def f_X9_card  (p1 : Int32) (p2 : Int32) (p3 : Int32) (m : Mem) : Option (Int32 × Mem) := (f_X9_isOne p1.toInt64 p2.toInt64 p3.toInt64 m).bind (fun q1 => if ¬ q1.1 = 0 then if ¬ (gI q1.2 85 9) = (20 : Int32) then (f_X9_adds p1 p2 p3 q1.2).bind (fun q2 => some (((gI q2 85 9) - (1 : Int32)), q2)) else some ((-3 : Int32), q1.2) else some ((-1 : Int32), q1.2))
theorem k_X9_card_E {g : Gx}  {p1 : Int32} {p2 : Int32} {p3 : Int32} {Q : Qy} {m : Mem} {t : Int32 × Mem} (h : f_X9_card p1 p2 p3 m = some t) (hP : pI Q t) : WpM g 3 mi_X9_card 0 [some (.ref 85), some (.int p1), some (.int p2), some (.int p3)] [] m (zM g mi_X9_card Q) := by
  refine wp_aload_n dX9_card_0 rfl rfl ?_
  refine wp_iload_n dX9_card_1 rfl rfl ?_
  refine wp_i2l dX9_card_2 rfl ?_
  refine wp_iload_n dX9_card_3 rfl rfl ?_
  refine wp_i2l dX9_card_4 rfl ?_
  refine wp_iload_n dX9_card_5 rfl rfl ?_
  refine wp_i2l dX9_card_6 rfl ?_
  refine wm_callVI (As := [.long p1.toInt64, .long p2.toInt64, .long p3.toInt64]) (rest := []) dX9_card_7 ok_X9_191 (by decide) rfl s_85 ⟨_, rfl⟩ (Nat.le_of_ble_eq_true rfl) ⟨rfl, rfl⟩ rfl (fun t h => o_X9_isOne h) h (fun q1 h => ?_)
  refine wm_if_ne 15 dX9_card_10 rfl rfl h (fun h => ?_) (fun h => ?_)
  · refine wp_aload_n dX9_card_15 rfl rfl ?_
    refine wm_getI dX9_card_16 s_85 fk_X9_169 rfl rfl ?_
    refine wp_bipush (20 : Int32) dX9_card_19 ib_20 rfl ?_
    refine wm_icmp_ne 27 dX9_card_21 rfl rfl h (fun h => ?_) (fun h => ?_)
    · refine wp_aload_n dX9_card_27 rfl rfl ?_
      refine wp_iload_n dX9_card_28 rfl rfl ?_
      refine wp_iload_n dX9_card_29 rfl rfl ?_
      refine wp_iload_n dX9_card_30 rfl rfl ?_
      refine wm_callVN (As := [.int p1, .int p2, .int p3]) (rest := []) dX9_card_31 ok_X9_194 (by decide) rfl s_85 ⟨_, rfl⟩ (Nat.le_of_ble_eq_true rfl) ⟨rfl, rfl⟩ rfl (fun t h => o_X9_adds h) h (fun q2 h => ?_)
      refine wp_aload_n dX9_card_34 rfl rfl ?_
      refine wm_getI dX9_card_35 s_85 fk_X9_169 rfl rfl ?_
      refine wp_iconst (1 : Int32) dX9_card_38 ic_1 rfl ?_
      refine wp_isub dX9_card_39 rfl ?_
      exact wm_iret dX9_card_40 rfl ⟨rfl, rfl⟩ h hP
    · refine wp_bipush (-3 : Int32) dX9_card_24 ib_m3 rfl ?_
      exact wm_iret dX9_card_26 rfl ⟨rfl, rfl⟩ h hP
  · refine wp_iconst (-1 : Int32) dX9_card_13 ic_m1 rfl ?_
    exact wm_iret dX9_card_14 rfl ⟨rfl, rfl⟩ h hP
theorem o_X9_card {g : Gx}  {p1 : Int32} {p2 : Int32} {p3 : Int32} {m : Mem} {t : Int32 × Mem} (h : f_X9_card p1 p2 p3 m = some t) : MxM g 3 mi_X9_card [.ref 85, .int p1, .int p2, .int p3] m (qI t) := mx_of pn_X9 (Nat.le_of_ble_eq_true rfl) (k_X9_card_E h ⟨rfl, rfl, rfl, rfl, rfl⟩)
noncomputable def f_X9_isShelf  (p1 : Int32) (m : Mem) : Option (Int32 × Mem) := (f_X9_within p1.toInt64 (0 : Int64) (5 : Int64) m).bind (fun q1 => bz q1.1 (some (q1.1, q1.2)))
theorem k_X9_isShelf_E {g : Gx}  {p1 : Int32} {Q : Qy} {m : Mem} {t : Int32 × Mem} (h : f_X9_isShelf p1 m = some t) (hP : pI Q t) : WpM g 2 mi_X9_isShelf 0 [some (.int p1)] [] m (zM g mi_X9_isShelf Q) := by
  refine wp_iload_n dX9_isShelf_0 rfl rfl ?_
  refine wp_i2l dX9_isShelf_1 rfl ?_
  refine wp_lconst (0 : Int64) dX9_isShelf_2 rfl rfl ?_
  refine wp_ldc2 dX9_isShelf_3 q1430 rfl ?_
  refine wm_callSI (As := [.long p1.toInt64, .long (0 : Int64), .long (5 : Int64)]) (rest := []) dX9_isShelf_6 ok_X9_162 (by decide) rfl (Nat.le_of_ble_eq_true rfl) ⟨rfl, rfl⟩ rfl (fun t h => o_X9_within h) h (fun q1 h => ?_)
  exact wm_zret dX9_isShelf_9 rfl ⟨rfl, rfl⟩ h hP
theorem o_X9_isShelf {g : Gx}  {p1 : Int32} {m : Mem} {t : Int32 × Mem} (h : f_X9_isShelf p1 m = some t) : MxM g 2 mi_X9_isShelf [.int p1] m (qI t) := mx_of pn_X9 (Nat.le_of_ble_eq_true rfl) (k_X9_isShelf_E h ⟨rfl, rfl, rfl, rfl, rfl⟩)
abbrev A_X9_cards_69 (g : Gx)  (Q : Qy) (s : Int32 × Int32 × Int32 × Int32 × Int32 × Mem) : Prop := WpM g 3 mi_X9_cards 69 [some (.ref 85), some (.int s.1), some (.int s.2.1), some (.int s.2.2.1), some (.int s.2.2.2.1), some (.int s.2.2.2.2.1), none] [] s.2.2.2.2.2 (zM g mi_X9_cards Q)
abbrev P_X9_cards_69 (g : Gx)  (Q : Qy) : ((Int32 × Int32 × Int32 × Int32 × Int32 × Mem) ⊕ (Int32 × Mem)) → Prop := pS (A_X9_cards_69 g Q) (pI Q)
noncomputable def f_X9_cards_J168  (v1 : Int32) (v2 : Int32) (v3 : Int32) (v4 : Int32) (v6 : Int32) (t0 : Int32) (m : Mem) : Option ((Int32 × Int32 × Int32 × Int32 × Int32 × Mem) ⊕ (Int32 × Mem)) := if t0 = 0 then some (Sum.inl (v1, v2, v3, v4, t0, m)) else ck v6 360 (ck (v6 + (1 : Int32)) 360 (ck (v6 + (2 : Int32)) 360 ((f_X9_adds (gJ m 128 (ix v6)).toInt32 (gJ m 128 (ix (v6 + (1 : Int32)))).toInt32 (gJ m 128 (ix (v6 + (2 : Int32)))).toInt32 m).bind (fun q4 => some (Sum.inl (v1, v2, v3, (v4 + (1 : Int32)), t0, q4))))))
theorem k_X9_cards_J168 {g : Gx}  {v1 : Int32} {v2 : Int32} {v3 : Int32} {v4 : Int32} {v6 : Int32} {t0 : Int32}  {Q : Qy} {m : Mem} {t : (Int32 × Int32 × Int32 × Int32 × Int32 × Mem) ⊕ (Int32 × Mem)} (h : f_X9_cards_J168 v1 v2 v3 v4 v6 t0 m = some t) (hP : P_X9_cards_69 g Q t) : WpM g 3 mi_X9_cards 168 [some (.ref 85), some (.int v1), some (.int v2), some (.int v3), some (.int v4), none, some (.int v6)] [.int t0] m (zM g mi_X9_cards Q) := by
  refine wp_istore dX9_cards_168 (by decide) rfl rfl rfl ?_
  refine wp_iload dX9_cards_170 rfl rfl ?_
  refine wm_if_eq 210 dX9_cards_172 rfl rfl h (fun h => ?_) (fun h => ?_)
  · refine wp_goto 69 dX9_cards_210 rfl ?_
    have hB := wm_back h hP
    exact wm_mask [true, true, true, true, true, true, false] rfl (hB)
  · refine wp_aload_n dX9_cards_175 rfl rfl ?_
    refine wp_aload_n dX9_cards_176 rfl rfl ?_
    refine wm_getR dX9_cards_177 s_85 fk_X9_136 rfl r_85_74 rfl ?_
    refine wp_iload dX9_cards_180 rfl rfl ?_
    refine wm_lald dX9_cards_182 s_128 rfl h (fun h => ?_)
    refine wp_l2i dX9_cards_183 rfl ?_
    refine wp_aload_n dX9_cards_184 rfl rfl ?_
    refine wm_getR dX9_cards_185 s_85 fk_X9_136 rfl r_85_74 rfl ?_
    refine wp_iload dX9_cards_188 rfl rfl ?_
    refine wp_iconst (1 : Int32) dX9_cards_190 ic_1 rfl ?_
    refine wp_iadd dX9_cards_191 rfl ?_
    refine wm_lald dX9_cards_192 s_128 rfl h (fun h => ?_)
    refine wp_l2i dX9_cards_193 rfl ?_
    refine wp_aload_n dX9_cards_194 rfl rfl ?_
    refine wm_getR dX9_cards_195 s_85 fk_X9_136 rfl r_85_74 rfl ?_
    refine wp_iload dX9_cards_198 rfl rfl ?_
    refine wp_iconst (2 : Int32) dX9_cards_200 ic_2 rfl ?_
    refine wp_iadd dX9_cards_201 rfl ?_
    refine wm_lald dX9_cards_202 s_128 rfl h (fun h => ?_)
    refine wp_l2i dX9_cards_203 rfl ?_
    refine wm_callVN (As := [.int (gJ m 128 (ix v6)).toInt32, .int (gJ m 128 (ix (v6 + (1 : Int32)))).toInt32, .int (gJ m 128 (ix (v6 + (2 : Int32)))).toInt32]) (rest := []) dX9_cards_204 ok_X9_194 (by decide) rfl s_85 ⟨_, rfl⟩ (Nat.le_of_ble_eq_true rfl) ⟨rfl, rfl⟩ rfl (fun t h => o_X9_adds h) h (fun q4 h => ?_)
    refine wp_inc dX9_cards_207 rfl ii_1 (by decide) rfl rfl rfl ?_
    refine wp_goto 69 dX9_cards_210 rfl ?_
    have hB := wm_back h hP
    exact wm_mask [true, true, true, true, true, true, false] rfl (hB)
noncomputable def f_X9_cards_J167  (v1 : Int32) (v2 : Int32) (v3 : Int32) (v4 : Int32) (v6 : Int32) (m : Mem) : Option ((Int32 × Int32 × Int32 × Int32 × Int32 × Mem) ⊕ (Int32 × Mem)) := f_X9_cards_J168 v1 v2 v3 v4 v6 (0 : Int32) m
theorem k_X9_cards_J167 {g : Gx}  {v1 : Int32} {v2 : Int32} {v3 : Int32} {v4 : Int32} {v6 : Int32}  {Q : Qy} {m : Mem} {t : (Int32 × Int32 × Int32 × Int32 × Int32 × Mem) ⊕ (Int32 × Mem)} (h : f_X9_cards_J167 v1 v2 v3 v4 v6 m = some t) (hP : P_X9_cards_69 g Q t) : WpM g 3 mi_X9_cards 167 [some (.ref 85), some (.int v1), some (.int v2), some (.int v3), some (.int v4), none, some (.int v6)] [] m (zM g mi_X9_cards Q) := by
  refine wp_iconst (0 : Int32) dX9_cards_167 ic_0 rfl ?_
  exact wm_mask [true, true, true, true, true, false, true] rfl (k_X9_cards_J168  h hP)
noncomputable def f_X9_cards_J111  (v1 : Int32) (v2 : Int32) (v3 : Int32) (v4 : Int32) (t0 : Int32) (m : Mem) : Option ((Int32 × Int32 × Int32 × Int32 × Int32 × Mem) ⊕ (Int32 × Mem)) := bnd ((((60 : Int32) * v1) + v2) + ((3 : Int32) * v4)) (fun y3 => if t0 = 0 then f_X9_cards_J167 v1 v2 v3 v4 y3 m else ck y3 360 (ck (y3 + (1 : Int32)) 360 (ck (y3 + (2 : Int32)) 360 ((f_X9_isOne (gJ m 128 (ix y3)) (gJ m 128 (ix (y3 + (1 : Int32)))) (gJ m 128 (ix (y3 + (2 : Int32)))) m).bind (fun q5 => if q5.1 = 0 then f_X9_cards_J167 v1 v2 v3 v4 y3 q5.2 else f_X9_cards_J168 v1 v2 v3 v4 y3 (1 : Int32) q5.2)))))
theorem k_X9_cards_J111 {g : Gx}  {v1 : Int32} {v2 : Int32} {v3 : Int32} {v4 : Int32} {t0 : Int32}  {Q : Qy} {m : Mem} {t : (Int32 × Int32 × Int32 × Int32 × Int32 × Mem) ⊕ (Int32 × Mem)} (h : f_X9_cards_J111 v1 v2 v3 v4 t0 m = some t) (hP : P_X9_cards_69 g Q t) : WpM g 3 mi_X9_cards 111 [some (.ref 85), some (.int v1), some (.int v2), some (.int v3), some (.int v4), none, none] [.int t0] m (zM g mi_X9_cards Q) := by
  refine wp_istore dX9_cards_111 (by decide) rfl rfl rfl ?_
  refine wp_bipush (60 : Int32) dX9_cards_113 ib_60 rfl ?_
  refine wp_iload_n dX9_cards_115 rfl rfl ?_
  refine wp_imul dX9_cards_116 rfl ?_
  refine wp_iload_n dX9_cards_117 rfl rfl ?_
  refine wp_iadd dX9_cards_118 rfl ?_
  refine wp_iconst (3 : Int32) dX9_cards_119 ic_3 rfl ?_
  refine wp_iload dX9_cards_120 rfl rfl ?_
  refine wp_imul dX9_cards_122 rfl ?_
  refine wp_iadd dX9_cards_123 rfl ?_
  refine wm_nm h (fun y3 h => ?_)
  refine wp_istore dX9_cards_124 (by decide) rfl rfl rfl ?_
  refine wp_iload dX9_cards_126 rfl rfl ?_
  refine wm_if_eq 167 dX9_cards_128 rfl rfl h (fun h => ?_) (fun h => ?_)
  · exact wm_mask [true, true, true, true, true, false, true] rfl (k_X9_cards_J167  h hP)
  · refine wp_aload_n dX9_cards_131 rfl rfl ?_
    refine wp_aload_n dX9_cards_132 rfl rfl ?_
    refine wm_getR dX9_cards_133 s_85 fk_X9_136 rfl r_85_74 rfl ?_
    refine wp_iload dX9_cards_136 rfl rfl ?_
    refine wm_lald dX9_cards_138 s_128 rfl h (fun h => ?_)
    refine wp_aload_n dX9_cards_139 rfl rfl ?_
    refine wm_getR dX9_cards_140 s_85 fk_X9_136 rfl r_85_74 rfl ?_
    refine wp_iload dX9_cards_143 rfl rfl ?_
    refine wp_iconst (1 : Int32) dX9_cards_145 ic_1 rfl ?_
    refine wp_iadd dX9_cards_146 rfl ?_
    refine wm_lald dX9_cards_147 s_128 rfl h (fun h => ?_)
    refine wp_aload_n dX9_cards_148 rfl rfl ?_
    refine wm_getR dX9_cards_149 s_85 fk_X9_136 rfl r_85_74 rfl ?_
    refine wp_iload dX9_cards_152 rfl rfl ?_
    refine wp_iconst (2 : Int32) dX9_cards_154 ic_2 rfl ?_
    refine wp_iadd dX9_cards_155 rfl ?_
    refine wm_lald dX9_cards_156 s_128 rfl h (fun h => ?_)
    refine wm_callVI (As := [.long (gJ m 128 (ix y3)), .long (gJ m 128 (ix (y3 + (1 : Int32)))), .long (gJ m 128 (ix (y3 + (2 : Int32))))]) (rest := []) dX9_cards_157 ok_X9_191 (by decide) rfl s_85 ⟨_, rfl⟩ (Nat.le_of_ble_eq_true rfl) ⟨rfl, rfl⟩ rfl (fun t h => o_X9_isOne h) h (fun q5 h => ?_)
    refine wm_if_eq 167 dX9_cards_160 rfl rfl h (fun h => ?_) (fun h => ?_)
    · exact wm_mask [true, true, true, true, true, false, true] rfl (k_X9_cards_J167  h hP)
    · refine wp_iconst (1 : Int32) dX9_cards_163 ic_1 rfl ?_
      refine wp_goto 168 dX9_cards_164 rfl ?_
      exact wm_mask [true, true, true, true, true, false, true] rfl (k_X9_cards_J168  h hP)
noncomputable def f_X9_cards_J110  (v1 : Int32) (v2 : Int32) (v3 : Int32) (v4 : Int32) (m : Mem) : Option ((Int32 × Int32 × Int32 × Int32 × Int32 × Mem) ⊕ (Int32 × Mem)) := f_X9_cards_J111 v1 v2 v3 v4 (0 : Int32) m
theorem k_X9_cards_J110 {g : Gx}  {v1 : Int32} {v2 : Int32} {v3 : Int32} {v4 : Int32}  {Q : Qy} {m : Mem} {t : (Int32 × Int32 × Int32 × Int32 × Int32 × Mem) ⊕ (Int32 × Mem)} (h : f_X9_cards_J110 v1 v2 v3 v4 m = some t) (hP : P_X9_cards_69 g Q t) : WpM g 3 mi_X9_cards 110 [some (.ref 85), some (.int v1), some (.int v2), some (.int v3), some (.int v4), none, none] [] m (zM g mi_X9_cards Q) := by
  refine wp_iconst (0 : Int32) dX9_cards_110 ic_0 rfl ?_
  exact wm_mask [true, true, true, true, true, false, false] rfl (k_X9_cards_J111  h hP)
noncomputable def f_X9_cards_L69  (s : Int32 × Int32 × Int32 × Int32 × Int32 × Mem) : Option ((Int32 × Int32 × Int32 × Int32 × Int32 × Mem) ⊕ (Int32 × Mem)) := if s.2.2.2.2.1 = 0 then up (some (s.2.2.2.1, s.2.2.2.2.2)) else if s.2.2.1 ≤ s.2.2.2.1 then up (some (s.2.2.2.1, s.2.2.2.2.2)) else ck s.1 6 (if (((gI s.2.2.2.2.2 127 (ix s.1)) - (3 : Int32)) - ((3 : Int32) * s.2.2.2.1)) < s.2.1 then f_X9_cards_J110 s.1 s.2.1 s.2.2.1 s.2.2.2.1 s.2.2.2.2.2 else if (20 : Int32) ≤ (gI s.2.2.2.2.2 85 9) then f_X9_cards_J110 s.1 s.2.1 s.2.2.1 s.2.2.2.1 s.2.2.2.2.2 else f_X9_cards_J111 s.1 s.2.1 s.2.2.1 s.2.2.2.1 (1 : Int32) s.2.2.2.2.2)
theorem k_X9_cards_L69 {g : Gx}  {Q : Qy} {s : Int32 × Int32 × Int32 × Int32 × Int32 × Mem} {t : (Int32 × Int32 × Int32 × Int32 × Int32 × Mem) ⊕ (Int32 × Mem)} (h : f_X9_cards_L69 s = some t) (hP : P_X9_cards_69 g Q t) : A_X9_cards_69 g Q s := by
  refine wp_iload dX9_cards_69 rfl rfl ?_
  refine wm_if_eq 213 dX9_cards_71 rfl rfl h (fun h => ?_) (fun h => ?_)
  · refine wm_up h hP (fun r h hP => ?_)
    refine wp_iload dX9_cards_213 rfl rfl ?_
    exact wm_iret dX9_cards_215 rfl ⟨rfl, rfl⟩ h hP
  · refine wp_iload dX9_cards_74 rfl rfl ?_
    refine wp_iload_n dX9_cards_76 rfl rfl ?_
    refine wm_icmp_ge 213 dX9_cards_77 rfl rfl h (fun h => ?_) (fun h => ?_)
    · refine wm_up h hP (fun r h hP => ?_)
      refine wp_iload dX9_cards_213 rfl rfl ?_
      exact wm_iret dX9_cards_215 rfl ⟨rfl, rfl⟩ h hP
    · refine wp_iload_n dX9_cards_80 rfl rfl ?_
      refine wp_aload_n dX9_cards_81 rfl rfl ?_
      refine wm_getR dX9_cards_82 s_85 fk_X9_133 rfl r_85_73 rfl ?_
      refine wp_iload_n dX9_cards_85 rfl rfl ?_
      refine wm_iald dX9_cards_86 s_127 rfl h (fun h => ?_)
      refine wp_iconst (3 : Int32) dX9_cards_87 ic_3 rfl ?_
      refine wp_isub dX9_cards_88 rfl ?_
      refine wp_iconst (3 : Int32) dX9_cards_89 ic_3 rfl ?_
      refine wp_iload dX9_cards_90 rfl rfl ?_
      refine wp_imul dX9_cards_92 rfl ?_
      refine wp_isub dX9_cards_93 rfl ?_
      refine wm_icmp_gt 110 dX9_cards_94 rfl rfl h (fun h => ?_) (fun h => ?_)
      · exact wm_mask [true, true, true, true, true, false, false] rfl (k_X9_cards_J110  h hP)
      · refine wp_aload_n dX9_cards_97 rfl rfl ?_
        refine wm_getI dX9_cards_98 s_85 fk_X9_169 rfl rfl ?_
        refine wp_bipush (20 : Int32) dX9_cards_101 ib_20 rfl ?_
        refine wm_icmp_ge 110 dX9_cards_103 rfl rfl h (fun h => ?_) (fun h => ?_)
        · exact wm_mask [true, true, true, true, true, false, false] rfl (k_X9_cards_J110  h hP)
        · refine wp_iconst (1 : Int32) dX9_cards_106 ic_1 rfl ?_
          refine wp_goto 111 dX9_cards_107 rfl ?_
          exact wm_mask [true, true, true, true, true, false, false] rfl (k_X9_cards_J111  h hP)
noncomputable def f_X9_cards_J44  (v1 : Int32) (v2 : Int32) (v3 : Int32) (m : Mem) : Option (Int32 × Mem) := ck v1 6 (if ¬ (gI m 126 (ix v1)) = (51 : Int32) then wh (f_X9_cards_L69) (v1, v2, v3, (0 : Int32), (0 : Int32), m) else if v2 < 0 then wh (f_X9_cards_L69) (v1, v2, v3, (0 : Int32), (0 : Int32), m) else wh (f_X9_cards_L69) (v1, v2, v3, (0 : Int32), (1 : Int32), m))
theorem k_X9_cards_J44 {g : Gx}  {v1 : Int32} {v2 : Int32} {v3 : Int32}  {Q : Qy} {m : Mem} {t : Int32 × Mem} (h : f_X9_cards_J44 v1 v2 v3 m = some t) (hP : pI Q t) : WpM g 3 mi_X9_cards 44 [some (.ref 85), some (.int v1), some (.int v2), some (.int v3), none, none, none] [] m (zM g mi_X9_cards Q) := by
  refine wp_iconst (0 : Int32) dX9_cards_44 ic_0 rfl ?_
  refine wp_istore dX9_cards_45 (by decide) rfl rfl rfl ?_
  refine wp_aload_n dX9_cards_47 rfl rfl ?_
  refine wm_getR dX9_cards_48 s_85 fk_X9_130 rfl r_85_72 rfl ?_
  refine wp_iload_n dX9_cards_51 rfl rfl ?_
  refine wm_iald dX9_cards_52 s_126 rfl h (fun h => ?_)
  refine wp_bipush (51 : Int32) dX9_cards_53 ib_51 rfl ?_
  refine wm_icmp_ne 66 dX9_cards_55 rfl rfl h (fun h => ?_) (fun h => ?_)
  · refine wp_iconst (0 : Int32) dX9_cards_66 ic_0 rfl ?_
    refine wp_istore dX9_cards_67 (by decide) rfl rfl rfl ?_
    have hB := wh_ok (A := A_X9_cards_69 g Q) (B := pI Q) (fun s t h hP => k_X9_cards_L69  h hP) h hP
    exact wm_mask [true, true, true, true, true, true, false] rfl (hB)
  · refine wp_iload_n dX9_cards_58 rfl rfl ?_
    refine wm_if_lt 66 dX9_cards_59 rfl rfl h (fun h => ?_) (fun h => ?_)
    · refine wp_iconst (0 : Int32) dX9_cards_66 ic_0 rfl ?_
      refine wp_istore dX9_cards_67 (by decide) rfl rfl rfl ?_
      have hB := wh_ok (A := A_X9_cards_69 g Q) (B := pI Q) (fun s t h hP => k_X9_cards_L69  h hP) h hP
      exact wm_mask [true, true, true, true, true, true, false] rfl (hB)
    · refine wp_iconst (1 : Int32) dX9_cards_62 ic_1 rfl ?_
      refine wp_goto 67 dX9_cards_63 rfl ?_
      refine wp_istore dX9_cards_67 (by decide) rfl rfl rfl ?_
      have hB := wh_ok (A := A_X9_cards_69 g Q) (B := pI Q) (fun s t h hP => k_X9_cards_L69  h hP) h hP
      exact wm_mask [true, true, true, true, true, true, false] rfl (hB)
noncomputable def f_X9_cards  (p1 : Int32) (p2 : Int32) (p3 : Int32) (m : Mem) : Option (Int32 × Mem) := (f_X9_isShelf p1 m).bind (fun q1 => if q1.1 = 0 then some ((-1 : Int32), q1.2) else (f_X9_within p3.toInt64 (1 : Int64) (20 : Int64) q1.2).bind (fun q2 => if ¬ q2.1 = 0 then ck p1 6 (if (gI q2.2 126 (ix p1)) < 0 then f_X9_cards_J44 p1 p2 p3 q2.2 else ck p1 6 (if (gI q2.2 126 (ix p1)) = (51 : Int32) then f_X9_cards_J44 p1 p2 p3 q2.2 else some ((-12 : Int32), q2.2))) else some ((-1 : Int32), q2.2)))
theorem k_X9_cards_E {g : Gx}  {p1 : Int32} {p2 : Int32} {p3 : Int32} {Q : Qy} {m : Mem} {t : Int32 × Mem} (h : f_X9_cards p1 p2 p3 m = some t) (hP : pI Q t) : WpM g 3 mi_X9_cards 0 [some (.ref 85), some (.int p1), some (.int p2), some (.int p3), none, none, none] [] m (zM g mi_X9_cards Q) := by
  refine wp_iload_n dX9_cards_0 rfl rfl ?_
  refine wm_callSI (As := [.int p1]) (rest := []) dX9_cards_1 ok_X9_198 (by decide) rfl (Nat.le_of_ble_eq_true rfl) ⟨rfl, rfl⟩ rfl (fun t h => o_X9_isShelf h) h (fun q1 h => ?_)
  refine wm_if_eq 19 dX9_cards_4 rfl rfl h (fun h => ?_) (fun h => ?_)
  · refine wp_iconst (-1 : Int32) dX9_cards_19 ic_m1 rfl ?_
    exact wm_iret dX9_cards_20 rfl ⟨rfl, rfl⟩ h hP
  · refine wp_iload_n dX9_cards_7 rfl rfl ?_
    refine wp_i2l dX9_cards_8 rfl ?_
    refine wp_lconst (1 : Int64) dX9_cards_9 rfl rfl ?_
    refine wp_ldc2 dX9_cards_10 q1431 rfl ?_
    refine wm_callSI (As := [.long p3.toInt64, .long (1 : Int64), .long (20 : Int64)]) (rest := []) dX9_cards_13 ok_X9_162 (by decide) rfl (Nat.le_of_ble_eq_true rfl) ⟨rfl, rfl⟩ rfl (fun t h => o_X9_within h) h (fun q2 h => ?_)
    refine wm_if_ne 21 dX9_cards_16 rfl rfl h (fun h => ?_) (fun h => ?_)
    · refine wp_aload_n dX9_cards_21 rfl rfl ?_
      refine wm_getR dX9_cards_22 s_85 fk_X9_130 rfl r_85_72 rfl ?_
      refine wp_iload_n dX9_cards_25 rfl rfl ?_
      refine wm_iald dX9_cards_26 s_126 rfl h (fun h => ?_)
      refine wm_if_lt 44 dX9_cards_27 rfl rfl h (fun h => ?_) (fun h => ?_)
      · exact wm_mask [true, true, true, true, false, false, false] rfl (k_X9_cards_J44  h hP)
      · refine wp_aload_n dX9_cards_30 rfl rfl ?_
        refine wm_getR dX9_cards_31 s_85 fk_X9_130 rfl r_85_72 rfl ?_
        refine wp_iload_n dX9_cards_34 rfl rfl ?_
        refine wm_iald dX9_cards_35 s_126 rfl h (fun h => ?_)
        refine wp_bipush (51 : Int32) dX9_cards_36 ib_51 rfl ?_
        refine wm_icmp_eq 44 dX9_cards_38 rfl rfl h (fun h => ?_) (fun h => ?_)
        · exact wm_mask [true, true, true, true, false, false, false] rfl (k_X9_cards_J44  h hP)
        · refine wp_bipush (-12 : Int32) dX9_cards_41 ib_m12 rfl ?_
          exact wm_iret dX9_cards_43 rfl ⟨rfl, rfl⟩ h hP
    · refine wp_iconst (-1 : Int32) dX9_cards_19 ic_m1 rfl ?_
      exact wm_iret dX9_cards_20 rfl ⟨rfl, rfl⟩ h hP
theorem o_X9_cards {g : Gx}  {p1 : Int32} {p2 : Int32} {p3 : Int32} {m : Mem} {t : Int32 × Mem} (h : f_X9_cards p1 p2 p3 m = some t) : MxM g 3 mi_X9_cards [.ref 85, .int p1, .int p2, .int p3] m (qI t) := mx_of pn_X9 (Nat.le_of_ble_eq_true rfl) (k_X9_cards_E h ⟨rfl, rfl, rfl, rfl, rfl⟩)
abbrev A_X9_mostWishing_5 (g : Gx)  (Q : Qy) (s : Int32 × Int32 × Int32 × Int32 × Mem) : Prop := WpM g 3 mi_X9_mostWishing 5 [some (.ref 85), some (.int s.1), some (.int s.2.1), some (.int s.2.2.1), some (.int s.2.2.2.1)] [] s.2.2.2.2 (zM g mi_X9_mostWishing Q)
abbrev P_X9_mostWishing_5 (g : Gx)  (Q : Qy) : ((Int32 × Int32 × Int32 × Int32 × Mem) ⊕ (Int32 × Mem)) → Prop := pS (A_X9_mostWishing_5 g Q) (pI Q)
noncomputable def f_X9_mostWishing_J38  (v1 : Int32) (v2 : Int32) (v3 : Int32) (v4 : Int32) (m : Mem) : Option ((Int32 × Int32 × Int32 × Int32 × Mem) ⊕ (Int32 × Mem)) := if v3 < 0 then some (Sum.inl (v1, v2, v4, (v4 + (1 : Int32)), m)) else ck v4 10 (ck v3 10 (if (gI m 98 (ix v4)) ≤ (gI m 98 (ix v3)) then some (Sum.inl (v1, v2, v3, (v4 + (1 : Int32)), m)) else some (Sum.inl (v1, v2, v4, (v4 + (1 : Int32)), m))))
theorem k_X9_mostWishing_J38 {g : Gx}  {v1 : Int32} {v2 : Int32} {v3 : Int32} {v4 : Int32}  {Q : Qy} {m : Mem} {t : (Int32 × Int32 × Int32 × Int32 × Mem) ⊕ (Int32 × Mem)} (h : f_X9_mostWishing_J38 v1 v2 v3 v4 m = some t) (hP : P_X9_mostWishing_5 g Q t) : WpM g 3 mi_X9_mostWishing 38 [some (.ref 85), some (.int v1), some (.int v2), some (.int v3), some (.int v4)] [] m (zM g mi_X9_mostWishing Q) := by
  refine wp_iload_n dX9_mostWishing_38 rfl rfl ?_
  refine wm_if_lt 58 dX9_mostWishing_39 rfl rfl h (fun h => ?_) (fun h => ?_)
  · refine wp_iload dX9_mostWishing_58 rfl rfl ?_
    refine wp_istore_n dX9_mostWishing_60 (by decide) rfl rfl rfl ?_
    refine wp_inc dX9_mostWishing_61 rfl ii_1 (by decide) rfl rfl rfl ?_
    refine wp_goto 5 dX9_mostWishing_64 rfl ?_
    have hB := wm_back h hP
    exact wm_mask [true, true, true, true, true] rfl (hB)
  · refine wp_aload_n dX9_mostWishing_42 rfl rfl ?_
    refine wm_getR dX9_mostWishing_43 s_85 fk_X9_46 rfl r_85_33 rfl ?_
    refine wp_iload dX9_mostWishing_46 rfl rfl ?_
    refine wm_iald dX9_mostWishing_48 s_98 rfl h (fun h => ?_)
    refine wp_aload_n dX9_mostWishing_49 rfl rfl ?_
    refine wm_getR dX9_mostWishing_50 s_85 fk_X9_46 rfl r_85_33 rfl ?_
    refine wp_iload_n dX9_mostWishing_53 rfl rfl ?_
    refine wm_iald dX9_mostWishing_54 s_98 rfl h (fun h => ?_)
    refine wm_icmp_le 61 dX9_mostWishing_55 rfl rfl h (fun h => ?_) (fun h => ?_)
    · refine wp_inc dX9_mostWishing_61 rfl ii_1 (by decide) rfl rfl rfl ?_
      refine wp_goto 5 dX9_mostWishing_64 rfl ?_
      have hB := wm_back h hP
      exact wm_mask [true, true, true, true, true] rfl (hB)
    · refine wp_iload dX9_mostWishing_58 rfl rfl ?_
      refine wp_istore_n dX9_mostWishing_60 (by decide) rfl rfl rfl ?_
      refine wp_inc dX9_mostWishing_61 rfl ii_1 (by decide) rfl rfl rfl ?_
      refine wp_goto 5 dX9_mostWishing_64 rfl ?_
      have hB := wm_back h hP
      exact wm_mask [true, true, true, true, true] rfl (hB)
noncomputable def f_X9_mostWishing_L5  (s : Int32 × Int32 × Int32 × Int32 × Mem) : Option ((Int32 × Int32 × Int32 × Int32 × Mem) ⊕ (Int32 × Mem)) := if (gI s.2.2.2.2 85 6) ≤ s.2.2.2.1 then up (some (s.2.2.1, s.2.2.2.2)) else (f_X9_wishes s.2.2.2.1 s.2.2.2.2).bind (fun q1 => if q1.1 = 0 then some (Sum.inl (s.1, s.2.1, s.2.2.1, (s.2.2.2.1 + (1 : Int32)), q1.2)) else if ¬ s.1 = 0 then f_X9_mostWishing_J38 s.1 s.2.1 s.2.2.1 s.2.2.2.1 q1.2 else ck s.2.2.2.1 42 (if s.2.1 ≤ (gI q1.2 86 (ix s.2.2.2.1)) then some (Sum.inl (s.1, s.2.1, s.2.2.1, (s.2.2.2.1 + (1 : Int32)), q1.2)) else f_X9_mostWishing_J38 s.1 s.2.1 s.2.2.1 s.2.2.2.1 q1.2))
theorem k_X9_mostWishing_L5 {g : Gx}  {Q : Qy} {s : Int32 × Int32 × Int32 × Int32 × Mem} {t : (Int32 × Int32 × Int32 × Int32 × Mem) ⊕ (Int32 × Mem)} (h : f_X9_mostWishing_L5 s = some t) (hP : P_X9_mostWishing_5 g Q t) : A_X9_mostWishing_5 g Q s := by
  refine wp_iload dX9_mostWishing_5 rfl rfl ?_
  refine wp_aload_n dX9_mostWishing_7 rfl rfl ?_
  refine wm_getI dX9_mostWishing_8 s_85 fk_X9_159 rfl rfl ?_
  refine wm_icmp_ge 67 dX9_mostWishing_11 rfl rfl h (fun h => ?_) (fun h => ?_)
  · refine wm_up h hP (fun r h hP => ?_)
    refine wp_iload_n dX9_mostWishing_67 rfl rfl ?_
    exact wm_iret dX9_mostWishing_68 rfl ⟨rfl, rfl⟩ h hP
  · refine wp_aload_n dX9_mostWishing_14 rfl rfl ?_
    refine wp_iload dX9_mostWishing_15 rfl rfl ?_
    refine wm_callVI (As := [.int s.2.2.2.1]) (rest := []) dX9_mostWishing_17 ok_X9_302 (by decide) rfl s_85 ⟨_, rfl⟩ (Nat.le_of_ble_eq_true rfl) ⟨rfl, rfl⟩ rfl (fun t h => o_X9_wishes h) h (fun q1 h => ?_)
    refine wm_if_eq 61 dX9_mostWishing_20 rfl rfl h (fun h => ?_) (fun h => ?_)
    · refine wp_inc dX9_mostWishing_61 rfl ii_1 (by decide) rfl rfl rfl ?_
      refine wp_goto 5 dX9_mostWishing_64 rfl ?_
      have hB := wm_back h hP
      exact wm_mask [true, true, true, true, true] rfl (hB)
    · refine wp_iload_n dX9_mostWishing_23 rfl rfl ?_
      refine wm_if_ne 38 dX9_mostWishing_24 rfl rfl h (fun h => ?_) (fun h => ?_)
      · exact wm_mask [true, true, true, true, true] rfl (k_X9_mostWishing_J38  h hP)
      · refine wp_aload_n dX9_mostWishing_27 rfl rfl ?_
        refine wm_getR dX9_mostWishing_28 s_85 fk_X9_9 rfl r_85_0 rfl ?_
        refine wp_iload dX9_mostWishing_31 rfl rfl ?_
        refine wm_iald dX9_mostWishing_33 s_86 rfl h (fun h => ?_)
        refine wp_iload_n dX9_mostWishing_34 rfl rfl ?_
        refine wm_icmp_ge 61 dX9_mostWishing_35 rfl rfl h (fun h => ?_) (fun h => ?_)
        · refine wp_inc dX9_mostWishing_61 rfl ii_1 (by decide) rfl rfl rfl ?_
          refine wp_goto 5 dX9_mostWishing_64 rfl ?_
          have hB := wm_back h hP
          exact wm_mask [true, true, true, true, true] rfl (hB)
        · exact wm_mask [true, true, true, true, true] rfl (k_X9_mostWishing_J38  h hP)
noncomputable def f_X9_mostWishing  (p1 : Int32) (p2 : Int32) (m : Mem) : Option (Int32 × Mem) := wh (f_X9_mostWishing_L5) (p1, p2, (-1 : Int32), (0 : Int32), m)
theorem k_X9_mostWishing_E {g : Gx}  {p1 : Int32} {p2 : Int32} {Q : Qy} {m : Mem} {t : Int32 × Mem} (h : f_X9_mostWishing p1 p2 m = some t) (hP : pI Q t) : WpM g 3 mi_X9_mostWishing 0 [some (.ref 85), some (.int p1), some (.int p2), none, none] [] m (zM g mi_X9_mostWishing Q) := by
  refine wp_iconst (-1 : Int32) dX9_mostWishing_0 ic_m1 rfl ?_
  refine wp_istore_n dX9_mostWishing_1 (by decide) rfl rfl rfl ?_
  refine wp_iconst (0 : Int32) dX9_mostWishing_2 ic_0 rfl ?_
  refine wp_istore dX9_mostWishing_3 (by decide) rfl rfl rfl ?_
  have hB := wh_ok (A := A_X9_mostWishing_5 g Q) (B := pI Q) (fun s t h hP => k_X9_mostWishing_L5  h hP) h hP
  exact wm_mask [true, true, true, true, true] rfl (hB)
theorem o_X9_mostWishing {g : Gx}  {p1 : Int32} {p2 : Int32} {m : Mem} {t : Int32 × Mem} (h : f_X9_mostWishing p1 p2 m = some t) : MxM g 3 mi_X9_mostWishing [.ref 85, .int p1, .int p2] m (qI t) := mx_of pn_X9 (Nat.le_of_ble_eq_true rfl) (k_X9_mostWishing_E h ⟨rfl, rfl, rfl, rfl, rfl⟩)
abbrev A_X9_chiefLast_4 (g : Gx)  (Q : Qy) (s : Int32 × Int32 × Mem) : Prop := WpM g 4 mi_X9_chiefLast 4 [some (.ref 85), some (.int s.1), some (.int s.2.1)] [] s.2.2 (zM g mi_X9_chiefLast Q)
abbrev P_X9_chiefLast_4 (g : Gx)  (Q : Qy) : ((Int32 × Int32 × Mem) ⊕ (Int32 × Mem)) → Prop := pS (A_X9_chiefLast_4 g Q) (pI Q)
noncomputable def f_X9_chiefLast_L4  (s : Int32 × Int32 × Mem) : Option ((Int32 × Int32 × Mem) ⊕ (Int32 × Mem)) := if (gI s.2.2 85 6) ≤ s.2.1 then up ((f_X9_mostWishing (0 : Int32) s.1 s.2.2).bind (fun q1 => if 0 ≤ q1.1 then some (q1.1, q1.2) else (f_X9_mostWishing (1 : Int32) s.1 q1.2).bind (fun q2 => some (q2.1, q2.2)))) else (f_X9_isThere s.2.1 s.2.2).bind (fun q3 => if q3.1 = 0 then some (Sum.inl (s.1, (s.2.1 + (1 : Int32)), q3.2)) else ck s.2.1 42 (if (gI q3.2 86 (ix s.2.1)) ≤ s.1 then some (Sum.inl (s.1, (s.2.1 + (1 : Int32)), q3.2)) else ck s.2.1 42 (bnd (gI q3.2 86 (ix s.2.1)) (fun y4 => some (Sum.inl (y4, (s.2.1 + (1 : Int32)), q3.2))))))
theorem k_X9_chiefLast_L4 {g : Gx}  {Q : Qy} {s : Int32 × Int32 × Mem} {t : (Int32 × Int32 × Mem) ⊕ (Int32 × Mem)} (h : f_X9_chiefLast_L4 s = some t) (hP : P_X9_chiefLast_4 g Q t) : A_X9_chiefLast_4 g Q s := by
  refine wp_iload_n dX9_chiefLast_4 rfl rfl ?_
  refine wp_aload_n dX9_chiefLast_5 rfl rfl ?_
  refine wm_getI dX9_chiefLast_6 s_85 fk_X9_159 rfl rfl ?_
  refine wm_icmp_ge 47 dX9_chiefLast_9 rfl rfl h (fun h => ?_) (fun h => ?_)
  · refine wm_up h hP (fun r h hP => ?_)
    refine wp_aload_n dX9_chiefLast_47 rfl rfl ?_
    refine wp_iconst (0 : Int32) dX9_chiefLast_48 ic_0 rfl ?_
    refine wp_iload_n dX9_chiefLast_49 rfl rfl ?_
    refine wm_callVI (As := [.int (0 : Int32), .int s.1]) (rest := []) dX9_chiefLast_50 ok_X9_308 (by decide) rfl s_85 ⟨_, rfl⟩ (Nat.le_of_ble_eq_true rfl) ⟨rfl, rfl⟩ rfl (fun t h => o_X9_mostWishing h) h (fun q1 h => ?_)
    refine wp_istore_n dX9_chiefLast_53 (by decide) rfl rfl rfl ?_
    refine wp_iload_n dX9_chiefLast_54 rfl rfl ?_
    refine wm_if_ge 67 dX9_chiefLast_55 rfl rfl h (fun h => ?_) (fun h => ?_)
    · refine wp_iload_n dX9_chiefLast_67 rfl rfl ?_
      exact wm_iret dX9_chiefLast_68 rfl ⟨rfl, rfl⟩ h hP
    · refine wp_aload_n dX9_chiefLast_58 rfl rfl ?_
      refine wp_iconst (1 : Int32) dX9_chiefLast_59 ic_1 rfl ?_
      refine wp_iload_n dX9_chiefLast_60 rfl rfl ?_
      refine wm_callVI (As := [.int (1 : Int32), .int s.1]) (rest := []) dX9_chiefLast_61 ok_X9_308 (by decide) rfl s_85 ⟨_, rfl⟩ (Nat.le_of_ble_eq_true rfl) ⟨rfl, rfl⟩ rfl (fun t h => o_X9_mostWishing h) h (fun q2 h => ?_)
      refine wp_goto 68 dX9_chiefLast_64 rfl ?_
      exact wm_iret dX9_chiefLast_68 rfl ⟨rfl, rfl⟩ h hP
  · refine wp_aload_n dX9_chiefLast_12 rfl rfl ?_
    refine wp_iload_n dX9_chiefLast_13 rfl rfl ?_
    refine wm_callVI (As := [.int s.2.1]) (rest := []) dX9_chiefLast_14 ok_X9_299 (by decide) rfl s_85 ⟨_, rfl⟩ (Nat.le_of_ble_eq_true rfl) ⟨rfl, rfl⟩ rfl (fun t h => o_X9_isThere h) h (fun q3 h => ?_)
    refine wm_if_eq 39 dX9_chiefLast_17 rfl rfl h (fun h => ?_) (fun h => ?_)
    · refine wp_iload_n dX9_chiefLast_39 rfl rfl ?_
      refine wp_istore_n dX9_chiefLast_40 (by decide) rfl rfl rfl ?_
      refine wp_inc dX9_chiefLast_41 rfl ii_1 (by decide) rfl rfl rfl ?_
      refine wp_goto 4 dX9_chiefLast_44 rfl ?_
      have hB := wm_back h hP
      exact wm_mask [true, true, true] rfl (hB)
    · refine wp_aload_n dX9_chiefLast_20 rfl rfl ?_
      refine wm_getR dX9_chiefLast_21 s_85 fk_X9_9 rfl r_85_0 rfl ?_
      refine wp_iload_n dX9_chiefLast_24 rfl rfl ?_
      refine wm_iald dX9_chiefLast_25 s_86 rfl h (fun h => ?_)
      refine wp_iload_n dX9_chiefLast_26 rfl rfl ?_
      refine wm_icmp_le 39 dX9_chiefLast_27 rfl rfl h (fun h => ?_) (fun h => ?_)
      · refine wp_iload_n dX9_chiefLast_39 rfl rfl ?_
        refine wp_istore_n dX9_chiefLast_40 (by decide) rfl rfl rfl ?_
        refine wp_inc dX9_chiefLast_41 rfl ii_1 (by decide) rfl rfl rfl ?_
        refine wp_goto 4 dX9_chiefLast_44 rfl ?_
        have hB := wm_back h hP
        exact wm_mask [true, true, true] rfl (hB)
      · refine wp_aload_n dX9_chiefLast_30 rfl rfl ?_
        refine wm_getR dX9_chiefLast_31 s_85 fk_X9_9 rfl r_85_0 rfl ?_
        refine wp_iload_n dX9_chiefLast_34 rfl rfl ?_
        refine wm_iald dX9_chiefLast_35 s_86 rfl h (fun h => ?_)
        refine wp_goto 40 dX9_chiefLast_36 rfl ?_
        refine wm_nm h (fun y4 h => ?_)
        refine wp_istore_n dX9_chiefLast_40 (by decide) rfl rfl rfl ?_
        refine wp_inc dX9_chiefLast_41 rfl ii_1 (by decide) rfl rfl rfl ?_
        refine wp_goto 4 dX9_chiefLast_44 rfl ?_
        have hB := wm_back h hP
        exact wm_mask [true, true, true] rfl (hB)
noncomputable def f_X9_chiefLast   (m : Mem) : Option (Int32 × Mem) := wh (f_X9_chiefLast_L4) ((-1 : Int32), (0 : Int32), m)
theorem k_X9_chiefLast_E {g : Gx}   {Q : Qy} {m : Mem} {t : Int32 × Mem} (h : f_X9_chiefLast m = some t) (hP : pI Q t) : WpM g 4 mi_X9_chiefLast 0 [some (.ref 85), none, none] [] m (zM g mi_X9_chiefLast Q) := by
  refine wp_iconst (-1 : Int32) dX9_chiefLast_0 ic_m1 rfl ?_
  refine wp_istore_n dX9_chiefLast_1 (by decide) rfl rfl rfl ?_
  refine wp_iconst (0 : Int32) dX9_chiefLast_2 ic_0 rfl ?_
  refine wp_istore_n dX9_chiefLast_3 (by decide) rfl rfl rfl ?_
  have hB := wh_ok (A := A_X9_chiefLast_4 g Q) (B := pI Q) (fun s t h hP => k_X9_chiefLast_L4  h hP) h hP
  exact wm_mask [true, true, true] rfl (hB)
theorem o_X9_chiefLast {g : Gx}   {m : Mem} {t : Int32 × Mem} (h : f_X9_chiefLast m = some t) : MxM g 4 mi_X9_chiefLast [.ref 85] m (qI t) := mx_of pn_X9 (Nat.le_of_ble_eq_true rfl) (k_X9_chiefLast_E h ⟨rfl, rfl, rfl, rfl, rfl⟩)
