noncomputable def f_X8_took  (p1 : Int32) (p2 : Int32) (m : Mem) : Option (Int32 × Mem) := (f_X4_hadThing p1 m).bind (fun q1 => if q1.1 = 0 then some ((-2000000000 : Int32), q1.2) else if p2 < 0 then some ((-2000000000 : Int32), q1.2) else if p2 ≤ (1 : Int32) then if ¬ p2 = 0 then ck p1 6 (some ((gI q1.2 26 (ix p1)), q1.2)) else ck p1 6 (some ((gI q1.2 (29 + 2) (ix p1)), q1.2)) else some ((-2000000000 : Int32), q1.2))
theorem k_X8_took_E {g : Gx}  {p1 : Int32} {p2 : Int32} {Q : Qy} {m : Mem} {t : Int32 × Mem} (h : f_X8_took p1 p2 m = some t) (hP : pI Q t) : WpM g 2 mi_X8_took 0 [some (.ref 0), some (.int p1), some (.int p2)] [] m (zM g mi_X8_took Q) := by
  refine wp_aload_n dX8_took_0 rfl rfl ?_
  refine wm_getR dX8_took_1 s_0 fk_X8_28 rfl r_0_2 rfl ?_
  refine wp_iload_n dX8_took_4 rfl rfl ?_
  refine wm_callVI (As := [.int p1]) (rest := []) dX8_took_5 ok_X8_179 (by decide) rfl s_24 ⟨_, rfl⟩ (Nat.le_of_ble_eq_true rfl) ⟨rfl, rfl⟩ rfl (fun t h => o_X4_hadThing h) h (fun q1 h => ?_)
  refine wm_if_eq 20 dX8_took_8 rfl rfl h (fun h => ?_) (fun h => ?_)
  · refine wp_ldc dX8_took_20 q722 rfl ?_
    exact wm_iret dX8_took_22 rfl ⟨rfl, rfl⟩ h hP
  · refine wp_iload_n dX8_took_11 rfl rfl ?_
    refine wm_if_lt 20 dX8_took_12 rfl rfl h (fun h => ?_) (fun h => ?_)
    · refine wp_ldc dX8_took_20 q722 rfl ?_
      exact wm_iret dX8_took_22 rfl ⟨rfl, rfl⟩ h hP
    · refine wp_iload_n dX8_took_15 rfl rfl ?_
      refine wp_iconst (1 : Int32) dX8_took_16 ic_1 rfl ?_
      refine wm_icmp_le 23 dX8_took_17 rfl rfl h (fun h => ?_) (fun h => ?_)
      · refine wp_iload_n dX8_took_23 rfl rfl ?_
        refine wm_if_ne 40 dX8_took_24 rfl rfl h (fun h => ?_) (fun h => ?_)
        · refine wp_aload_n dX8_took_40 rfl rfl ?_
          refine wm_getR dX8_took_41 s_0 fk_X8_28 rfl r_0_2 rfl ?_
          refine wm_getR dX8_took_44 s_24 fk_X8_185 rfl r_24_2 rfl ?_
          refine wp_iload_n dX8_took_47 rfl rfl ?_
          refine wm_iald dX8_took_48 s_26 rfl h (fun h => ?_)
          exact wm_iret dX8_took_49 rfl ⟨rfl, rfl⟩ h hP
        · refine wp_aload_n dX8_took_27 rfl rfl ?_
          refine wm_getR dX8_took_28 s_0 fk_X8_28 rfl r_0_2 rfl ?_
          refine wm_getR dX8_took_31 s_24 fk_X8_167 rfl r_24_0 rfl ?_
          refine wm_getR dX8_took_34 (sM_0 (by unfold MA; omega)) fk_X8_182 rfl (rM_1 (by unfold MA; omega)) rfl ?_
          refine wp_goto 47 dX8_took_37 rfl ?_
          refine wp_iload_n dX8_took_47 rfl rfl ?_
          refine wm_iald dX8_took_48 (sM_2 (by unfold MA; omega)) rfl h (fun h => ?_)
          exact wm_iret dX8_took_49 rfl ⟨rfl, rfl⟩ h hP
      · refine wp_ldc dX8_took_20 q722 rfl ?_
        exact wm_iret dX8_took_22 rfl ⟨rfl, rfl⟩ h hP
theorem o_X8_took {g : Gx}  {p1 : Int32} {p2 : Int32} {m : Mem} {t : Int32 × Mem} (h : f_X8_took p1 p2 m = some t) : MxM g 2 mi_X8_took [.ref 0, .int p1, .int p2] m (qI t) := mx_of pn_X8 (Nat.le_of_ble_eq_true rfl) (k_X8_took_E h ⟨rfl, rfl, rfl, rfl, rfl⟩)
noncomputable def f_X8_trace  (p1 : Int32) (m : Mem) : Option (Int32 × Mem) := if p1 < 0 then some ((-1 : Int32), m) else if (gI m 69 2) ≤ p1 then some ((-1 : Int32), m) else if p1 < (24 : Int32) then ck p1 24 (some ((gI m 70 (ix p1)), m)) else some ((-1 : Int32), m)
theorem k_X8_trace_E {g : Gx}  {p1 : Int32} {Q : Qy} {m : Mem} {t : Int32 × Mem} (h : f_X8_trace p1 m = some t) (hP : pI Q t) : WpM g 1 mi_X8_trace 0 [some (.ref 0), some (.int p1)] [] m (zM g mi_X8_trace Q) := by
  refine wp_iload_n dX8_trace_0 rfl rfl ?_
  refine wm_if_lt 21 dX8_trace_1 rfl rfl h (fun h => ?_) (fun h => ?_)
  · refine wp_iconst (-1 : Int32) dX8_trace_21 ic_m1 rfl ?_
    refine wp_goto 34 dX8_trace_22 rfl ?_
    exact wm_iret dX8_trace_34 rfl ⟨rfl, rfl⟩ h hP
  · refine wp_iload_n dX8_trace_4 rfl rfl ?_
    refine wp_aload_n dX8_trace_5 rfl rfl ?_
    refine wm_getR dX8_trace_6 s_0 fk_X8_42 rfl r_0_4 rfl ?_
    refine wm_getI dX8_trace_9 s_69 fk_X8_241 rfl rfl ?_
    refine wm_icmp_ge 21 dX8_trace_12 rfl rfl h (fun h => ?_) (fun h => ?_)
    · refine wp_iconst (-1 : Int32) dX8_trace_21 ic_m1 rfl ?_
      refine wp_goto 34 dX8_trace_22 rfl ?_
      exact wm_iret dX8_trace_34 rfl ⟨rfl, rfl⟩ h hP
    · refine wp_iload_n dX8_trace_15 rfl rfl ?_
      refine wp_bipush (24 : Int32) dX8_trace_16 ib_24 rfl ?_
      refine wm_icmp_lt 25 dX8_trace_18 rfl rfl h (fun h => ?_) (fun h => ?_)
      · refine wp_aload_n dX8_trace_25 rfl rfl ?_
        refine wm_getR dX8_trace_26 s_0 fk_X8_42 rfl r_0_4 rfl ?_
        refine wm_getR dX8_trace_29 s_69 fk_X8_247 rfl r_69_0 rfl ?_
        refine wp_iload_n dX8_trace_32 rfl rfl ?_
        refine wm_iald dX8_trace_33 s_70 rfl h (fun h => ?_)
        exact wm_iret dX8_trace_34 rfl ⟨rfl, rfl⟩ h hP
      · refine wp_iconst (-1 : Int32) dX8_trace_21 ic_m1 rfl ?_
        refine wp_goto 34 dX8_trace_22 rfl ?_
        exact wm_iret dX8_trace_34 rfl ⟨rfl, rfl⟩ h hP
theorem o_X8_trace {g : Gx}  {p1 : Int32} {m : Mem} {t : Int32 × Mem} (h : f_X8_trace p1 m = some t) : MxM g 1 mi_X8_trace [.ref 0, .int p1] m (qI t) := mx_of pn_X8 (Nat.le_of_ble_eq_true rfl) (k_X8_trace_E h ⟨rfl, rfl, rfl, rfl, rfl⟩)
noncomputable def f_X8_undo   (m : Mem) : Option (Int32 × Mem) := (f_X1_goBack m).bind (fun q1 => if ¬ q1.1 = 0 then bnd (gI q1.2 19 4) (fun y2 => ck y2 40 (ck y2 40 (ck y2 40 ((f_X6_change (gI q1.2 20 (ix y2)) (gI q1.2 21 (ix y2)) (gI q1.2 22 (ix y2)) q1.2).bind (fun q3 => some ((gI q3 19 4), q3)))))) else some ((-5 : Int32), q1.2))
theorem k_X8_undo_E {g : Gx}   {Q : Qy} {m : Mem} {t : Int32 × Mem} (h : f_X8_undo m = some t) (hP : pI Q t) : WpM g 3 mi_X8_undo 0 [some (.ref 0), none] [] m (zM g mi_X8_undo Q) := by
  refine wp_aload_n dX8_undo_0 rfl rfl ?_
  refine wm_getR dX8_undo_1 s_0 fk_X8_19 rfl r_0_1 rfl ?_
  refine wm_callVI (As := []) (rest := []) dX8_undo_4 ok_X8_211 (by decide) rfl s_19 ⟨_, rfl⟩ (Nat.le_of_ble_eq_true rfl) ⟨rfl, rfl⟩ rfl (fun t h => o_X1_goBack h) h (fun q1 h => ?_)
  refine wm_if_ne 13 dX8_undo_7 rfl rfl h (fun h => ?_) (fun h => ?_)
  · refine wp_aload_n dX8_undo_13 rfl rfl ?_
    refine wm_getR dX8_undo_14 s_0 fk_X8_19 rfl r_0_1 rfl ?_
    refine wm_getI dX8_undo_17 s_19 fk_X8_214 rfl rfl ?_
    refine wm_nm h (fun y2 h => ?_)
    refine wp_istore_n (L' := [some (.ref 0), some (.int y2)]) dX8_undo_20 (by decide) rfl rfl rfl ?_
    refine wp_aload_n dX8_undo_21 rfl rfl ?_
    refine wm_getR dX8_undo_22 s_0 fk_X8_10 rfl r_0_0 rfl ?_
    refine wp_aload_n dX8_undo_25 rfl rfl ?_
    refine wm_getR dX8_undo_26 s_0 fk_X8_19 rfl r_0_1 rfl ?_
    refine wm_getR dX8_undo_29 s_19 fk_X8_217 rfl r_19_0 rfl ?_
    refine wp_iload_n dX8_undo_32 rfl rfl ?_
    refine wm_iald dX8_undo_33 s_20 rfl h (fun h => ?_)
    refine wp_aload_n dX8_undo_34 rfl rfl ?_
    refine wm_getR dX8_undo_35 s_0 fk_X8_19 rfl r_0_1 rfl ?_
    refine wm_getR dX8_undo_38 s_19 fk_X8_220 rfl r_19_1 rfl ?_
    refine wp_iload_n dX8_undo_41 rfl rfl ?_
    refine wm_iald dX8_undo_42 s_21 rfl h (fun h => ?_)
    refine wp_aload_n dX8_undo_43 rfl rfl ?_
    refine wm_getR dX8_undo_44 s_0 fk_X8_19 rfl r_0_1 rfl ?_
    refine wm_getR dX8_undo_47 s_19 fk_X8_223 rfl r_19_2 rfl ?_
    refine wp_iload_n dX8_undo_50 rfl rfl ?_
    refine wm_iald dX8_undo_51 s_22 rfl h (fun h => ?_)
    refine wm_callVN (As := [.int (gI q1.2 20 (ix y2)), .int (gI q1.2 21 (ix y2)), .int (gI q1.2 22 (ix y2))]) (rest := []) dX8_undo_52 ok_X8_135 (by decide) rfl s_1 ⟨_, rfl⟩ (Nat.le_of_ble_eq_true rfl) ⟨rfl, rfl⟩ rfl (fun t h => o_X6_change h) h (fun q3 h => ?_)
    refine wp_aload_n dX8_undo_55 rfl rfl ?_
    refine wm_getR dX8_undo_56 s_0 fk_X8_19 rfl r_0_1 rfl ?_
    refine wm_getI dX8_undo_59 s_19 fk_X8_214 rfl rfl ?_
    exact wm_iret dX8_undo_62 rfl ⟨rfl, rfl⟩ h hP
  · refine wp_bipush (-5 : Int32) dX8_undo_10 ib_m5 rfl ?_
    exact wm_iret dX8_undo_12 rfl ⟨rfl, rfl⟩ h hP
theorem o_X8_undo {g : Gx}   {m : Mem} {t : Int32 × Mem} (h : f_X8_undo m = some t) : MxM g 3 mi_X8_undo [.ref 0] m (qI t) := mx_of pn_X8 (Nat.le_of_ble_eq_true rfl) (k_X8_undo_E h ⟨rfl, rfl, rfl, rfl, rfl⟩)
noncomputable def f_X8_wish  (p1 : Int32) (p2 : Int32) (m : Mem) : Option (Int32 × Mem) := if p1 < 0 then some ((-2000000000 : Int32), m) else if (gI m 1 13) ≤ p1 then some ((-2000000000 : Int32), m) else if p2 < 0 then some ((-2000000000 : Int32), m) else if p2 < (gI m 1 14) then (f_X7_wishNow p1 p2 m).bind (fun q1 => some (q1.1, q1.2)) else some ((-2000000000 : Int32), m)
theorem k_X8_wish_E {g : Gx}  {p1 : Int32} {p2 : Int32} {Q : Qy} {m : Mem} {t : Int32 × Mem} (h : f_X8_wish p1 p2 m = some t) (hP : pI Q t) : WpM g 4 mi_X8_wish 0 [some (.ref 0), some (.int p1), some (.int p2)] [] m (zM g mi_X8_wish Q) := by
  refine wp_iload_n dX8_wish_0 rfl rfl ?_
  refine wm_if_lt 30 dX8_wish_1 rfl rfl h (fun h => ?_) (fun h => ?_)
  · refine wp_ldc dX8_wish_30 q722 rfl ?_
    exact wm_iret dX8_wish_32 rfl ⟨rfl, rfl⟩ h hP
  · refine wp_iload_n dX8_wish_4 rfl rfl ?_
    refine wp_aload_n dX8_wish_5 rfl rfl ?_
    refine wm_getR dX8_wish_6 s_0 fk_X8_10 rfl r_0_0 rfl ?_
    refine wm_getI dX8_wish_9 s_1 fk_X8_53 rfl rfl ?_
    refine wm_icmp_ge 30 dX8_wish_12 rfl rfl h (fun h => ?_) (fun h => ?_)
    · refine wp_ldc dX8_wish_30 q722 rfl ?_
      exact wm_iret dX8_wish_32 rfl ⟨rfl, rfl⟩ h hP
    · refine wp_iload_n dX8_wish_15 rfl rfl ?_
      refine wm_if_lt 30 dX8_wish_16 rfl rfl h (fun h => ?_) (fun h => ?_)
      · refine wp_ldc dX8_wish_30 q722 rfl ?_
        exact wm_iret dX8_wish_32 rfl ⟨rfl, rfl⟩ h hP
      · refine wp_iload_n dX8_wish_19 rfl rfl ?_
        refine wp_aload_n dX8_wish_20 rfl rfl ?_
        refine wm_getR dX8_wish_21 s_0 fk_X8_10 rfl r_0_0 rfl ?_
        refine wm_getI dX8_wish_24 s_1 fk_X8_61 rfl rfl ?_
        refine wm_icmp_lt 33 dX8_wish_27 rfl rfl h (fun h => ?_) (fun h => ?_)
        · refine wp_aload_n dX8_wish_33 rfl rfl ?_
          refine wm_getR dX8_wish_34 s_0 fk_X8_35 rfl r_0_3 rfl ?_
          refine wp_iload_n dX8_wish_37 rfl rfl ?_
          refine wp_iload_n dX8_wish_38 rfl rfl ?_
          refine wm_callVI (As := [.int p1, .int p2]) (rest := []) dX8_wish_39 ok_X8_208 (by decide) rfl s_53 ⟨_, rfl⟩ (Nat.le_of_ble_eq_true rfl) ⟨rfl, rfl⟩ rfl (fun t h => o_X7_wishNow h) h (fun q1 h => ?_)
          exact wm_iret dX8_wish_42 rfl ⟨rfl, rfl⟩ h hP
        · refine wp_ldc dX8_wish_30 q722 rfl ?_
          exact wm_iret dX8_wish_32 rfl ⟨rfl, rfl⟩ h hP
theorem o_X8_wish {g : Gx}  {p1 : Int32} {p2 : Int32} {m : Mem} {t : Int32 × Mem} (h : f_X8_wish p1 p2 m = some t) : MxM g 4 mi_X8_wish [.ref 0, .int p1, .int p2] m (qI t) := mx_of pn_X8 (Nat.le_of_ble_eq_true rfl) (k_X8_wish_E h ⟨rfl, rfl, rfl, rfl, rfl⟩)
noncomputable def f_X9_above  (p1 : Int32) (m : Mem) : Option (Int32 × Mem) := if ¬ p1 = (3 : Int32) then if ¬ p1 = (5 : Int32) then if ¬ p1 = (7 : Int32) then some ((0 : Int32), m) else some ((4 : Int32), m) else some ((3 : Int32), m) else some ((2 : Int32), m)
theorem k_X9_above_E {g : Gx}  {p1 : Int32} {Q : Qy} {m : Mem} {t : Int32 × Mem} (h : f_X9_above p1 m = some t) (hP : pI Q t) : WpM g 1 mi_X9_above 0 [some (.int p1)] [] m (zM g mi_X9_above Q) := by
  refine wp_iload_n dX9_above_0 rfl rfl ?_
  refine wp_iconst (3 : Int32) dX9_above_1 ic_3 rfl ?_
  refine wm_icmp_ne 9 dX9_above_2 rfl rfl h (fun h => ?_) (fun h => ?_)
  · refine wp_iload_n dX9_above_9 rfl rfl ?_
    refine wp_iconst (5 : Int32) dX9_above_10 ic_5 rfl ?_
    refine wm_icmp_ne 18 dX9_above_11 rfl rfl h (fun h => ?_) (fun h => ?_)
    · refine wp_iload_n dX9_above_18 rfl rfl ?_
      refine wp_bipush (7 : Int32) dX9_above_19 ib_7 rfl ?_
      refine wm_icmp_ne 28 dX9_above_21 rfl rfl h (fun h => ?_) (fun h => ?_)
      · refine wp_iconst (0 : Int32) dX9_above_28 ic_0 rfl ?_
        exact wm_iret dX9_above_29 rfl ⟨rfl, rfl⟩ h hP
      · refine wp_iconst (4 : Int32) dX9_above_24 ic_4 rfl ?_
        refine wp_goto 29 dX9_above_25 rfl ?_
        exact wm_iret dX9_above_29 rfl ⟨rfl, rfl⟩ h hP
    · refine wp_iconst (3 : Int32) dX9_above_14 ic_3 rfl ?_
      refine wp_goto 29 dX9_above_15 rfl ?_
      exact wm_iret dX9_above_29 rfl ⟨rfl, rfl⟩ h hP
  · refine wp_iconst (2 : Int32) dX9_above_5 ic_2 rfl ?_
    refine wp_goto 29 dX9_above_6 rfl ?_
    exact wm_iret dX9_above_29 rfl ⟨rfl, rfl⟩ h hP
theorem o_X9_above {g : Gx}  {p1 : Int32} {m : Mem} {t : Int32 × Mem} (h : f_X9_above p1 m = some t) : MxM g 1 mi_X9_above [.int p1] m (qI t) := mx_of pn_X9 (Nat.le_of_ble_eq_true rfl) (k_X9_above_E h ⟨rfl, rfl, rfl, rfl, rfl⟩)
noncomputable def f_X9_within  (p1 : Int64) (p2 : Int64) (p3 : Int64) (m : Mem) : Option (Int32 × Mem) := if (lg_cmp p1 p2) < 0 then bz (0 : Int32) (some ((0 : Int32), m)) else if 0 < (lg_cmp p1 p3) then bz (0 : Int32) (some ((0 : Int32), m)) else bz (1 : Int32) (some ((1 : Int32), m))
theorem k_X9_within_E {g : Gx}  {p1 : Int64} {p2 : Int64} {p3 : Int64} {Q : Qy} {m : Mem} {t : Int32 × Mem} (h : f_X9_within p1 p2 p3 m = some t) (hP : pI Q t) : WpM g 1 mi_X9_within 0 [some (.long p1), none, some (.long p2), none, some (.long p3), none] [] m (zM g mi_X9_within Q) := by
  refine wp_lload_n dX9_within_0 rfl rfl ?_
  refine wp_lload_n dX9_within_1 rfl rfl ?_
  refine wp_lcmp dX9_within_2 rfl ?_
  refine wm_if_lt 17 dX9_within_3 rfl rfl h (fun h => ?_) (fun h => ?_)
  · refine wp_iconst (0 : Int32) dX9_within_17 ic_0 rfl ?_
    exact wm_zret dX9_within_18 rfl ⟨rfl, rfl⟩ h hP
  · refine wp_lload_n dX9_within_6 rfl rfl ?_
    refine wp_lload dX9_within_7 rfl rfl ?_
    refine wp_lcmp dX9_within_9 rfl ?_
    refine wm_if_gt 17 dX9_within_10 rfl rfl h (fun h => ?_) (fun h => ?_)
    · refine wp_iconst (0 : Int32) dX9_within_17 ic_0 rfl ?_
      exact wm_zret dX9_within_18 rfl ⟨rfl, rfl⟩ h hP
    · refine wp_iconst (1 : Int32) dX9_within_13 ic_1 rfl ?_
      refine wp_goto 18 dX9_within_14 rfl ?_
      exact wm_zret dX9_within_18 rfl ⟨rfl, rfl⟩ h hP
theorem o_X9_within {g : Gx}  {p1 : Int64} {p2 : Int64} {p3 : Int64} {m : Mem} {t : Int32 × Mem} (h : f_X9_within p1 p2 p3 m = some t) : MxM g 1 mi_X9_within [.long p1, .long p2, .long p3] m (qI t) := mx_of pn_X9 (Nat.le_of_ble_eq_true rfl) (k_X9_within_E h ⟨rfl, rfl, rfl, rfl, rfl⟩)
noncomputable def f_X9_isBody  (p1 : Int32) (m : Mem) : Option (Int32 × Mem) := (f_X9_within p1.toInt64 (0 : Int64) ((gI m 85 66) - (1 : Int32)).toInt64 m).bind (fun q1 => bz q1.1 (some (q1.1, q1.2)))
theorem k_X9_isBody_E {g : Gx}  {p1 : Int32} {Q : Qy} {m : Mem} {t : Int32 × Mem} (h : f_X9_isBody p1 m = some t) (hP : pI Q t) : WpM g 2 mi_X9_isBody 0 [some (.ref 85), some (.int p1)] [] m (zM g mi_X9_isBody Q) := by
  refine wp_iload_n dX9_isBody_0 rfl rfl ?_
  refine wp_i2l dX9_isBody_1 rfl ?_
  refine wp_lconst (0 : Int64) dX9_isBody_2 rfl rfl ?_
  refine wp_aload_n dX9_isBody_3 rfl rfl ?_
  refine wm_getI dX9_isBody_4 s_85 fk_X9_444 rfl rfl ?_
  refine wp_iconst (1 : Int32) dX9_isBody_7 ic_1 rfl ?_
  refine wp_isub dX9_isBody_8 rfl ?_
  refine wp_i2l dX9_isBody_9 rfl ?_
  refine wm_callSI (As := [.long p1.toInt64, .long (0 : Int64), .long ((gI m 85 66) - (1 : Int32)).toInt64]) (rest := []) dX9_isBody_10 ok_X9_162 (by decide) rfl (Nat.le_of_ble_eq_true rfl) ⟨rfl, rfl⟩ rfl (fun t h => o_X9_within h) h (fun q1 h => ?_)
  exact wm_zret dX9_isBody_13 rfl ⟨rfl, rfl⟩ h hP
theorem o_X9_isBody {g : Gx}  {p1 : Int32} {m : Mem} {t : Int32 × Mem} (h : f_X9_isBody p1 m = some t) : MxM g 2 mi_X9_isBody [.ref 85, .int p1] m (qI t) := mx_of pn_X9 (Nat.le_of_ble_eq_true rfl) (k_X9_isBody_E h ⟨rfl, rfl, rfl, rfl, rfl⟩)
noncomputable def f_X9_begins  (p1 : Int32) (m : Mem) : Option Mem := if (24 : Int32) ≤ (gI m 85 69) then bnd (sI m 85 69 ((gI m 85 69) + (1 : Int32))) (fun m1 => some m1) else ck (gI m 85 69) 24 (bnd (sI m 125 (ix (gI m 85 69)) p1) (fun m2 => bnd (sI m2 85 69 ((gI m2 85 69) + (1 : Int32))) (fun m3 => some m3)))
theorem k_X9_begins_E {g : Gx}  {p1 : Int32} {Q : Qy} {m : Mem} {t : Mem} (h : f_X9_begins p1 m = some t) (hP : pV Q t) : WpM g 1 mi_X9_begins 0 [some (.ref 85), some (.int p1)] [] m (zM g mi_X9_begins Q) := by
  refine wp_aload_n dX9_begins_0 rfl rfl ?_
  refine wm_getI dX9_begins_1 s_85 fk_X9_449 rfl rfl ?_
  refine wp_bipush (24 : Int32) dX9_begins_4 ib_24 rfl ?_
  refine wm_icmp_ge 19 dX9_begins_6 rfl rfl h (fun h => ?_) (fun h => ?_)
  · refine wp_aload_n dX9_begins_19 rfl rfl ?_
    refine wp_dup dX9_begins_20 rfl rfl ?_
    refine wm_getI dX9_begins_21 s_85 fk_X9_449 rfl rfl ?_
    refine wp_iconst (1 : Int32) dX9_begins_24 ic_1 rfl ?_
    refine wp_iadd dX9_begins_25 rfl ?_
    refine wm_putI dX9_begins_26 s_85 fk_X9_449 rfl rfl h (fun m1 h => ?_)
    exact wm_vret dX9_begins_29 rfl ⟨rfl, rfl⟩ h hP
  · refine wp_aload_n dX9_begins_9 rfl rfl ?_
    refine wm_getR dX9_begins_10 s_85 fk_X9_127 rfl r_85_68 rfl ?_
    refine wp_aload_n dX9_begins_13 rfl rfl ?_
    refine wm_getI dX9_begins_14 s_85 fk_X9_449 rfl rfl ?_
    refine wp_iload_n dX9_begins_17 rfl rfl ?_
    refine wm_iast dX9_begins_18 s_125 rfl h (fun m2 h => ?_)
    refine wp_aload_n dX9_begins_19 rfl rfl ?_
    refine wp_dup dX9_begins_20 rfl rfl ?_
    refine wm_getI dX9_begins_21 s_85 fk_X9_449 rfl rfl ?_
    refine wp_iconst (1 : Int32) dX9_begins_24 ic_1 rfl ?_
    refine wp_iadd dX9_begins_25 rfl ?_
    refine wm_putI dX9_begins_26 s_85 fk_X9_449 rfl rfl h (fun m3 h => ?_)
    exact wm_vret dX9_begins_29 rfl ⟨rfl, rfl⟩ h hP
theorem o_X9_begins {g : Gx}  {p1 : Int32} {m : Mem} {t : Mem} (h : f_X9_begins p1 m = some t) : MxM g 1 mi_X9_begins [.ref 85, .int p1] m (qV t) := mx_of pn_X9 (Nat.le_of_ble_eq_true rfl) (k_X9_begins_E h ⟨rfl, rfl, rfl, rfl, rfl⟩)
noncomputable def f_X9_knowsAs_B (rc : Int32 → Int32 → Mem → Option (Int32 × Mem)) (p1 : Int32) (p2 : Int32) (m : Mem) : Option (Int32 × Mem) := if ¬ p1 = (1 : Int32) then if ¬ p1 = (6 : Int32) then (f_X9_begins (1 : Int32) m).bind (fun q1 => some ((p2 + (gI q1 85 71)), q1)) else (f_X9_begins (70 : Int32) m).bind (fun q2 => (rc (0 : Int32) p2 q2).bind (fun q3 => some ((q3.1 * (2 : Int32)), q3.2))) else (f_X9_begins (20 : Int32) m).bind (fun q4 => (rc (0 : Int32) p2 q4).bind (fun q5 => some ((q5.1 + (3 : Int32)), q5.2)))
theorem k_X9_knowsAs_E {g : Gx} {d0 : Nat} {rc : Int32 → Int32 → Mem → Option (Int32 × Mem)} (hrc : ∀ p1 p2 m t, rc p1 p2 m = some t → MxM g d0 mi_X9_knowsAs [.ref 85, .int p1, .int p2] m (qI t)) {p1 : Int32} {p2 : Int32} {Q : Qy} {m : Mem} {t : Int32 × Mem} (h : f_X9_knowsAs_B rc p1 p2 m = some t) (hP : pI Q t) : WpM g (d0 + 2) mi_X9_knowsAs 0 [some (.ref 85), some (.int p1), some (.int p2)] [] m (zM g mi_X9_knowsAs Q) := by
  refine wp_iload_n dX9_knowsAs_0 rfl rfl ?_
  refine wp_iconst (1 : Int32) dX9_knowsAs_1 ic_1 rfl ?_
  refine wm_icmp_ne 20 dX9_knowsAs_2 rfl rfl h (fun h => ?_) (fun h => ?_)
  · refine wp_iload_n dX9_knowsAs_20 rfl rfl ?_
    refine wp_bipush (6 : Int32) dX9_knowsAs_21 ib_6 rfl ?_
    refine wm_icmp_ne 41 dX9_knowsAs_23 rfl rfl h (fun h => ?_) (fun h => ?_)
    · refine wp_aload_n dX9_knowsAs_41 rfl rfl ?_
      refine wp_iconst (1 : Int32) dX9_knowsAs_42 ic_1 rfl ?_
      refine wm_callVN (As := [.int (1 : Int32)]) (rest := []) dX9_knowsAs_43 ok_X9_452 (by omega) rfl s_85 ⟨_, rfl⟩ (Nat.le_of_ble_eq_true rfl) ⟨rfl, rfl⟩ rfl (fun t h => o_X9_begins h) h (fun q1 h => ?_)
      refine wp_iload_n dX9_knowsAs_46 rfl rfl ?_
      refine wp_aload_n dX9_knowsAs_47 rfl rfl ?_
      refine wm_getI dX9_knowsAs_48 s_85 fk_X9_458 rfl rfl ?_
      refine wp_iadd dX9_knowsAs_51 rfl ?_
      exact wm_iret dX9_knowsAs_52 rfl ⟨rfl, rfl⟩ h hP
    · refine wp_aload_n dX9_knowsAs_26 rfl rfl ?_
      refine wp_bipush (70 : Int32) dX9_knowsAs_27 ib_70 rfl ?_
      refine wm_callVN (As := [.int (70 : Int32)]) (rest := []) dX9_knowsAs_29 ok_X9_452 (by omega) rfl s_85 ⟨_, rfl⟩ (Nat.le_of_ble_eq_true rfl) ⟨rfl, rfl⟩ rfl (fun t h => o_X9_begins h) h (fun q2 h => ?_)
      refine wp_aload_n dX9_knowsAs_32 rfl rfl ?_
      refine wp_iconst (0 : Int32) dX9_knowsAs_33 ic_0 rfl ?_
      refine wp_iload_n dX9_knowsAs_34 rfl rfl ?_
      refine wm_callVI (As := [.int (0 : Int32), .int p2]) (rest := []) dX9_knowsAs_35 ok_X9_455 (by omega) rfl s_85 ⟨_, rfl⟩ (Nat.le_of_ble_eq_true rfl) ⟨rfl, rfl⟩ rfl (hrc _ _ _) h (fun q3 h => ?_)
      refine wp_iconst (2 : Int32) dX9_knowsAs_38 ic_2 rfl ?_
      refine wp_imul dX9_knowsAs_39 rfl ?_
      exact wm_iret dX9_knowsAs_40 rfl ⟨rfl, rfl⟩ h hP
  · refine wp_aload_n dX9_knowsAs_5 rfl rfl ?_
    refine wp_bipush (20 : Int32) dX9_knowsAs_6 ib_20 rfl ?_
    refine wm_callVN (As := [.int (20 : Int32)]) (rest := []) dX9_knowsAs_8 ok_X9_452 (by omega) rfl s_85 ⟨_, rfl⟩ (Nat.le_of_ble_eq_true rfl) ⟨rfl, rfl⟩ rfl (fun t h => o_X9_begins h) h (fun q4 h => ?_)
    refine wp_aload_n dX9_knowsAs_11 rfl rfl ?_
    refine wp_iconst (0 : Int32) dX9_knowsAs_12 ic_0 rfl ?_
    refine wp_iload_n dX9_knowsAs_13 rfl rfl ?_
    refine wm_callVI (As := [.int (0 : Int32), .int p2]) (rest := []) dX9_knowsAs_14 ok_X9_455 (by omega) rfl s_85 ⟨_, rfl⟩ (Nat.le_of_ble_eq_true rfl) ⟨rfl, rfl⟩ rfl (hrc _ _ _) h (fun q5 h => ?_)
    refine wp_iconst (3 : Int32) dX9_knowsAs_17 ic_3 rfl ?_
    refine wp_iadd dX9_knowsAs_18 rfl ?_
    exact wm_iret dX9_knowsAs_19 rfl ⟨rfl, rfl⟩ h hP
theorem o_X9_knowsAs_B {g : Gx} {d0 : Nat} {rc : Int32 → Int32 → Mem → Option (Int32 × Mem)} (hrc : ∀ p1 p2 m t, rc p1 p2 m = some t → MxM g d0 mi_X9_knowsAs [.ref 85, .int p1, .int p2] m (qI t)) {p1 : Int32} {p2 : Int32} {m : Mem} {t : Int32 × Mem} (h : f_X9_knowsAs_B rc p1 p2 m = some t) : MxM g (d0 + 2) mi_X9_knowsAs [.ref 85, .int p1, .int p2] m (qI t) := mx_of pn_X9 (Nat.le_of_ble_eq_true rfl) (k_X9_knowsAs_E hrc h ⟨rfl, rfl, rfl, rfl, rfl⟩)
noncomputable def f_X9_knowsAs : Nat → Int32 → Int32 → Mem → Option (Int32 × Mem)
  | 0, _, _, _ => none
  | n + 1, p1, p2, m => f_X9_knowsAs_B (f_X9_knowsAs n) p1 p2 m
theorem o_X9_knowsAs {g : Gx} (n : Nat) : ∀ {p1 : Int32} {p2 : Int32} {m : Mem} {t : Int32 × Mem}, f_X9_knowsAs n p1 p2 m = some t → MxM g (2 * n) mi_X9_knowsAs [.ref 85, .int p1, .int p2] m (qI t) := by
  induction n with
  | zero => intro _ _ _ _ h; cases h
  | succ n ih => intro p1 p2 m t h; exact o_X9_knowsAs_B (d0 := 2 * n) (fun _ _ _ _ h => ih h) h
noncomputable def f_X9_stopsAs_J10 (rc : Int32 → Int32 → Mem → Option (Int32 × Mem)) (v2 : Int32) (m : Mem) : Option (Int32 × Mem) := (f_X9_begins (40 : Int32) m).bind (fun q1 => (rc (2 : Int32) v2 q1).bind (fun q2 => some ((q2.1 * (3 : Int32)), q2.2)))
theorem k_X9_stopsAs_J10 {g : Gx} {d0 : Nat} {rc : Int32 → Int32 → Mem → Option (Int32 × Mem)} (hrc : ∀ p1 p2 m t, rc p1 p2 m = some t → MxM g d0 mi_X9_stopsAs [.ref 85, .int p1, .int p2] m (qI t)) {v2 : Int32}  {Q : Qy} {m : Mem} {t : Int32 × Mem} (h : f_X9_stopsAs_J10 rc v2 m = some t) (hP : pI Q t) : WpM g (d0 + 9) mi_X9_stopsAs 10 [some (.ref 85), none, some (.int v2), none] [] m (zM g mi_X9_stopsAs Q) := by
  refine wp_aload_n dX9_stopsAs_10 rfl rfl ?_
  refine wp_bipush (40 : Int32) dX9_stopsAs_11 ib_40 rfl ?_
  refine wm_callVN (As := [.int (40 : Int32)]) (rest := []) dX9_stopsAs_13 ok_X9_452 (by omega) rfl s_85 ⟨_, rfl⟩ (Nat.le_of_ble_eq_true rfl) ⟨rfl, rfl⟩ rfl (fun t h => o_X9_begins h) h (fun q1 h => ?_)
  refine wp_aload_n dX9_stopsAs_16 rfl rfl ?_
  refine wp_iconst (2 : Int32) dX9_stopsAs_17 ic_2 rfl ?_
  refine wp_iload_n dX9_stopsAs_18 rfl rfl ?_
  refine wm_callVI (As := [.int (2 : Int32), .int v2]) (rest := []) dX9_stopsAs_19 ok_X9_467 (by omega) rfl s_85 ⟨_, rfl⟩ (Nat.le_of_ble_eq_true rfl) ⟨rfl, rfl⟩ rfl (hrc _ _ _) h (fun q2 h => ?_)
  refine wp_iconst (3 : Int32) dX9_stopsAs_22 ic_3 rfl ?_
  refine wp_imul dX9_stopsAs_23 rfl ?_
  exact wm_iret dX9_stopsAs_24 rfl ⟨rfl, rfl⟩ h hP
noncomputable def f_X9_stopsAs_J36 (rc : Int32 → Int32 → Mem → Option (Int32 × Mem)) (v2 : Int32) (m : Mem) : Option (Int32 × Mem) := (f_X9_begins (50 : Int32) m).bind (fun q3 => (rc (0 : Int32) v2 q3).bind (fun q4 => (f_X9_knowsAs 4 (gI q4.2 85 70) (2 : Int32) q4.2).bind (fun q5 => some ((q4.1 - q5.1), q5.2))))
theorem k_X9_stopsAs_J36 {g : Gx} {d0 : Nat} {rc : Int32 → Int32 → Mem → Option (Int32 × Mem)} (hrc : ∀ p1 p2 m t, rc p1 p2 m = some t → MxM g d0 mi_X9_stopsAs [.ref 85, .int p1, .int p2] m (qI t)) {v2 : Int32}  {Q : Qy} {m : Mem} {t : Int32 × Mem} (h : f_X9_stopsAs_J36 rc v2 m = some t) (hP : pI Q t) : WpM g (d0 + 9) mi_X9_stopsAs 36 [some (.ref 85), none, some (.int v2), none] [] m (zM g mi_X9_stopsAs Q) := by
  refine wp_aload_n dX9_stopsAs_36 rfl rfl ?_
  refine wp_bipush (50 : Int32) dX9_stopsAs_37 ib_50 rfl ?_
  refine wm_callVN (As := [.int (50 : Int32)]) (rest := []) dX9_stopsAs_39 ok_X9_452 (by omega) rfl s_85 ⟨_, rfl⟩ (Nat.le_of_ble_eq_true rfl) ⟨rfl, rfl⟩ rfl (fun t h => o_X9_begins h) h (fun q3 h => ?_)
  refine wp_aload_n dX9_stopsAs_42 rfl rfl ?_
  refine wp_iconst (0 : Int32) dX9_stopsAs_43 ic_0 rfl ?_
  refine wp_iload_n dX9_stopsAs_44 rfl rfl ?_
  refine wm_callVI (As := [.int (0 : Int32), .int v2]) (rest := []) dX9_stopsAs_45 ok_X9_467 (by omega) rfl s_85 ⟨_, rfl⟩ (Nat.le_of_ble_eq_true rfl) ⟨rfl, rfl⟩ rfl (hrc _ _ _) h (fun q4 h => ?_)
  refine wp_istore_n (L' := [some (.ref 85), none, some (.int v2), some (.int q4.1)]) dX9_stopsAs_48 (by decide) rfl rfl rfl ?_
  refine wp_iload_n dX9_stopsAs_49 rfl rfl ?_
  refine wp_aload_n dX9_stopsAs_50 rfl rfl ?_
  refine wp_aload_n dX9_stopsAs_51 rfl rfl ?_
  refine wm_getI dX9_stopsAs_52 s_85 fk_X9_464 rfl rfl ?_
  refine wp_iconst (2 : Int32) dX9_stopsAs_55 ic_2 rfl ?_
  refine wm_callVI (As := [.int (gI q4.2 85 70), .int (2 : Int32)]) (rest := [.int q4.1]) dX9_stopsAs_56 ok_X9_455 (by omega) rfl s_85 ⟨_, rfl⟩ (Nat.le_of_ble_eq_true rfl) ⟨rfl, rfl⟩ rfl (fun t h => o_X9_knowsAs 4 h) h (fun q5 h => ?_)
  refine wp_isub dX9_stopsAs_59 rfl ?_
  exact wm_iret dX9_stopsAs_60 rfl ⟨rfl, rfl⟩ h hP
noncomputable def f_X9_stopsAs_B (rc : Int32 → Int32 → Mem → Option (Int32 × Mem)) (p1 : Int32) (p2 : Int32) (m : Mem) : Option (Int32 × Mem) := if p1 = (3 : Int32) then f_X9_stopsAs_J10 rc p2 m else if ¬ p1 = (5 : Int32) then if p1 = (4 : Int32) then f_X9_stopsAs_J36 rc p2 m else if ¬ p1 = (7 : Int32) then (f_X9_begins (11 : Int32) m).bind (fun q6 => some ((p2 ^^^ (gI q6 85 71)), q6)) else f_X9_stopsAs_J36 rc p2 m else f_X9_stopsAs_J10 rc p2 m
theorem k_X9_stopsAs_E {g : Gx} {d0 : Nat} {rc : Int32 → Int32 → Mem → Option (Int32 × Mem)} (hrc : ∀ p1 p2 m t, rc p1 p2 m = some t → MxM g d0 mi_X9_stopsAs [.ref 85, .int p1, .int p2] m (qI t)) {p1 : Int32} {p2 : Int32} {Q : Qy} {m : Mem} {t : Int32 × Mem} (h : f_X9_stopsAs_B rc p1 p2 m = some t) (hP : pI Q t) : WpM g (d0 + 9) mi_X9_stopsAs 0 [some (.ref 85), some (.int p1), some (.int p2), none] [] m (zM g mi_X9_stopsAs Q) := by
  refine wp_iload_n dX9_stopsAs_0 rfl rfl ?_
  refine wp_iconst (3 : Int32) dX9_stopsAs_1 ic_3 rfl ?_
  refine wm_icmp_eq 10 dX9_stopsAs_2 rfl rfl h (fun h => ?_) (fun h => ?_)
  · exact wm_mask (L' := [some (.ref 85), none, some (.int p2), none]) [true, false, true, false] rfl (k_X9_stopsAs_J10 hrc h hP)
  · refine wp_iload_n dX9_stopsAs_5 rfl rfl ?_
    refine wp_iconst (5 : Int32) dX9_stopsAs_6 ic_5 rfl ?_
    refine wm_icmp_ne 25 dX9_stopsAs_7 rfl rfl h (fun h => ?_) (fun h => ?_)
    · refine wp_iload_n dX9_stopsAs_25 rfl rfl ?_
      refine wp_iconst (4 : Int32) dX9_stopsAs_26 ic_4 rfl ?_
      refine wm_icmp_eq 36 dX9_stopsAs_27 rfl rfl h (fun h => ?_) (fun h => ?_)
      · exact wm_mask (L' := [some (.ref 85), none, some (.int p2), none]) [true, false, true, false] rfl (k_X9_stopsAs_J36 hrc h hP)
      · refine wp_iload_n dX9_stopsAs_30 rfl rfl ?_
        refine wp_bipush (7 : Int32) dX9_stopsAs_31 ib_7 rfl ?_
        refine wm_icmp_ne 61 dX9_stopsAs_33 rfl rfl h (fun h => ?_) (fun h => ?_)
        · refine wp_aload_n dX9_stopsAs_61 rfl rfl ?_
          refine wp_bipush (11 : Int32) dX9_stopsAs_62 ib_11 rfl ?_
          refine wm_callVN (As := [.int (11 : Int32)]) (rest := []) dX9_stopsAs_64 ok_X9_452 (by omega) rfl s_85 ⟨_, rfl⟩ (Nat.le_of_ble_eq_true rfl) ⟨rfl, rfl⟩ rfl (fun t h => o_X9_begins h) h (fun q6 h => ?_)
          refine wp_iload_n dX9_stopsAs_67 rfl rfl ?_
          refine wp_aload_n dX9_stopsAs_68 rfl rfl ?_
          refine wm_getI dX9_stopsAs_69 s_85 fk_X9_458 rfl rfl ?_
          refine wp_ixor dX9_stopsAs_72 rfl ?_
          exact wm_iret dX9_stopsAs_73 rfl ⟨rfl, rfl⟩ h hP
        · exact wm_mask (L' := [some (.ref 85), none, some (.int p2), none]) [true, false, true, false] rfl (k_X9_stopsAs_J36 hrc h hP)
    · exact wm_mask (L' := [some (.ref 85), none, some (.int p2), none]) [true, false, true, false] rfl (k_X9_stopsAs_J10 hrc h hP)
theorem o_X9_stopsAs_B {g : Gx} {d0 : Nat} {rc : Int32 → Int32 → Mem → Option (Int32 × Mem)} (hrc : ∀ p1 p2 m t, rc p1 p2 m = some t → MxM g d0 mi_X9_stopsAs [.ref 85, .int p1, .int p2] m (qI t)) {p1 : Int32} {p2 : Int32} {m : Mem} {t : Int32 × Mem} (h : f_X9_stopsAs_B rc p1 p2 m = some t) : MxM g (d0 + 9) mi_X9_stopsAs [.ref 85, .int p1, .int p2] m (qI t) := mx_of pn_X9 (Nat.le_of_ble_eq_true rfl) (k_X9_stopsAs_E hrc h ⟨rfl, rfl, rfl, rfl, rfl⟩)
noncomputable def f_X9_stopsAs : Nat → Int32 → Int32 → Mem → Option (Int32 × Mem)
  | 0, _, _, _ => none
  | n + 1, p1, p2, m => f_X9_stopsAs_B (f_X9_stopsAs n) p1 p2 m
theorem o_X9_stopsAs {g : Gx} (n : Nat) : ∀ {p1 : Int32} {p2 : Int32} {m : Mem} {t : Int32 × Mem}, f_X9_stopsAs n p1 p2 m = some t → MxM g (9 * n) mi_X9_stopsAs [.ref 85, .int p1, .int p2] m (qI t) := by
  induction n with
  | zero => intro _ _ _ _ h; cases h
  | succ n ih => intro p1 p2 m t h; exact o_X9_stopsAs_B (d0 := 9 * n) (fun _ _ _ _ h => ih h) h
noncomputable def f_X9_speaksAs_J10 (rc : Int32 → Int32 → Mem → Option (Int32 × Mem)) (v2 : Int32) (m : Mem) : Option (Int32 × Mem) := (f_X9_begins (41 : Int32) m).bind (fun q1 => (rc (2 : Int32) (v2 + (1 : Int32)) q1).bind (fun q2 => some (q2.1, q2.2)))
theorem k_X9_speaksAs_J10 {g : Gx} {d0 : Nat} {rc : Int32 → Int32 → Mem → Option (Int32 × Mem)} (hrc : ∀ p1 p2 m t, rc p1 p2 m = some t → MxM g d0 mi_X9_speaksAs [.ref 85, .int p1, .int p2] m (qI t)) {v2 : Int32}  {Q : Qy} {m : Mem} {t : Int32 × Mem} (h : f_X9_speaksAs_J10 rc v2 m = some t) (hP : pI Q t) : WpM g (d0 + 37) mi_X9_speaksAs 10 [some (.ref 85), none, some (.int v2), none] [] m (zM g mi_X9_speaksAs Q) := by
  refine wp_aload_n dX9_speaksAs_10 rfl rfl ?_
  refine wp_bipush (41 : Int32) dX9_speaksAs_11 ib_41 rfl ?_
  refine wm_callVN (As := [.int (41 : Int32)]) (rest := []) dX9_speaksAs_13 ok_X9_452 (by omega) rfl s_85 ⟨_, rfl⟩ (Nat.le_of_ble_eq_true rfl) ⟨rfl, rfl⟩ rfl (fun t h => o_X9_begins h) h (fun q1 h => ?_)
  refine wp_aload_n dX9_speaksAs_16 rfl rfl ?_
  refine wp_iconst (2 : Int32) dX9_speaksAs_17 ic_2 rfl ?_
  refine wp_iload_n dX9_speaksAs_18 rfl rfl ?_
  refine wp_iconst (1 : Int32) dX9_speaksAs_19 ic_1 rfl ?_
  refine wp_iadd dX9_speaksAs_20 rfl ?_
  refine wm_callVI (As := [.int (2 : Int32), .int (v2 + (1 : Int32))]) (rest := []) dX9_speaksAs_21 ok_X9_461 (by omega) rfl s_85 ⟨_, rfl⟩ (Nat.le_of_ble_eq_true rfl) ⟨rfl, rfl⟩ rfl (hrc _ _ _) h (fun q2 h => ?_)
  exact wm_iret dX9_speaksAs_24 rfl ⟨rfl, rfl⟩ h hP
noncomputable def f_X9_speaksAs_B (rc : Int32 → Int32 → Mem → Option (Int32 × Mem)) (p1 : Int32) (p2 : Int32) (m : Mem) : Option (Int32 × Mem) := if p1 = (3 : Int32) then f_X9_speaksAs_J10 rc p2 m else if ¬ p1 = (5 : Int32) then if ¬ p1 = (2 : Int32) then if ¬ p1 = (7 : Int32) then (f_X9_begins (10 : Int32) m).bind (fun q3 => (f_X9_knowsAs 4 (gI q3 85 70) p2 q3).bind (fun q4 => some ((q4.1 * (2 : Int32)), q4.2))) else (f_X9_begins (80 : Int32) m).bind (fun q5 => (rc (4 : Int32) p2 q5).bind (fun q6 => (f_X9_stopsAs 4 (gI q6.2 85 70) (2 : Int32) q6.2).bind (fun q7 => some ((q6.1 + q7.1), q7.2)))) else (f_X9_begins (30 : Int32) m).bind (fun q8 => (rc (0 : Int32) p2 q8).bind (fun q9 => some ((-q9.1), q9.2))) else f_X9_speaksAs_J10 rc p2 m
theorem k_X9_speaksAs_E {g : Gx} {d0 : Nat} {rc : Int32 → Int32 → Mem → Option (Int32 × Mem)} (hrc : ∀ p1 p2 m t, rc p1 p2 m = some t → MxM g d0 mi_X9_speaksAs [.ref 85, .int p1, .int p2] m (qI t)) {p1 : Int32} {p2 : Int32} {Q : Qy} {m : Mem} {t : Int32 × Mem} (h : f_X9_speaksAs_B rc p1 p2 m = some t) (hP : pI Q t) : WpM g (d0 + 37) mi_X9_speaksAs 0 [some (.ref 85), some (.int p1), some (.int p2), none] [] m (zM g mi_X9_speaksAs Q) := by
  refine wp_iload_n dX9_speaksAs_0 rfl rfl ?_
  refine wp_iconst (3 : Int32) dX9_speaksAs_1 ic_3 rfl ?_
  refine wm_icmp_eq 10 dX9_speaksAs_2 rfl rfl h (fun h => ?_) (fun h => ?_)
  · exact wm_mask (L' := [some (.ref 85), none, some (.int p2), none]) [true, false, true, false] rfl (k_X9_speaksAs_J10 hrc h hP)
  · refine wp_iload_n dX9_speaksAs_5 rfl rfl ?_
    refine wp_iconst (5 : Int32) dX9_speaksAs_6 ic_5 rfl ?_
    refine wm_icmp_ne 25 dX9_speaksAs_7 rfl rfl h (fun h => ?_) (fun h => ?_)
    · refine wp_iload_n dX9_speaksAs_25 rfl rfl ?_
      refine wp_iconst (2 : Int32) dX9_speaksAs_26 ic_2 rfl ?_
      refine wm_icmp_ne 44 dX9_speaksAs_27 rfl rfl h (fun h => ?_) (fun h => ?_)
      · refine wp_iload_n dX9_speaksAs_44 rfl rfl ?_
        refine wp_bipush (7 : Int32) dX9_speaksAs_45 ib_7 rfl ?_
        refine wm_icmp_ne 75 dX9_speaksAs_47 rfl rfl h (fun h => ?_) (fun h => ?_)
        · refine wp_aload_n dX9_speaksAs_75 rfl rfl ?_
          refine wp_bipush (10 : Int32) dX9_speaksAs_76 ib_10 rfl ?_
          refine wm_callVN (As := [.int (10 : Int32)]) (rest := []) dX9_speaksAs_78 ok_X9_452 (by omega) rfl s_85 ⟨_, rfl⟩ (Nat.le_of_ble_eq_true rfl) ⟨rfl, rfl⟩ rfl (fun t h => o_X9_begins h) h (fun q3 h => ?_)
          refine wp_aload_n dX9_speaksAs_81 rfl rfl ?_
          refine wp_aload_n dX9_speaksAs_82 rfl rfl ?_
          refine wm_getI dX9_speaksAs_83 s_85 fk_X9_464 rfl rfl ?_
          refine wp_iload_n dX9_speaksAs_86 rfl rfl ?_
          refine wm_callVI (As := [.int (gI q3 85 70), .int p2]) (rest := []) dX9_speaksAs_87 ok_X9_455 (by omega) rfl s_85 ⟨_, rfl⟩ (Nat.le_of_ble_eq_true rfl) ⟨rfl, rfl⟩ rfl (fun t h => o_X9_knowsAs 4 h) h (fun q4 h => ?_)
          refine wp_iconst (2 : Int32) dX9_speaksAs_90 ic_2 rfl ?_
          refine wp_imul dX9_speaksAs_91 rfl ?_
          exact wm_iret dX9_speaksAs_92 rfl ⟨rfl, rfl⟩ h hP
        · refine wp_aload_n dX9_speaksAs_50 rfl rfl ?_
          refine wp_bipush (80 : Int32) dX9_speaksAs_51 ib_80 rfl ?_
          refine wm_callVN (As := [.int (80 : Int32)]) (rest := []) dX9_speaksAs_53 ok_X9_452 (by omega) rfl s_85 ⟨_, rfl⟩ (Nat.le_of_ble_eq_true rfl) ⟨rfl, rfl⟩ rfl (fun t h => o_X9_begins h) h (fun q5 h => ?_)
          refine wp_aload_n dX9_speaksAs_56 rfl rfl ?_
          refine wp_iconst (4 : Int32) dX9_speaksAs_57 ic_4 rfl ?_
          refine wp_iload_n dX9_speaksAs_58 rfl rfl ?_
          refine wm_callVI (As := [.int (4 : Int32), .int p2]) (rest := []) dX9_speaksAs_59 ok_X9_461 (by omega) rfl s_85 ⟨_, rfl⟩ (Nat.le_of_ble_eq_true rfl) ⟨rfl, rfl⟩ rfl (hrc _ _ _) h (fun q6 h => ?_)
          refine wp_istore_n (L' := [some (.ref 85), some (.int p1), some (.int p2), some (.int q6.1)]) dX9_speaksAs_62 (by decide) rfl rfl rfl ?_
          refine wp_iload_n dX9_speaksAs_63 rfl rfl ?_
          refine wp_aload_n dX9_speaksAs_64 rfl rfl ?_
          refine wp_aload_n dX9_speaksAs_65 rfl rfl ?_
          refine wm_getI dX9_speaksAs_66 s_85 fk_X9_464 rfl rfl ?_
          refine wp_iconst (2 : Int32) dX9_speaksAs_69 ic_2 rfl ?_
          refine wm_callVI (As := [.int (gI q6.2 85 70), .int (2 : Int32)]) (rest := [.int q6.1]) dX9_speaksAs_70 ok_X9_467 (by omega) rfl s_85 ⟨_, rfl⟩ (Nat.le_of_ble_eq_true rfl) ⟨rfl, rfl⟩ rfl (fun t h => o_X9_stopsAs 4 h) h (fun q7 h => ?_)
          refine wp_iadd dX9_speaksAs_73 rfl ?_
          exact wm_iret dX9_speaksAs_74 rfl ⟨rfl, rfl⟩ h hP
      · refine wp_aload_n dX9_speaksAs_30 rfl rfl ?_
        refine wp_bipush (30 : Int32) dX9_speaksAs_31 ib_30 rfl ?_
        refine wm_callVN (As := [.int (30 : Int32)]) (rest := []) dX9_speaksAs_33 ok_X9_452 (by omega) rfl s_85 ⟨_, rfl⟩ (Nat.le_of_ble_eq_true rfl) ⟨rfl, rfl⟩ rfl (fun t h => o_X9_begins h) h (fun q8 h => ?_)
        refine wp_aload_n dX9_speaksAs_36 rfl rfl ?_
        refine wp_iconst (0 : Int32) dX9_speaksAs_37 ic_0 rfl ?_
        refine wp_iload_n dX9_speaksAs_38 rfl rfl ?_
        refine wm_callVI (As := [.int (0 : Int32), .int p2]) (rest := []) dX9_speaksAs_39 ok_X9_461 (by omega) rfl s_85 ⟨_, rfl⟩ (Nat.le_of_ble_eq_true rfl) ⟨rfl, rfl⟩ rfl (hrc _ _ _) h (fun q9 h => ?_)
        refine wp_ineg dX9_speaksAs_42 rfl ?_
        exact wm_iret dX9_speaksAs_43 rfl ⟨rfl, rfl⟩ h hP
    · exact wm_mask (L' := [some (.ref 85), none, some (.int p2), none]) [true, false, true, false] rfl (k_X9_speaksAs_J10 hrc h hP)
theorem o_X9_speaksAs_B {g : Gx} {d0 : Nat} {rc : Int32 → Int32 → Mem → Option (Int32 × Mem)} (hrc : ∀ p1 p2 m t, rc p1 p2 m = some t → MxM g d0 mi_X9_speaksAs [.ref 85, .int p1, .int p2] m (qI t)) {p1 : Int32} {p2 : Int32} {m : Mem} {t : Int32 × Mem} (h : f_X9_speaksAs_B rc p1 p2 m = some t) : MxM g (d0 + 37) mi_X9_speaksAs [.ref 85, .int p1, .int p2] m (qI t) := mx_of pn_X9 (Nat.le_of_ble_eq_true rfl) (k_X9_speaksAs_E hrc h ⟨rfl, rfl, rfl, rfl, rfl⟩)
noncomputable def f_X9_speaksAs : Nat → Int32 → Int32 → Mem → Option (Int32 × Mem)
  | 0, _, _, _ => none
  | n + 1, p1, p2, m => f_X9_speaksAs_B (f_X9_speaksAs n) p1 p2 m
theorem o_X9_speaksAs {g : Gx} (n : Nat) : ∀ {p1 : Int32} {p2 : Int32} {m : Mem} {t : Int32 × Mem}, f_X9_speaksAs n p1 p2 m = some t → MxM g (37 * n) mi_X9_speaksAs [.ref 85, .int p1, .int p2] m (qI t) := by
  induction n with
  | zero => intro _ _ _ _ h; cases h
  | succ n ih => intro p1 p2 m t h; exact o_X9_speaksAs_B (d0 := 37 * n) (fun _ _ _ _ h => ih h) h
noncomputable def f_X9_decidesAs_B (rc : Int32 → Int32 → Mem → Option (Int32 × Mem)) (p1 : Int32) (p2 : Int32) (m : Mem) : Option (Int32 × Mem) := if ¬ p1 = (5 : Int32) then if ¬ p1 = (7 : Int32) then (f_X9_begins (2 : Int32) m).bind (fun q1 => (f_X9_speaksAs 6 (gI q1 85 70) p2 q1).bind (fun q2 => (f_X9_stopsAs 4 (gI q2.2 85 70) (1 : Int32) q2.2).bind (fun q3 => some ((q2.1 - q3.1), q3.2)))) else (f_X9_begins (81 : Int32) m).bind (fun q4 => (rc (4 : Int32) p2 q4).bind (fun q5 => some ((q5.1 - (1 : Int32)), q5.2))) else (f_X9_begins (60 : Int32) m).bind (fun q6 => (rc (3 : Int32) p2 q6).bind (fun q7 => some ((q7.1 ^^^ (5 : Int32)), q7.2)))
theorem k_X9_decidesAs_E {g : Gx} {d0 : Nat} {rc : Int32 → Int32 → Mem → Option (Int32 × Mem)} (hrc : ∀ p1 p2 m t, rc p1 p2 m = some t → MxM g d0 mi_X9_decidesAs [.ref 85, .int p1, .int p2] m (qI t)) {p1 : Int32} {p2 : Int32} {Q : Qy} {m : Mem} {t : Int32 × Mem} (h : f_X9_decidesAs_B rc p1 p2 m = some t) (hP : pI Q t) : WpM g (d0 + 223) mi_X9_decidesAs 0 [some (.ref 85), some (.int p1), some (.int p2), none] [] m (zM g mi_X9_decidesAs Q) := by
  refine wp_iload_n dX9_decidesAs_0 rfl rfl ?_
  refine wp_iconst (5 : Int32) dX9_decidesAs_1 ic_5 rfl ?_
  refine wm_icmp_ne 20 dX9_decidesAs_2 rfl rfl h (fun h => ?_) (fun h => ?_)
  · refine wp_iload_n dX9_decidesAs_20 rfl rfl ?_
    refine wp_bipush (7 : Int32) dX9_decidesAs_21 ib_7 rfl ?_
    refine wm_icmp_ne 41 dX9_decidesAs_23 rfl rfl h (fun h => ?_) (fun h => ?_)
    · refine wp_aload_n dX9_decidesAs_41 rfl rfl ?_
      refine wp_iconst (2 : Int32) dX9_decidesAs_42 ic_2 rfl ?_
      refine wm_callVN (As := [.int (2 : Int32)]) (rest := []) dX9_decidesAs_43 ok_X9_452 (by omega) rfl s_85 ⟨_, rfl⟩ (Nat.le_of_ble_eq_true rfl) ⟨rfl, rfl⟩ rfl (fun t h => o_X9_begins h) h (fun q1 h => ?_)
      refine wp_aload_n dX9_decidesAs_46 rfl rfl ?_
      refine wp_aload_n dX9_decidesAs_47 rfl rfl ?_
      refine wm_getI dX9_decidesAs_48 s_85 fk_X9_464 rfl rfl ?_
      refine wp_iload_n dX9_decidesAs_51 rfl rfl ?_
      refine wm_callVI (As := [.int (gI q1 85 70), .int p2]) (rest := []) dX9_decidesAs_52 ok_X9_461 (by omega) rfl s_85 ⟨_, rfl⟩ (Nat.le_of_ble_eq_true rfl) ⟨rfl, rfl⟩ rfl (fun t h => o_X9_speaksAs 6 h) h (fun q2 h => ?_)
      refine wp_istore_n (L' := [some (.ref 85), some (.int p1), some (.int p2), some (.int q2.1)]) dX9_decidesAs_55 (by decide) rfl rfl rfl ?_
      refine wp_iload_n dX9_decidesAs_56 rfl rfl ?_
      refine wp_aload_n dX9_decidesAs_57 rfl rfl ?_
      refine wp_aload_n dX9_decidesAs_58 rfl rfl ?_
      refine wm_getI dX9_decidesAs_59 s_85 fk_X9_464 rfl rfl ?_
      refine wp_iconst (1 : Int32) dX9_decidesAs_62 ic_1 rfl ?_
      refine wm_callVI (As := [.int (gI q2.2 85 70), .int (1 : Int32)]) (rest := [.int q2.1]) dX9_decidesAs_63 ok_X9_467 (by omega) rfl s_85 ⟨_, rfl⟩ (Nat.le_of_ble_eq_true rfl) ⟨rfl, rfl⟩ rfl (fun t h => o_X9_stopsAs 4 h) h (fun q3 h => ?_)
      refine wp_isub dX9_decidesAs_66 rfl ?_
      exact wm_iret dX9_decidesAs_67 rfl ⟨rfl, rfl⟩ h hP
    · refine wp_aload_n dX9_decidesAs_26 rfl rfl ?_
      refine wp_bipush (81 : Int32) dX9_decidesAs_27 ib_81 rfl ?_
      refine wm_callVN (As := [.int (81 : Int32)]) (rest := []) dX9_decidesAs_29 ok_X9_452 (by omega) rfl s_85 ⟨_, rfl⟩ (Nat.le_of_ble_eq_true rfl) ⟨rfl, rfl⟩ rfl (fun t h => o_X9_begins h) h (fun q4 h => ?_)
      refine wp_aload_n dX9_decidesAs_32 rfl rfl ?_
      refine wp_iconst (4 : Int32) dX9_decidesAs_33 ic_4 rfl ?_
      refine wp_iload_n dX9_decidesAs_34 rfl rfl ?_
      refine wm_callVI (As := [.int (4 : Int32), .int p2]) (rest := []) dX9_decidesAs_35 ok_X9_470 (by omega) rfl s_85 ⟨_, rfl⟩ (Nat.le_of_ble_eq_true rfl) ⟨rfl, rfl⟩ rfl (hrc _ _ _) h (fun q5 h => ?_)
      refine wp_iconst (1 : Int32) dX9_decidesAs_38 ic_1 rfl ?_
      refine wp_isub dX9_decidesAs_39 rfl ?_
      exact wm_iret dX9_decidesAs_40 rfl ⟨rfl, rfl⟩ h hP
  · refine wp_aload_n dX9_decidesAs_5 rfl rfl ?_
    refine wp_bipush (60 : Int32) dX9_decidesAs_6 ib_60 rfl ?_
    refine wm_callVN (As := [.int (60 : Int32)]) (rest := []) dX9_decidesAs_8 ok_X9_452 (by omega) rfl s_85 ⟨_, rfl⟩ (Nat.le_of_ble_eq_true rfl) ⟨rfl, rfl⟩ rfl (fun t h => o_X9_begins h) h (fun q6 h => ?_)
    refine wp_aload_n dX9_decidesAs_11 rfl rfl ?_
    refine wp_iconst (3 : Int32) dX9_decidesAs_12 ic_3 rfl ?_
    refine wp_iload_n dX9_decidesAs_13 rfl rfl ?_
    refine wm_callVI (As := [.int (3 : Int32), .int p2]) (rest := []) dX9_decidesAs_14 ok_X9_470 (by omega) rfl s_85 ⟨_, rfl⟩ (Nat.le_of_ble_eq_true rfl) ⟨rfl, rfl⟩ rfl (hrc _ _ _) h (fun q7 h => ?_)
    refine wp_iconst (5 : Int32) dX9_decidesAs_17 ic_5 rfl ?_
    refine wp_ixor dX9_decidesAs_18 rfl ?_
    exact wm_iret dX9_decidesAs_19 rfl ⟨rfl, rfl⟩ h hP
theorem o_X9_decidesAs_B {g : Gx} {d0 : Nat} {rc : Int32 → Int32 → Mem → Option (Int32 × Mem)} (hrc : ∀ p1 p2 m t, rc p1 p2 m = some t → MxM g d0 mi_X9_decidesAs [.ref 85, .int p1, .int p2] m (qI t)) {p1 : Int32} {p2 : Int32} {m : Mem} {t : Int32 × Mem} (h : f_X9_decidesAs_B rc p1 p2 m = some t) : MxM g (d0 + 223) mi_X9_decidesAs [.ref 85, .int p1, .int p2] m (qI t) := mx_of pn_X9 (Nat.le_of_ble_eq_true rfl) (k_X9_decidesAs_E hrc h ⟨rfl, rfl, rfl, rfl, rfl⟩)
noncomputable def f_X9_decidesAs : Nat → Int32 → Int32 → Mem → Option (Int32 × Mem)
  | 0, _, _, _ => none
  | n + 1, p1, p2, m => f_X9_decidesAs_B (f_X9_decidesAs n) p1 p2 m
theorem o_X9_decidesAs {g : Gx} (n : Nat) : ∀ {p1 : Int32} {p2 : Int32} {m : Mem} {t : Int32 × Mem}, f_X9_decidesAs n p1 p2 m = some t → MxM g (223 * n) mi_X9_decidesAs [.ref 85, .int p1, .int p2] m (qI t) := by
  induction n with
  | zero => intro _ _ _ _ h; cases h
  | succ n ih => intro p1 p2 m t h; exact o_X9_decidesAs_B (d0 := 223 * n) (fun _ _ _ _ h => ih h) h
noncomputable def f_X9_act  (p1 : Int32) (p2 : Int32) (p3 : Int32) (m : Mem) : Option (Int32 × Mem) := bnd (sI m 85 69 (0 : Int32)) (fun m1 => (f_X9_isBody p1 m1).bind (fun q2 => if ¬ q2.1 = 0 then ck p1 50 (bnd (sI q2.2 85 70 (gI q2.2 124 (ix p1))) (fun m3 => bnd (sI m3 85 71 p1) (fun m4 => sw p2 [((0 : Int32), (f_X9_knowsAs 4 (gI m4 85 70) p3 m4).bind (fun q5 => some (q5.1, q5.2))), ((1 : Int32), (f_X9_speaksAs 6 (gI m4 85 70) p3 m4).bind (fun q6 => some (q6.1, q6.2))), ((2 : Int32), (f_X9_stopsAs 4 (gI m4 85 70) p3 m4).bind (fun q7 => some (q7.1, q7.2))), ((3 : Int32), (f_X9_decidesAs 4 (gI m4 85 70) p3 m4).bind (fun q8 => some (q8.1, q8.2)))] (some ((0 : Int32), m4))))) else some ((0 : Int32), q2.2)))
theorem k_X9_act_E {g : Gx}  {p1 : Int32} {p2 : Int32} {p3 : Int32} {Q : Qy} {m : Mem} {t : Int32 × Mem} (h : f_X9_act p1 p2 p3 m = some t) (hP : pI Q t) : WpM g 893 mi_X9_act 0 [some (.ref 85), some (.int p1), some (.int p2), some (.int p3)] [] m (zM g mi_X9_act Q) := by
  refine wp_aload_n dX9_act_0 rfl rfl ?_
  refine wp_iconst (0 : Int32) dX9_act_1 ic_0 rfl ?_
  refine wm_putI dX9_act_2 s_85 fk_X9_449 rfl rfl h (fun m1 h => ?_)
  refine wp_aload_n dX9_act_5 rfl rfl ?_
  refine wp_iload_n dX9_act_6 rfl rfl ?_
  refine wm_callVI (As := [.int p1]) (rest := []) dX9_act_7 ok_X9_473 (by decide) rfl s_85 ⟨_, rfl⟩ (Nat.le_of_ble_eq_true rfl) ⟨rfl, rfl⟩ rfl (fun t h => o_X9_isBody h) h (fun q2 h => ?_)
  refine wm_if_ne 15 dX9_act_10 rfl rfl h (fun h => ?_) (fun h => ?_)
  · refine wp_aload_n dX9_act_15 rfl rfl ?_
    refine wp_aload_n dX9_act_16 rfl rfl ?_
    refine wm_getR dX9_act_17 s_85 fk_X9_124 rfl r_85_67 rfl ?_
    refine wp_iload_n dX9_act_20 rfl rfl ?_
    refine wm_iald dX9_act_21 s_124 rfl h (fun h => ?_)
    refine wm_putI dX9_act_22 s_85 fk_X9_464 rfl rfl h (fun m3 h => ?_)
    refine wp_aload_n dX9_act_25 rfl rfl ?_
    refine wp_iload_n dX9_act_26 rfl rfl ?_
    refine wm_putI dX9_act_27 s_85 fk_X9_458 rfl rfl h (fun m4 h => ?_)
    refine wp_iload_n dX9_act_30 rfl rfl ?_
    refine wm_tsw [((0 : Int32), 60), ((1 : Int32), 70), ((2 : Int32), 80), ((3 : Int32), 90)] 100 dX9_act_31 rfl (by decide) (by decide +kernel) (by decide +kernel) (by decide +kernel) h rfl ⟨fun h => ?_, fun h => ?_, fun h => ?_, fun h => ?_, trivial⟩ (fun h => ?_)
    · refine wp_aload_n dX9_act_60 rfl rfl ?_
      refine wp_aload_n dX9_act_61 rfl rfl ?_
      refine wm_getI dX9_act_62 s_85 fk_X9_464 rfl rfl ?_
      refine wp_iload_n dX9_act_65 rfl rfl ?_
      refine wm_callVI (As := [.int (gI m4 85 70), .int p3]) (rest := []) dX9_act_66 ok_X9_455 (by decide) rfl s_85 ⟨_, rfl⟩ (Nat.le_of_ble_eq_true rfl) ⟨rfl, rfl⟩ rfl (fun t h => o_X9_knowsAs 4 h) h (fun q5 h => ?_)
      exact wm_iret dX9_act_69 rfl ⟨rfl, rfl⟩ h hP
    · refine wp_aload_n dX9_act_70 rfl rfl ?_
      refine wp_aload_n dX9_act_71 rfl rfl ?_
      refine wm_getI dX9_act_72 s_85 fk_X9_464 rfl rfl ?_
      refine wp_iload_n dX9_act_75 rfl rfl ?_
      refine wm_callVI (As := [.int (gI m4 85 70), .int p3]) (rest := []) dX9_act_76 ok_X9_461 (by decide) rfl s_85 ⟨_, rfl⟩ (Nat.le_of_ble_eq_true rfl) ⟨rfl, rfl⟩ rfl (fun t h => o_X9_speaksAs 6 h) h (fun q6 h => ?_)
      exact wm_iret dX9_act_79 rfl ⟨rfl, rfl⟩ h hP
    · refine wp_aload_n dX9_act_80 rfl rfl ?_
      refine wp_aload_n dX9_act_81 rfl rfl ?_
      refine wm_getI dX9_act_82 s_85 fk_X9_464 rfl rfl ?_
      refine wp_iload_n dX9_act_85 rfl rfl ?_
      refine wm_callVI (As := [.int (gI m4 85 70), .int p3]) (rest := []) dX9_act_86 ok_X9_467 (by decide) rfl s_85 ⟨_, rfl⟩ (Nat.le_of_ble_eq_true rfl) ⟨rfl, rfl⟩ rfl (fun t h => o_X9_stopsAs 4 h) h (fun q7 h => ?_)
      exact wm_iret dX9_act_89 rfl ⟨rfl, rfl⟩ h hP
    · refine wp_aload_n dX9_act_90 rfl rfl ?_
      refine wp_aload_n dX9_act_91 rfl rfl ?_
      refine wm_getI dX9_act_92 s_85 fk_X9_464 rfl rfl ?_
      refine wp_iload_n dX9_act_95 rfl rfl ?_
      refine wm_callVI (As := [.int (gI m4 85 70), .int p3]) (rest := []) dX9_act_96 ok_X9_470 (by decide) rfl s_85 ⟨_, rfl⟩ (Nat.le_of_ble_eq_true rfl) ⟨rfl, rfl⟩ rfl (fun t h => o_X9_decidesAs 4 h) h (fun q8 h => ?_)
      exact wm_iret dX9_act_99 rfl ⟨rfl, rfl⟩ h hP
    · refine wp_iconst (0 : Int32) dX9_act_100 ic_0 rfl ?_
      exact wm_iret dX9_act_101 rfl ⟨rfl, rfl⟩ h hP
  · refine wp_iconst (0 : Int32) dX9_act_13 ic_0 rfl ?_
    exact wm_iret dX9_act_14 rfl ⟨rfl, rfl⟩ h hP
theorem o_X9_act {g : Gx}  {p1 : Int32} {p2 : Int32} {p3 : Int32} {m : Mem} {t : Int32 × Mem} (h : f_X9_act p1 p2 p3 m = some t) : MxM g 893 mi_X9_act [.ref 85, .int p1, .int p2, .int p3] m (qI t) := mx_of pn_X9 (Nat.le_of_ble_eq_true rfl) (k_X9_act_E h ⟨rfl, rfl, rfl, rfl, rfl⟩)
noncomputable def f_X9_adds  (p1 : Int32) (p2 : Int32) (p3 : Int32) (m : Mem) : Option Mem := ck (gI m 85 9) 20 (bnd (sI m 91 (ix (gI m 85 9)) p1) (fun m1 => ck (gI m1 85 9) 20 (bnd (sI m1 92 (ix (gI m1 85 9)) p2) (fun m2 => ck (gI m2 85 9) 20 (bnd (sI m2 93 (ix (gI m2 85 9)) p3) (fun m3 => bnd (sI m3 85 9 ((gI m3 85 9) + (1 : Int32))) (fun m4 => some m4)))))))
theorem k_X9_adds_E {g : Gx}  {p1 : Int32} {p2 : Int32} {p3 : Int32} {Q : Qy} {m : Mem} {t : Mem} (h : f_X9_adds p1 p2 p3 m = some t) (hP : pV Q t) : WpM g 1 mi_X9_adds 0 [some (.ref 85), some (.int p1), some (.int p2), some (.int p3)] [] m (zM g mi_X9_adds Q) := by
  refine wp_aload_n dX9_adds_0 rfl rfl ?_
  refine wm_getR dX9_adds_1 s_85 fk_X9_25 rfl r_85_10 rfl ?_
  refine wp_aload_n dX9_adds_4 rfl rfl ?_
  refine wm_getI dX9_adds_5 s_85 fk_X9_169 rfl rfl ?_
  refine wp_iload_n dX9_adds_8 rfl rfl ?_
  refine wm_iast dX9_adds_9 s_91 rfl h (fun m1 h => ?_)
  refine wp_aload_n dX9_adds_10 rfl rfl ?_
  refine wm_getR dX9_adds_11 s_85 fk_X9_28 rfl r_85_11 rfl ?_
  refine wp_aload_n dX9_adds_14 rfl rfl ?_
  refine wm_getI dX9_adds_15 s_85 fk_X9_169 rfl rfl ?_
  refine wp_iload_n dX9_adds_18 rfl rfl ?_
  refine wm_iast dX9_adds_19 s_92 rfl h (fun m2 h => ?_)
  refine wp_aload_n dX9_adds_20 rfl rfl ?_
  refine wm_getR dX9_adds_21 s_85 fk_X9_31 rfl r_85_12 rfl ?_
  refine wp_aload_n dX9_adds_24 rfl rfl ?_
  refine wm_getI dX9_adds_25 s_85 fk_X9_169 rfl rfl ?_
  refine wp_iload_n dX9_adds_28 rfl rfl ?_
  refine wm_iast dX9_adds_29 s_93 rfl h (fun m3 h => ?_)
  refine wp_aload_n dX9_adds_30 rfl rfl ?_
  refine wp_dup dX9_adds_31 rfl rfl ?_
  refine wm_getI dX9_adds_32 s_85 fk_X9_169 rfl rfl ?_
  refine wp_iconst (1 : Int32) dX9_adds_35 ic_1 rfl ?_
  refine wp_iadd dX9_adds_36 rfl ?_
  refine wm_putI dX9_adds_37 s_85 fk_X9_169 rfl rfl h (fun m4 h => ?_)
  exact wm_vret dX9_adds_40 rfl ⟨rfl, rfl⟩ h hP
theorem o_X9_adds {g : Gx}  {p1 : Int32} {p2 : Int32} {p3 : Int32} {m : Mem} {t : Mem} (h : f_X9_adds p1 p2 p3 m = some t) : MxM g 1 mi_X9_adds [.ref 85, .int p1, .int p2, .int p3] m (qV t) := mx_of pn_X9 (Nat.le_of_ble_eq_true rfl) (k_X9_adds_E h ⟨rfl, rfl, rfl, rfl, rfl⟩)
abbrev A_X9_bitsOf_4 (g : Gx)  (Q : Qy) (s : Int32 × Int32 × Mem) : Prop := WpM g 1 mi_X9_bitsOf 4 [none, some (.int s.1), some (.int s.2.1)] [] s.2.2 (zM g mi_X9_bitsOf Q)
abbrev P_X9_bitsOf_4 (g : Gx)  (Q : Qy) : ((Int32 × Int32 × Mem) ⊕ (Int32 × Mem)) → Prop := pS (A_X9_bitsOf_4 g Q) (pI Q)
noncomputable def f_X9_bitsOf_L4  (s : Int32 × Int32 × Mem) : Option ((Int32 × Int32 × Mem) ⊕ (Int32 × Mem)) := if s.2.1 = 0 then up (some (s.1, s.2.2)) else bnd (s.1 + (1 : Int32)) (fun y1 => bnd (s.2.1 &&& (s.2.1 - (1 : Int32))) (fun y2 => some (Sum.inl (y1, y2, s.2.2))))
theorem k_X9_bitsOf_L4 {g : Gx}  {Q : Qy} {s : Int32 × Int32 × Mem} {t : (Int32 × Int32 × Mem) ⊕ (Int32 × Mem)} (h : f_X9_bitsOf_L4 s = some t) (hP : P_X9_bitsOf_4 g Q t) : A_X9_bitsOf_4 g Q s := by
  refine wp_iload_n dX9_bitsOf_4 rfl rfl ?_
  refine wm_if_eq 20 dX9_bitsOf_5 rfl rfl h (fun h => ?_) (fun h => ?_)
  · refine wm_up h hP (fun r h hP => ?_)
    refine wp_iload_n dX9_bitsOf_20 rfl rfl ?_
    exact wm_iret dX9_bitsOf_21 rfl ⟨rfl, rfl⟩ h hP
  · refine wm_inc dX9_bitsOf_8 rfl ii_1 (by decide) rfl rfl h (fun y1 h => ?_)
    refine wm_list (L' := [none, some (.int y1), some (.int s.2.1)]) rfl ?_
    refine wp_iload_n dX9_bitsOf_11 rfl rfl ?_
    refine wp_iload_n dX9_bitsOf_12 rfl rfl ?_
    refine wp_iconst (1 : Int32) dX9_bitsOf_13 ic_1 rfl ?_
    refine wp_isub dX9_bitsOf_14 rfl ?_
    refine wp_iand dX9_bitsOf_15 rfl ?_
    refine wm_nm h (fun y2 h => ?_)
    refine wp_istore_n (L' := [none, some (.int y1), some (.int y2)]) dX9_bitsOf_16 (by decide) rfl rfl rfl ?_
    refine wp_goto 4 dX9_bitsOf_17 rfl ?_
    have hB := wm_back h hP
    exact wm_mask (L' := [none, some (.int y1), some (.int y2)]) [false, true, true] rfl (hB)
noncomputable def f_X9_bitsOf  (p1 : Int32) (m : Mem) : Option (Int32 × Mem) := wh (f_X9_bitsOf_L4) ((0 : Int32), p1, m)
theorem k_X9_bitsOf_E {g : Gx}  {p1 : Int32} {Q : Qy} {m : Mem} {t : Int32 × Mem} (h : f_X9_bitsOf p1 m = some t) (hP : pI Q t) : WpM g 1 mi_X9_bitsOf 0 [some (.int p1), none, none] [] m (zM g mi_X9_bitsOf Q) := by
  refine wp_iconst (0 : Int32) dX9_bitsOf_0 ic_0 rfl ?_
  refine wp_istore_n (L' := [some (.int p1), some (.int (0 : Int32)), none]) dX9_bitsOf_1 (by decide) rfl rfl rfl ?_
  refine wp_iload_n dX9_bitsOf_2 rfl rfl ?_
  refine wp_istore_n (L' := [some (.int p1), some (.int (0 : Int32)), some (.int p1)]) dX9_bitsOf_3 (by decide) rfl rfl rfl ?_
  have hB := wh_ok (A := A_X9_bitsOf_4 g Q) (B := pI Q) (fun s t h hP => k_X9_bitsOf_L4  h hP) h hP
  exact wm_mask (L' := [none, some (.int (0 : Int32)), some (.int p1)]) [false, true, true] rfl (hB)
theorem o_X9_bitsOf {g : Gx}  {p1 : Int32} {m : Mem} {t : Int32 × Mem} (h : f_X9_bitsOf p1 m = some t) : MxM g 1 mi_X9_bitsOf [.int p1] m (qI t) := mx_of pn_X9 (Nat.le_of_ble_eq_true rfl) (k_X9_bitsOf_E h ⟨rfl, rfl, rfl, rfl, rfl⟩)
noncomputable def f_X9_isAlone  (p1 : Int32) (m : Mem) : Option (Int32 × Mem) := ck p1 20 ((f_X9_bitsOf ((gI m 93 (ix p1)) &&& (((1 : Int32) <<< ((gI m 85 6) &&& 31)) - (1 : Int32))) m).bind (fun q1 => if ¬ q1.1 = (1 : Int32) then bz (0 : Int32) (some ((0 : Int32), q1.2)) else bz (1 : Int32) (some ((1 : Int32), q1.2))))
theorem k_X9_isAlone_E {g : Gx}  {p1 : Int32} {Q : Qy} {m : Mem} {t : Int32 × Mem} (h : f_X9_isAlone p1 m = some t) (hP : pI Q t) : WpM g 2 mi_X9_isAlone 0 [some (.ref 85), some (.int p1)] [] m (zM g mi_X9_isAlone Q) := by
  refine wp_aload_n dX9_isAlone_0 rfl rfl ?_
  refine wm_getR dX9_isAlone_1 s_85 fk_X9_31 rfl r_85_12 rfl ?_
  refine wp_iload_n dX9_isAlone_4 rfl rfl ?_
  refine wm_iald dX9_isAlone_5 s_93 rfl h (fun h => ?_)
  refine wp_iconst (1 : Int32) dX9_isAlone_6 ic_1 rfl ?_
  refine wp_aload_n dX9_isAlone_7 rfl rfl ?_
  refine wm_getI dX9_isAlone_8 s_85 fk_X9_159 rfl rfl ?_
  refine wp_ishl dX9_isAlone_11 rfl ?_
  refine wp_iconst (1 : Int32) dX9_isAlone_12 ic_1 rfl ?_
  refine wp_isub dX9_isAlone_13 rfl ?_
  refine wp_iand dX9_isAlone_14 rfl ?_
  refine wm_callSI (As := [.int ((gI m 93 (ix p1)) &&& (((1 : Int32) <<< ((gI m 85 6) &&& 31)) - (1 : Int32)))]) (rest := []) dX9_isAlone_15 ok_X9_367 (by decide) rfl (Nat.le_of_ble_eq_true rfl) ⟨rfl, rfl⟩ rfl (fun t h => o_X9_bitsOf h) h (fun q1 h => ?_)
  refine wp_iconst (1 : Int32) dX9_isAlone_18 ic_1 rfl ?_
  refine wm_icmp_ne 26 dX9_isAlone_19 rfl rfl h (fun h => ?_) (fun h => ?_)
  · refine wp_iconst (0 : Int32) dX9_isAlone_26 ic_0 rfl ?_
    exact wm_zret dX9_isAlone_27 rfl ⟨rfl, rfl⟩ h hP
  · refine wp_iconst (1 : Int32) dX9_isAlone_22 ic_1 rfl ?_
    refine wp_goto 27 dX9_isAlone_23 rfl ?_
    exact wm_zret dX9_isAlone_27 rfl ⟨rfl, rfl⟩ h hP
theorem o_X9_isAlone {g : Gx}  {p1 : Int32} {m : Mem} {t : Int32 × Mem} (h : f_X9_isAlone p1 m = some t) : MxM g 2 mi_X9_isAlone [.ref 85, .int p1] m (qI t) := mx_of pn_X9 (Nat.le_of_ble_eq_true rfl) (k_X9_isAlone_E h ⟨rfl, rfl, rfl, rfl, rfl⟩)
noncomputable def f_X9_isSaid  (p1 : Int32) (m : Mem) : Option (Int32 × Mem) := ck p1 20 (if (gI m 100 (ix p1)) = (-2 : Int32) then bz (0 : Int32) (some ((0 : Int32), m)) else bz (1 : Int32) (some ((1 : Int32), m)))
theorem k_X9_isSaid_E {g : Gx}  {p1 : Int32} {Q : Qy} {m : Mem} {t : Int32 × Mem} (h : f_X9_isSaid p1 m = some t) (hP : pI Q t) : WpM g 1 mi_X9_isSaid 0 [some (.ref 85), some (.int p1)] [] m (zM g mi_X9_isSaid Q) := by
  refine wp_aload_n dX9_isSaid_0 rfl rfl ?_
  refine wm_getR dX9_isSaid_1 s_85 fk_X9_52 rfl r_85_35 rfl ?_
  refine wp_iload_n dX9_isSaid_4 rfl rfl ?_
  refine wm_iald dX9_isSaid_5 s_100 rfl h (fun h => ?_)
  refine wp_bipush (-2 : Int32) dX9_isSaid_6 ib_m2 rfl ?_
  refine wm_icmp_eq 15 dX9_isSaid_8 rfl rfl h (fun h => ?_) (fun h => ?_)
  · refine wp_iconst (0 : Int32) dX9_isSaid_15 ic_0 rfl ?_
    exact wm_zret dX9_isSaid_16 rfl ⟨rfl, rfl⟩ h hP
  · refine wp_iconst (1 : Int32) dX9_isSaid_11 ic_1 rfl ?_
    refine wp_goto 16 dX9_isSaid_12 rfl ?_
    exact wm_zret dX9_isSaid_16 rfl ⟨rfl, rfl⟩ h hP
theorem o_X9_isSaid {g : Gx}  {p1 : Int32} {m : Mem} {t : Int32 × Mem} (h : f_X9_isSaid p1 m = some t) : MxM g 1 mi_X9_isSaid [.ref 85, .int p1] m (qI t) := mx_of pn_X9 (Nat.le_of_ble_eq_true rfl) (k_X9_isSaid_E h ⟨rfl, rfl, rfl, rfl, rfl⟩)
abbrev A_X9_aloneSaid_4 (g : Gx)  (Q : Qy) (s : Int32 × Int32 × Int32 × Mem) : Prop := WpM g 3 mi_X9_aloneSaid 4 [some (.ref 85), some (.int s.1), some (.int s.2.1), some (.int s.2.2.1)] [] s.2.2.2 (zM g mi_X9_aloneSaid Q)
abbrev P_X9_aloneSaid_4 (g : Gx)  (Q : Qy) : ((Int32 × Int32 × Int32 × Mem) ⊕ (Int32 × Mem)) → Prop := pS (A_X9_aloneSaid_4 g Q) (pI Q)
noncomputable def f_X9_aloneSaid_L4  (s : Int32 × Int32 × Int32 × Mem) : Option ((Int32 × Int32 × Int32 × Mem) ⊕ (Int32 × Mem)) := if (gI s.2.2.2 85 9) ≤ s.2.2.1 then up (some (s.2.1, s.2.2.2)) else (f_X9_isAlone s.2.2.1 s.2.2.2).bind (fun q1 => if q1.1 = 0 then bnd (s.2.1 + (0 : Int32)) (fun y2 => bnd (s.2.2.1 + (1 : Int32)) (fun y3 => some (Sum.inl (s.1, y2, y3, q1.2)))) else if ¬ s.1 = 0 then bnd (s.2.1 + (1 : Int32)) (fun y4 => bnd (s.2.2.1 + (1 : Int32)) (fun y5 => some (Sum.inl (s.1, y4, y5, q1.2)))) else (f_X9_isSaid s.2.2.1 q1.2).bind (fun q6 => if q6.1 = 0 then bnd (s.2.1 + (0 : Int32)) (fun y7 => bnd (s.2.2.1 + (1 : Int32)) (fun y8 => some (Sum.inl (s.1, y7, y8, q6.2)))) else bnd (s.2.1 + (1 : Int32)) (fun y9 => bnd (s.2.2.1 + (1 : Int32)) (fun y10 => some (Sum.inl (s.1, y9, y10, q6.2))))))
theorem k_X9_aloneSaid_L4 {g : Gx}  {Q : Qy} {s : Int32 × Int32 × Int32 × Mem} {t : (Int32 × Int32 × Int32 × Mem) ⊕ (Int32 × Mem)} (h : f_X9_aloneSaid_L4 s = some t) (hP : P_X9_aloneSaid_4 g Q t) : A_X9_aloneSaid_4 g Q s := by
  refine wp_iload_n dX9_aloneSaid_4 rfl rfl ?_
  refine wp_aload_n dX9_aloneSaid_5 rfl rfl ?_
  refine wm_getI dX9_aloneSaid_6 s_85 fk_X9_169 rfl rfl ?_
  refine wm_icmp_ge 46 dX9_aloneSaid_9 rfl rfl h (fun h => ?_) (fun h => ?_)
  · refine wm_up h hP (fun r h hP => ?_)
    refine wp_iload_n dX9_aloneSaid_46 rfl rfl ?_
    exact wm_iret dX9_aloneSaid_47 rfl ⟨rfl, rfl⟩ h hP
  · refine wp_iload_n dX9_aloneSaid_12 rfl rfl ?_
    refine wp_aload_n dX9_aloneSaid_13 rfl rfl ?_
    refine wp_iload_n dX9_aloneSaid_14 rfl rfl ?_
    refine wm_callVI (As := [.int s.2.2.1]) (rest := [.int s.2.1]) dX9_aloneSaid_15 ok_X9_373 (by decide) rfl s_85 ⟨_, rfl⟩ (Nat.le_of_ble_eq_true rfl) ⟨rfl, rfl⟩ rfl (fun t h => o_X9_isAlone h) h (fun q1 h => ?_)
    refine wm_if_eq 37 dX9_aloneSaid_18 rfl rfl h (fun h => ?_) (fun h => ?_)
    · refine wp_iconst (0 : Int32) dX9_aloneSaid_37 ic_0 rfl ?_
      refine wp_iadd dX9_aloneSaid_38 rfl ?_
      refine wm_nm h (fun y2 h => ?_)
      refine wp_istore_n (L' := [some (.ref 85), some (.int s.1), some (.int y2), some (.int s.2.2.1)]) dX9_aloneSaid_39 (by decide) rfl rfl rfl ?_
      refine wm_inc dX9_aloneSaid_40 rfl ii_1 (by decide) rfl rfl h (fun y3 h => ?_)
      refine wm_list (L' := [some (.ref 85), some (.int s.1), some (.int y2), some (.int y3)]) rfl ?_
      refine wp_goto 4 dX9_aloneSaid_43 rfl ?_
      have hB := wm_back h hP
      exact wm_mask (L' := [some (.ref 85), some (.int s.1), some (.int y2), some (.int y3)]) [true, true, true, true] rfl (hB)
    · refine wp_iload_n dX9_aloneSaid_21 rfl rfl ?_
      refine wm_if_ne 33 dX9_aloneSaid_22 rfl rfl h (fun h => ?_) (fun h => ?_)
      · refine wp_iconst (1 : Int32) dX9_aloneSaid_33 ic_1 rfl ?_
        refine wp_goto 38 dX9_aloneSaid_34 rfl ?_
        refine wp_iadd dX9_aloneSaid_38 rfl ?_
        refine wm_nm h (fun y4 h => ?_)
        refine wp_istore_n (L' := [some (.ref 85), some (.int s.1), some (.int y4), some (.int s.2.2.1)]) dX9_aloneSaid_39 (by decide) rfl rfl rfl ?_
        refine wm_inc dX9_aloneSaid_40 rfl ii_1 (by decide) rfl rfl h (fun y5 h => ?_)
        refine wm_list (L' := [some (.ref 85), some (.int s.1), some (.int y4), some (.int y5)]) rfl ?_
        refine wp_goto 4 dX9_aloneSaid_43 rfl ?_
        have hB := wm_back h hP
        exact wm_mask (L' := [some (.ref 85), some (.int s.1), some (.int y4), some (.int y5)]) [true, true, true, true] rfl (hB)
      · refine wp_aload_n dX9_aloneSaid_25 rfl rfl ?_
        refine wp_iload_n dX9_aloneSaid_26 rfl rfl ?_
        refine wm_callVI (As := [.int s.2.2.1]) (rest := [.int s.2.1]) dX9_aloneSaid_27 ok_X9_296 (by decide) rfl s_85 ⟨_, rfl⟩ (Nat.le_of_ble_eq_true rfl) ⟨rfl, rfl⟩ rfl (fun t h => o_X9_isSaid h) h (fun q6 h => ?_)
        refine wm_if_eq 37 dX9_aloneSaid_30 rfl rfl h (fun h => ?_) (fun h => ?_)
        · refine wp_iconst (0 : Int32) dX9_aloneSaid_37 ic_0 rfl ?_
          refine wp_iadd dX9_aloneSaid_38 rfl ?_
          refine wm_nm h (fun y7 h => ?_)
          refine wp_istore_n (L' := [some (.ref 85), some (.int s.1), some (.int y7), some (.int s.2.2.1)]) dX9_aloneSaid_39 (by decide) rfl rfl rfl ?_
          refine wm_inc dX9_aloneSaid_40 rfl ii_1 (by decide) rfl rfl h (fun y8 h => ?_)
          refine wm_list (L' := [some (.ref 85), some (.int s.1), some (.int y7), some (.int y8)]) rfl ?_
          refine wp_goto 4 dX9_aloneSaid_43 rfl ?_
          have hB := wm_back h hP
          exact wm_mask (L' := [some (.ref 85), some (.int s.1), some (.int y7), some (.int y8)]) [true, true, true, true] rfl (hB)
        · refine wp_iconst (1 : Int32) dX9_aloneSaid_33 ic_1 rfl ?_
          refine wp_goto 38 dX9_aloneSaid_34 rfl ?_
          refine wp_iadd dX9_aloneSaid_38 rfl ?_
          refine wm_nm h (fun y9 h => ?_)
          refine wp_istore_n (L' := [some (.ref 85), some (.int s.1), some (.int y9), some (.int s.2.2.1)]) dX9_aloneSaid_39 (by decide) rfl rfl rfl ?_
          refine wm_inc dX9_aloneSaid_40 rfl ii_1 (by decide) rfl rfl h (fun y10 h => ?_)
          refine wm_list (L' := [some (.ref 85), some (.int s.1), some (.int y9), some (.int y10)]) rfl ?_
          refine wp_goto 4 dX9_aloneSaid_43 rfl ?_
          have hB := wm_back h hP
          exact wm_mask (L' := [some (.ref 85), some (.int s.1), some (.int y9), some (.int y10)]) [true, true, true, true] rfl (hB)
noncomputable def f_X9_aloneSaid  (p1 : Int32) (m : Mem) : Option (Int32 × Mem) := wh (f_X9_aloneSaid_L4) (p1, (0 : Int32), (0 : Int32), m)
theorem k_X9_aloneSaid_E {g : Gx}  {p1 : Int32} {Q : Qy} {m : Mem} {t : Int32 × Mem} (h : f_X9_aloneSaid p1 m = some t) (hP : pI Q t) : WpM g 3 mi_X9_aloneSaid 0 [some (.ref 85), some (.int p1), none, none] [] m (zM g mi_X9_aloneSaid Q) := by
  refine wp_iconst (0 : Int32) dX9_aloneSaid_0 ic_0 rfl ?_
  refine wp_istore_n (L' := [some (.ref 85), some (.int p1), some (.int (0 : Int32)), none]) dX9_aloneSaid_1 (by decide) rfl rfl rfl ?_
  refine wp_iconst (0 : Int32) dX9_aloneSaid_2 ic_0 rfl ?_
  refine wp_istore_n (L' := [some (.ref 85), some (.int p1), some (.int (0 : Int32)), some (.int (0 : Int32))]) dX9_aloneSaid_3 (by decide) rfl rfl rfl ?_
  have hB := wh_ok (A := A_X9_aloneSaid_4 g Q) (B := pI Q) (fun s t h hP => k_X9_aloneSaid_L4  h hP) h hP
  exact wm_mask (L' := [some (.ref 85), some (.int p1), some (.int (0 : Int32)), some (.int (0 : Int32))]) [true, true, true, true] rfl (hB)
theorem o_X9_aloneSaid {g : Gx}  {p1 : Int32} {m : Mem} {t : Int32 × Mem} (h : f_X9_aloneSaid p1 m = some t) : MxM g 3 mi_X9_aloneSaid [.ref 85, .int p1] m (qI t) := mx_of pn_X9 (Nat.le_of_ble_eq_true rfl) (k_X9_aloneSaid_E h ⟨rfl, rfl, rfl, rfl, rfl⟩)
noncomputable def f_X9_asSort  (p1 : Int32) (p2 : Int64) (m : Mem) : Option (Int64 × Mem) := if ¬ p1 = 0 then if ¬ p1 = (1 : Int32) then if ¬ p1 = (2 : Int32) then if ¬ p1 = (4 : Int32) then some (p2, m) else if (lg_cmp p2 (0 : Int64)) = 0 then some ((0 : Int64), m) else some ((1 : Int64), m) else some (p2.toInt32.toInt64, m) else some (p2.toInt32.toInt16.toInt32.toInt64, m) else some (p2.toInt32.toInt8.toInt32.toInt64, m)
theorem k_X9_asSort_E {g : Gx}  {p1 : Int32} {p2 : Int64} {Q : Qy} {m : Mem} {t : Int64 × Mem} (h : f_X9_asSort p1 p2 m = some t) (hP : pL Q t) : WpM g 1 mi_X9_asSort 0 [some (.int p1), some (.long p2), none] [] m (zM g mi_X9_asSort Q) := by
  refine wp_iload_n dX9_asSort_0 rfl rfl ?_
  refine wm_if_ne 11 dX9_asSort_1 rfl rfl h (fun h => ?_) (fun h => ?_)
  · refine wp_iload_n dX9_asSort_11 rfl rfl ?_
    refine wp_iconst (1 : Int32) dX9_asSort_12 ic_1 rfl ?_
    refine wm_icmp_ne 23 dX9_asSort_13 rfl rfl h (fun h => ?_) (fun h => ?_)
    · refine wp_iload_n dX9_asSort_23 rfl rfl ?_
      refine wp_iconst (2 : Int32) dX9_asSort_24 ic_2 rfl ?_
      refine wm_icmp_ne 34 dX9_asSort_25 rfl rfl h (fun h => ?_) (fun h => ?_)
      · refine wp_iload_n dX9_asSort_34 rfl rfl ?_
        refine wp_iconst (4 : Int32) dX9_asSort_35 ic_4 rfl ?_
        refine wm_icmp_ne 53 dX9_asSort_36 rfl rfl h (fun h => ?_) (fun h => ?_)
        · refine wp_lload_n dX9_asSort_53 rfl rfl ?_
          exact wm_lret dX9_asSort_54 rfl ⟨rfl, rfl⟩ h hP
        · refine wp_lload_n dX9_asSort_39 rfl rfl ?_
          refine wp_lconst (0 : Int64) dX9_asSort_40 rfl rfl ?_
          refine wp_lcmp dX9_asSort_41 rfl ?_
          refine wm_if_eq 49 dX9_asSort_42 rfl rfl h (fun h => ?_) (fun h => ?_)
          · refine wp_lconst (0 : Int64) dX9_asSort_49 rfl rfl ?_
            refine wp_goto 54 dX9_asSort_50 rfl ?_
            exact wm_lret dX9_asSort_54 rfl ⟨rfl, rfl⟩ h hP
          · refine wp_lconst (1 : Int64) dX9_asSort_45 rfl rfl ?_
            refine wp_goto 54 dX9_asSort_46 rfl ?_
            exact wm_lret dX9_asSort_54 rfl ⟨rfl, rfl⟩ h hP
      · refine wp_lload_n dX9_asSort_28 rfl rfl ?_
        refine wp_l2i dX9_asSort_29 rfl ?_
        refine wp_i2l dX9_asSort_30 rfl ?_
        refine wp_goto 54 dX9_asSort_31 rfl ?_
        exact wm_lret dX9_asSort_54 rfl ⟨rfl, rfl⟩ h hP
    · refine wp_lload_n dX9_asSort_16 rfl rfl ?_
      refine wp_l2i dX9_asSort_17 rfl ?_
      refine wp_i2s dX9_asSort_18 rfl ?_
      refine wp_i2l dX9_asSort_19 rfl ?_
      refine wp_goto 54 dX9_asSort_20 rfl ?_
      exact wm_lret dX9_asSort_54 rfl ⟨rfl, rfl⟩ h hP
  · refine wp_lload_n dX9_asSort_4 rfl rfl ?_
    refine wp_l2i dX9_asSort_5 rfl ?_
    refine wp_i2b dX9_asSort_6 rfl ?_
    refine wp_i2l dX9_asSort_7 rfl ?_
    refine wp_goto 54 dX9_asSort_8 rfl ?_
    exact wm_lret dX9_asSort_54 rfl ⟨rfl, rfl⟩ h hP
theorem o_X9_asSort {g : Gx}  {p1 : Int32} {p2 : Int64} {m : Mem} {t : Int64 × Mem} (h : f_X9_asSort p1 p2 m = some t) : MxM g 1 mi_X9_asSort [.int p1, .long p2] m (qL t) := mx_of pn_X9 (Nat.le_of_ble_eq_true rfl) (k_X9_asSort_E h ⟨rfl, rfl, rfl, rfl, rfl⟩)
noncomputable def f_X9_becomes_J97  (v1 : Int32) (v2 : Int32) (v3 : Int32) (m : Mem) : Option (Int32 × Mem) := ck (gI m 85 5) 40 (bnd (sI m 87 (ix (gI m 85 5)) v1) (fun m2 => ck (gI m2 85 5) 40 (bnd (sI m2 88 (ix (gI m2 85 5)) v3) (fun m3 => ck (gI m3 85 5) 40 (bnd (sI m3 89 (ix (gI m3 85 5)) v2) (fun m4 => bnd (sI m4 85 5 ((gI m4 85 5) + (1 : Int32))) (fun m5 => bnd (sI m5 85 4 (gI m5 85 5)) (fun m6 => ck v1 42 (bnd (sI m6 86 (ix v1) v2) (fun m7 => some (v3, m7)))))))))))
theorem k_X9_becomes_J97 {g : Gx}  {v1 : Int32} {v2 : Int32} {v3 : Int32}  {Q : Qy} {m : Mem} {t : Int32 × Mem} (h : f_X9_becomes_J97 v1 v2 v3 m = some t) (hP : pI Q t) : WpM g 1 mi_X9_becomes 97 [some (.ref 85), some (.int v1), some (.int v2), some (.int v3), none] [] m (zM g mi_X9_becomes Q) := by
  refine wp_aload_n dX9_becomes_97 rfl rfl ?_
  refine wm_getR dX9_becomes_98 s_85 fk_X9_13 rfl r_85_1 rfl ?_
  refine wp_aload_n dX9_becomes_101 rfl rfl ?_
  refine wm_getI dX9_becomes_102 s_85 fk_X9_153 rfl rfl ?_
  refine wp_iload_n dX9_becomes_105 rfl rfl ?_
  refine wm_iast dX9_becomes_106 s_87 rfl h (fun m2 h => ?_)
  refine wp_aload_n dX9_becomes_107 rfl rfl ?_
  refine wm_getR dX9_becomes_108 s_85 fk_X9_16 rfl r_85_2 rfl ?_
  refine wp_aload_n dX9_becomes_111 rfl rfl ?_
  refine wm_getI dX9_becomes_112 s_85 fk_X9_153 rfl rfl ?_
  refine wp_iload_n dX9_becomes_115 rfl rfl ?_
  refine wm_iast dX9_becomes_116 s_88 rfl h (fun m3 h => ?_)
  refine wp_aload_n dX9_becomes_117 rfl rfl ?_
  refine wm_getR dX9_becomes_118 s_85 fk_X9_19 rfl r_85_3 rfl ?_
  refine wp_aload_n dX9_becomes_121 rfl rfl ?_
  refine wm_getI dX9_becomes_122 s_85 fk_X9_153 rfl rfl ?_
  refine wp_iload_n dX9_becomes_125 rfl rfl ?_
  refine wm_iast dX9_becomes_126 s_89 rfl h (fun m4 h => ?_)
  refine wp_aload_n dX9_becomes_127 rfl rfl ?_
  refine wp_dup dX9_becomes_128 rfl rfl ?_
  refine wm_getI dX9_becomes_129 s_85 fk_X9_153 rfl rfl ?_
  refine wp_iconst (1 : Int32) dX9_becomes_132 ic_1 rfl ?_
  refine wp_iadd dX9_becomes_133 rfl ?_
  refine wm_putI dX9_becomes_134 s_85 fk_X9_153 rfl rfl h (fun m5 h => ?_)
  refine wp_aload_n dX9_becomes_137 rfl rfl ?_
  refine wp_aload_n dX9_becomes_138 rfl rfl ?_
  refine wm_getI dX9_becomes_139 s_85 fk_X9_153 rfl rfl ?_
  refine wm_putI dX9_becomes_142 s_85 fk_X9_156 rfl rfl h (fun m6 h => ?_)
  refine wp_aload_n dX9_becomes_145 rfl rfl ?_
  refine wm_getR dX9_becomes_146 s_85 fk_X9_9 rfl r_85_0 rfl ?_
  refine wp_iload_n dX9_becomes_149 rfl rfl ?_
  refine wp_iload_n dX9_becomes_150 rfl rfl ?_
  refine wm_iast dX9_becomes_151 s_86 rfl h (fun m7 h => ?_)
  refine wp_iload_n dX9_becomes_152 rfl rfl ?_
  exact wm_iret dX9_becomes_153 rfl ⟨rfl, rfl⟩ h hP
abbrev A_X9_becomes_26 (g : Gx)  (Q : Qy) (s : Int32 × Int32 × Int32 × Int32 × Mem) : Prop := WpM g 1 mi_X9_becomes 26 [some (.ref 85), some (.int s.1), some (.int s.2.1), some (.int s.2.2.1), some (.int s.2.2.2.1)] [] s.2.2.2.2 (zM g mi_X9_becomes Q)
abbrev P_X9_becomes_26 (g : Gx)  (Q : Qy) : ((Int32 × Int32 × Int32 × Int32 × Mem) ⊕ (Int32 × Mem)) → Prop := pS (A_X9_becomes_26 g Q) (pI Q)
noncomputable def f_X9_becomes_L26  (s : Int32 × Int32 × Int32 × Int32 × Mem) : Option ((Int32 × Int32 × Int32 × Int32 × Mem) ⊕ (Int32 × Mem)) := if (40 : Int32) ≤ s.2.2.2.1 then up (bnd (sI s.2.2.2.2 85 5 ((gI s.2.2.2.2 85 5) - (1 : Int32))) (fun m8 => f_X9_becomes_J97 s.1 s.2.1 s.2.2.1 m8)) else ck s.2.2.2.1 40 (ck (s.2.2.2.1 - (1 : Int32)) 40 (bnd (sI s.2.2.2.2 87 (ix (s.2.2.2.1 - (1 : Int32))) (gI s.2.2.2.2 87 (ix s.2.2.2.1))) (fun m9 => ck s.2.2.2.1 40 (ck (s.2.2.2.1 - (1 : Int32)) 40 (bnd (sI m9 88 (ix (s.2.2.2.1 - (1 : Int32))) (gI m9 88 (ix s.2.2.2.1))) (fun m10 => ck s.2.2.2.1 40 (ck (s.2.2.2.1 - (1 : Int32)) 40 (bnd (sI m10 89 (ix (s.2.2.2.1 - (1 : Int32))) (gI m10 89 (ix s.2.2.2.1))) (fun m11 => bnd (s.2.2.2.1 + (1 : Int32)) (fun y12 => some (Sum.inl (s.1, s.2.1, s.2.2.1, y12, m11))))))))))))
theorem k_X9_becomes_L26 {g : Gx}  {Q : Qy} {s : Int32 × Int32 × Int32 × Int32 × Mem} {t : (Int32 × Int32 × Int32 × Int32 × Mem) ⊕ (Int32 × Mem)} (h : f_X9_becomes_L26 s = some t) (hP : P_X9_becomes_26 g Q t) : A_X9_becomes_26 g Q s := by
  refine wp_iload dX9_becomes_26 rfl rfl ?_
  refine wp_bipush (40 : Int32) dX9_becomes_28 ib_40 rfl ?_
  refine wm_icmp_ge 87 dX9_becomes_30 rfl rfl h (fun h => ?_) (fun h => ?_)
  · refine wm_up h hP (fun r h hP => ?_)
    refine wp_aload_n dX9_becomes_87 rfl rfl ?_
    refine wp_dup dX9_becomes_88 rfl rfl ?_
    refine wm_getI dX9_becomes_89 s_85 fk_X9_153 rfl rfl ?_
    refine wp_iconst (1 : Int32) dX9_becomes_92 ic_1 rfl ?_
    refine wp_isub dX9_becomes_93 rfl ?_
    refine wm_putI dX9_becomes_94 s_85 fk_X9_153 rfl rfl h (fun m8 h => ?_)
    exact wm_mask (L' := [some (.ref 85), some (.int s.1), some (.int s.2.1), some (.int s.2.2.1), none]) [true, true, true, true, false] rfl (k_X9_becomes_J97  h hP)
  · refine wp_aload_n dX9_becomes_33 rfl rfl ?_
    refine wm_getR dX9_becomes_34 s_85 fk_X9_13 rfl r_85_1 rfl ?_
    refine wp_iload dX9_becomes_37 rfl rfl ?_
    refine wp_iconst (1 : Int32) dX9_becomes_39 ic_1 rfl ?_
    refine wp_isub dX9_becomes_40 rfl ?_
    refine wp_aload_n dX9_becomes_41 rfl rfl ?_
    refine wm_getR dX9_becomes_42 s_85 fk_X9_13 rfl r_85_1 rfl ?_
    refine wp_iload dX9_becomes_45 rfl rfl ?_
    refine wm_iald dX9_becomes_47 s_87 rfl h (fun h => ?_)
    refine wm_iast dX9_becomes_48 s_87 rfl h (fun m9 h => ?_)
    refine wp_aload_n dX9_becomes_49 rfl rfl ?_
    refine wm_getR dX9_becomes_50 s_85 fk_X9_16 rfl r_85_2 rfl ?_
    refine wp_iload dX9_becomes_53 rfl rfl ?_
    refine wp_iconst (1 : Int32) dX9_becomes_55 ic_1 rfl ?_
    refine wp_isub dX9_becomes_56 rfl ?_
    refine wp_aload_n dX9_becomes_57 rfl rfl ?_
    refine wm_getR dX9_becomes_58 s_85 fk_X9_16 rfl r_85_2 rfl ?_
    refine wp_iload dX9_becomes_61 rfl rfl ?_
    refine wm_iald dX9_becomes_63 s_88 rfl h (fun h => ?_)
    refine wm_iast dX9_becomes_64 s_88 rfl h (fun m10 h => ?_)
    refine wp_aload_n dX9_becomes_65 rfl rfl ?_
    refine wm_getR dX9_becomes_66 s_85 fk_X9_19 rfl r_85_3 rfl ?_
    refine wp_iload dX9_becomes_69 rfl rfl ?_
    refine wp_iconst (1 : Int32) dX9_becomes_71 ic_1 rfl ?_
    refine wp_isub dX9_becomes_72 rfl ?_
    refine wp_aload_n dX9_becomes_73 rfl rfl ?_
    refine wm_getR dX9_becomes_74 s_85 fk_X9_19 rfl r_85_3 rfl ?_
    refine wp_iload dX9_becomes_77 rfl rfl ?_
    refine wm_iald dX9_becomes_79 s_89 rfl h (fun h => ?_)
    refine wm_iast dX9_becomes_80 s_89 rfl h (fun m11 h => ?_)
    refine wm_inc dX9_becomes_81 rfl ii_1 (by decide) rfl rfl h (fun y12 h => ?_)
    refine wm_list (L' := [some (.ref 85), some (.int s.1), some (.int s.2.1), some (.int s.2.2.1), some (.int y12)]) rfl ?_
    refine wp_goto 26 dX9_becomes_84 rfl ?_
    have hB := wm_back h hP
    exact wm_mask (L' := [some (.ref 85), some (.int s.1), some (.int s.2.1), some (.int s.2.2.1), some (.int y12)]) [true, true, true, true, true] rfl (hB)
noncomputable def f_X9_becomes  (p1 : Int32) (p2 : Int32) (m : Mem) : Option (Int32 × Mem) := ck p1 42 (bnd (gI m 86 (ix p1)) (fun y1 => if ¬ y1 = p2 then if ¬ (gI m 85 5) = (40 : Int32) then f_X9_becomes_J97 p1 p2 y1 m else wh (f_X9_becomes_L26) (p1, p2, y1, (1 : Int32), m) else some (y1, m)))
theorem k_X9_becomes_E {g : Gx}  {p1 : Int32} {p2 : Int32} {Q : Qy} {m : Mem} {t : Int32 × Mem} (h : f_X9_becomes p1 p2 m = some t) (hP : pI Q t) : WpM g 1 mi_X9_becomes 0 [some (.ref 85), some (.int p1), some (.int p2), none, none] [] m (zM g mi_X9_becomes Q) := by
  refine wp_aload_n dX9_becomes_0 rfl rfl ?_
  refine wm_getR dX9_becomes_1 s_85 fk_X9_9 rfl r_85_0 rfl ?_
  refine wp_iload_n dX9_becomes_4 rfl rfl ?_
  refine wm_iald dX9_becomes_5 s_86 rfl h (fun h => ?_)
  refine wm_nm h (fun y1 h => ?_)
  refine wp_istore_n (L' := [some (.ref 85), some (.int p1), some (.int p2), some (.int y1), none]) dX9_becomes_6 (by decide) rfl rfl rfl ?_
  refine wp_iload_n dX9_becomes_7 rfl rfl ?_
  refine wp_iload_n dX9_becomes_8 rfl rfl ?_
  refine wm_icmp_ne 14 dX9_becomes_9 rfl rfl h (fun h => ?_) (fun h => ?_)
  · refine wp_aload_n dX9_becomes_14 rfl rfl ?_
    refine wm_getI dX9_becomes_15 s_85 fk_X9_153 rfl rfl ?_
    refine wp_bipush (40 : Int32) dX9_becomes_18 ib_40 rfl ?_
    refine wm_icmp_ne 97 dX9_becomes_20 rfl rfl h (fun h => ?_) (fun h => ?_)
    · exact wm_mask (L' := [some (.ref 85), some (.int p1), some (.int p2), some (.int y1), none]) [true, true, true, true, false] rfl (k_X9_becomes_J97  h hP)
    · refine wp_iconst (1 : Int32) dX9_becomes_23 ic_1 rfl ?_
      refine wp_istore (L' := [some (.ref 85), some (.int p1), some (.int p2), some (.int y1), some (.int (1 : Int32))]) dX9_becomes_24 (by decide) rfl rfl rfl ?_
      have hB := wh_ok (A := A_X9_becomes_26 g Q) (B := pI Q) (fun s t h hP => k_X9_becomes_L26  h hP) h hP
      exact wm_mask (L' := [some (.ref 85), some (.int p1), some (.int p2), some (.int y1), some (.int (1 : Int32))]) [true, true, true, true, true] rfl (hB)
  · refine wp_iload_n dX9_becomes_12 rfl rfl ?_
    exact wm_iret dX9_becomes_13 rfl ⟨rfl, rfl⟩ h hP
theorem o_X9_becomes {g : Gx}  {p1 : Int32} {p2 : Int32} {m : Mem} {t : Int32 × Mem} (h : f_X9_becomes p1 p2 m = some t) : MxM g 1 mi_X9_becomes [.ref 85, .int p1, .int p2] m (qI t) := mx_of pn_X9 (Nat.le_of_ble_eq_true rfl) (k_X9_becomes_E h ⟨rfl, rfl, rfl, rfl, rfl⟩)
noncomputable def f_X9_bestTold  (p1 : Int32) (m : Mem) : Option (Int32 × Mem) := if ¬ p1 = 0 then if ¬ p1 = (1 : Int32) then some ((gI m 85 65), m) else some ((gI m 85 64), m) else some ((gI m 85 63), m)
theorem k_X9_bestTold_E {g : Gx}  {p1 : Int32} {Q : Qy} {m : Mem} {t : Int32 × Mem} (h : f_X9_bestTold p1 m = some t) (hP : pI Q t) : WpM g 1 mi_X9_bestTold 0 [some (.ref 85), some (.int p1)] [] m (zM g mi_X9_bestTold Q) := by
  refine wp_iload_n dX9_bestTold_0 rfl rfl ?_
  refine wm_if_ne 11 dX9_bestTold_1 rfl rfl h (fun h => ?_) (fun h => ?_)
  · refine wp_iload_n dX9_bestTold_11 rfl rfl ?_
    refine wp_iconst (1 : Int32) dX9_bestTold_12 ic_1 rfl ?_
    refine wm_icmp_ne 23 dX9_bestTold_13 rfl rfl h (fun h => ?_) (fun h => ?_)
    · refine wp_aload_n dX9_bestTold_23 rfl rfl ?_
      refine wm_getI dX9_bestTold_24 s_85 fk_X9_430 rfl rfl ?_
      exact wm_iret dX9_bestTold_27 rfl ⟨rfl, rfl⟩ h hP
    · refine wp_aload_n dX9_bestTold_16 rfl rfl ?_
      refine wm_getI dX9_bestTold_17 s_85 fk_X9_427 rfl rfl ?_
      refine wp_goto 27 dX9_bestTold_20 rfl ?_
      exact wm_iret dX9_bestTold_27 rfl ⟨rfl, rfl⟩ h hP
  · refine wp_aload_n dX9_bestTold_4 rfl rfl ?_
    refine wm_getI dX9_bestTold_5 s_85 fk_X9_424 rfl rfl ?_
    refine wp_goto 27 dX9_bestTold_8 rfl ?_
    exact wm_iret dX9_bestTold_27 rfl ⟨rfl, rfl⟩ h hP
theorem o_X9_bestTold {g : Gx}  {p1 : Int32} {m : Mem} {t : Int32 × Mem} (h : f_X9_bestTold p1 m = some t) : MxM g 1 mi_X9_bestTold [.ref 85, .int p1] m (qI t) := mx_of pn_X9 (Nat.le_of_ble_eq_true rfl) (k_X9_bestTold_E h ⟨rfl, rfl, rfl, rfl, rfl⟩)
noncomputable def f_X9_body  (p1 : Int32) (m : Mem) : Option (Int32 × Mem) := (f_X9_within p1.toInt64 (0 : Int64) (7 : Int64) m).bind (fun q1 => if ¬ q1.1 = 0 then if ¬ (gI q1.2 85 66) = (50 : Int32) then ck (gI q1.2 85 66) 50 (bnd (sI q1.2 124 (ix (gI q1.2 85 66)) p1) (fun m2 => bnd (sI m2 85 66 ((gI m2 85 66) + (1 : Int32))) (fun m3 => some (((gI m3 85 66) - (1 : Int32)), m3)))) else some ((-3 : Int32), q1.2) else some ((-1 : Int32), q1.2))
theorem k_X9_body_E {g : Gx}  {p1 : Int32} {Q : Qy} {m : Mem} {t : Int32 × Mem} (h : f_X9_body p1 m = some t) (hP : pI Q t) : WpM g 2 mi_X9_body 0 [some (.ref 85), some (.int p1)] [] m (zM g mi_X9_body Q) := by
  refine wp_iload_n dX9_body_0 rfl rfl ?_
  refine wp_i2l dX9_body_1 rfl ?_
  refine wp_lconst (0 : Int64) dX9_body_2 rfl rfl ?_
  refine wp_ldc2 dX9_body_3 q1714 rfl ?_
  refine wm_callSI (As := [.long p1.toInt64, .long (0 : Int64), .long (7 : Int64)]) (rest := []) dX9_body_6 ok_X9_162 (by decide) rfl (Nat.le_of_ble_eq_true rfl) ⟨rfl, rfl⟩ rfl (fun t h => o_X9_within h) h (fun q1 h => ?_)
  refine wm_if_ne 14 dX9_body_9 rfl rfl h (fun h => ?_) (fun h => ?_)
  · refine wp_aload_n dX9_body_14 rfl rfl ?_
    refine wm_getI dX9_body_15 s_85 fk_X9_444 rfl rfl ?_
    refine wp_bipush (50 : Int32) dX9_body_18 ib_50 rfl ?_
    refine wm_icmp_ne 26 dX9_body_20 rfl rfl h (fun h => ?_) (fun h => ?_)
    · refine wp_aload_n dX9_body_26 rfl rfl ?_
      refine wm_getR dX9_body_27 s_85 fk_X9_124 rfl r_85_67 rfl ?_
      refine wp_aload_n dX9_body_30 rfl rfl ?_
      refine wm_getI dX9_body_31 s_85 fk_X9_444 rfl rfl ?_
      refine wp_iload_n dX9_body_34 rfl rfl ?_
      refine wm_iast dX9_body_35 s_124 rfl h (fun m2 h => ?_)
      refine wp_aload_n dX9_body_36 rfl rfl ?_
      refine wp_dup dX9_body_37 rfl rfl ?_
      refine wm_getI dX9_body_38 s_85 fk_X9_444 rfl rfl ?_
      refine wp_iconst (1 : Int32) dX9_body_41 ic_1 rfl ?_
      refine wp_iadd dX9_body_42 rfl ?_
      refine wm_putI dX9_body_43 s_85 fk_X9_444 rfl rfl h (fun m3 h => ?_)
      refine wp_aload_n dX9_body_46 rfl rfl ?_
      refine wm_getI dX9_body_47 s_85 fk_X9_444 rfl rfl ?_
      refine wp_iconst (1 : Int32) dX9_body_50 ic_1 rfl ?_
      refine wp_isub dX9_body_51 rfl ?_
      exact wm_iret dX9_body_52 rfl ⟨rfl, rfl⟩ h hP
    · refine wp_bipush (-3 : Int32) dX9_body_23 ib_m3 rfl ?_
      exact wm_iret dX9_body_25 rfl ⟨rfl, rfl⟩ h hP
  · refine wp_iconst (-1 : Int32) dX9_body_12 ic_m1 rfl ?_
    exact wm_iret dX9_body_13 rfl ⟨rfl, rfl⟩ h hP
theorem o_X9_body {g : Gx}  {p1 : Int32} {m : Mem} {t : Int32 × Mem} (h : f_X9_body p1 m = some t) : MxM g 2 mi_X9_body [.ref 85, .int p1] m (qI t) := mx_of pn_X9 (Nat.le_of_ble_eq_true rfl) (k_X9_body_E h ⟨rfl, rfl, rfl, rfl, rfl⟩)
noncomputable def f_X9_byteAt   (m : Mem) : Option (Int32 × Mem) := if (gI m 85 22) ≤ (gI m 85 21) then some ((0 : Int32), m) else if 0 ≤ (gI m 85 20) then ck ((gI m 85 20) + (gI m 85 21)) 120 (some ((gI m 95 (ix ((gI m 85 20) + (gI m 85 21)))), m)) else ck (gI m 85 21) 120 (some ((gI m 94 (ix (gI m 85 21))), m))
theorem k_X9_byteAt_E {g : Gx}   {Q : Qy} {m : Mem} {t : Int32 × Mem} (h : f_X9_byteAt m = some t) (hP : pI Q t) : WpM g 1 mi_X9_byteAt 0 [some (.ref 85)] [] m (zM g mi_X9_byteAt Q) := by
  refine wp_aload_n dX9_byteAt_0 rfl rfl ?_
  refine wm_getI dX9_byteAt_1 s_85 fk_X9_230 rfl rfl ?_
  refine wp_aload_n dX9_byteAt_4 rfl rfl ?_
  refine wm_getI dX9_byteAt_5 s_85 fk_X9_233 rfl rfl ?_
  refine wm_icmp_ge 47 dX9_byteAt_8 rfl rfl h (fun h => ?_) (fun h => ?_)
  · refine wp_iconst (0 : Int32) dX9_byteAt_47 ic_0 rfl ?_
    exact wm_iret dX9_byteAt_48 rfl ⟨rfl, rfl⟩ h hP
  · refine wp_aload_n dX9_byteAt_11 rfl rfl ?_
    refine wm_getI dX9_byteAt_12 s_85 fk_X9_236 rfl rfl ?_
    refine wm_if_ge 30 dX9_byteAt_15 rfl rfl h (fun h => ?_) (fun h => ?_)
    · refine wp_aload_n dX9_byteAt_30 rfl rfl ?_
      refine wm_getR dX9_byteAt_31 s_85 fk_X9_37 rfl r_85_18 rfl ?_
      refine wp_aload_n dX9_byteAt_34 rfl rfl ?_
      refine wm_getI dX9_byteAt_35 s_85 fk_X9_236 rfl rfl ?_
      refine wp_aload_n dX9_byteAt_38 rfl rfl ?_
      refine wm_getI dX9_byteAt_39 s_85 fk_X9_230 rfl rfl ?_
      refine wp_iadd dX9_byteAt_42 rfl ?_
      refine wm_iald dX9_byteAt_43 s_95 rfl h (fun h => ?_)
      refine wp_goto 48 dX9_byteAt_44 rfl ?_
      exact wm_iret dX9_byteAt_48 rfl ⟨rfl, rfl⟩ h hP
    · refine wp_aload_n dX9_byteAt_18 rfl rfl ?_
      refine wm_getR dX9_byteAt_19 s_85 fk_X9_34 rfl r_85_16 rfl ?_
      refine wp_aload_n dX9_byteAt_22 rfl rfl ?_
      refine wm_getI dX9_byteAt_23 s_85 fk_X9_230 rfl rfl ?_
      refine wm_iald dX9_byteAt_26 s_94 rfl h (fun h => ?_)
      refine wp_goto 48 dX9_byteAt_27 rfl ?_
      exact wm_iret dX9_byteAt_48 rfl ⟨rfl, rfl⟩ h hP
theorem o_X9_byteAt {g : Gx}   {m : Mem} {t : Int32 × Mem} (h : f_X9_byteAt m = some t) : MxM g 1 mi_X9_byteAt [.ref 85] m (qI t) := mx_of pn_X9 (Nat.le_of_ble_eq_true rfl) (k_X9_byteAt_E h ⟨rfl, rfl, rfl, rfl, rfl⟩)
abbrev A_X9_product_10 (g : Gx) (d0 : Nat) (Q : Qy) (s : Int32 × Int32 × Mem) : Prop := WpM g (d0 + 2) mi_X9_product 10 [some (.ref 85), some (.int s.1), some (.int s.2.1), none] [] s.2.2 (zM g mi_X9_product Q)
abbrev P_X9_product_10 (g : Gx) (d0 : Nat) (Q : Qy) : ((Int32 × Int32 × Mem) ⊕ (Int32 × Mem)) → Prop := pS (A_X9_product_10 g d0 Q) (pI Q)
noncomputable def f_X9_product_J35 (rc : Mem → Option (Int32 × Mem)) (v1 : Int32) (v2 : Int32) (m : Mem) : Option ((Int32 × Int32 × Mem) ⊕ (Int32 × Mem)) := bnd (sI m 85 21 ((gI m 85 21) + (1 : Int32))) (fun m3 => (rc m3).bind (fun q4 => if ¬ v2 = (42 : Int32) then if ¬ q4.1 = 0 then if ¬ v2 = (47 : Int32) then dv q4.1 (bnd (v1 - v1 / q4.1 * q4.1) (fun y5 => (f_X9_byteAt q4.2).bind (fun q6 => some (Sum.inl (y5, q6.1, q6.2))))) else dv q4.1 (bnd (v1 / q4.1) (fun y7 => (f_X9_byteAt q4.2).bind (fun q8 => some (Sum.inl (y7, q8.1, q8.2))))) else (f_X9_byteAt q4.2).bind (fun q9 => some (Sum.inl ((0 : Int32), q9.1, q9.2))) else bnd (v1 * q4.1) (fun y10 => (f_X9_byteAt q4.2).bind (fun q11 => some (Sum.inl (y10, q11.1, q11.2))))))
theorem k_X9_product_J35 {g : Gx} {d0 : Nat} {rc : Mem → Option (Int32 × Mem)} (hrc : ∀ m t, rc m = some t → MxM g d0 mi_X9_one [.ref 85] m (qI t)) {v1 : Int32} {v2 : Int32}  {Q : Qy} {m : Mem} {t : (Int32 × Int32 × Mem) ⊕ (Int32 × Mem)} (h : f_X9_product_J35 rc v1 v2 m = some t) (hP : P_X9_product_10 g d0 Q t) : WpM g (d0 + 2) mi_X9_product 35 [some (.ref 85), some (.int v1), some (.int v2), none] [] m (zM g mi_X9_product Q) := by
  refine wp_aload_n dX9_product_35 rfl rfl ?_
  refine wp_dup dX9_product_36 rfl rfl ?_
  refine wm_getI dX9_product_37 s_85 fk_X9_230 rfl rfl ?_
  refine wp_iconst (1 : Int32) dX9_product_40 ic_1 rfl ?_
  refine wp_iadd dX9_product_41 rfl ?_
  refine wm_putI dX9_product_42 s_85 fk_X9_230 rfl rfl h (fun m3 h => ?_)
  refine wp_aload_n dX9_product_45 rfl rfl ?_
  refine wm_callVI (As := []) (rest := []) dX9_product_46 ok_X9_261 (by omega) rfl s_85 ⟨_, rfl⟩ (Nat.le_of_ble_eq_true rfl) ⟨rfl, rfl⟩ rfl (hrc _) h (fun q4 h => ?_)
  refine wp_istore_n (L' := [some (.ref 85), some (.int v1), some (.int v2), some (.int q4.1)]) dX9_product_49 (by decide) rfl rfl rfl ?_
  refine wp_iload_n dX9_product_50 rfl rfl ?_
  refine wp_bipush (42 : Int32) dX9_product_51 ib_42 rfl ?_
  refine wm_icmp_ne 62 dX9_product_53 rfl rfl h (fun h => ?_) (fun h => ?_)
  · refine wp_iload_n dX9_product_62 rfl rfl ?_
    refine wm_if_ne 70 dX9_product_63 rfl rfl h (fun h => ?_) (fun h => ?_)
    · refine wp_iload_n dX9_product_70 rfl rfl ?_
      refine wp_bipush (47 : Int32) dX9_product_71 ib_47 rfl ?_
      refine wm_icmp_ne 82 dX9_product_73 rfl rfl h (fun h => ?_) (fun h => ?_)
      · refine wp_iload_n dX9_product_82 rfl rfl ?_
        refine wp_iload_n dX9_product_83 rfl rfl ?_
        refine wm_irem dX9_product_84 rfl h (fun h => ?_)
        refine wm_nm h (fun y5 h => ?_)
        refine wp_istore_n (L' := [some (.ref 85), some (.int y5), some (.int v2), some (.int q4.1)]) dX9_product_85 (by decide) rfl rfl rfl ?_
        refine wp_aload_n dX9_product_86 rfl rfl ?_
        refine wm_callVI (As := []) (rest := []) dX9_product_87 ok_X9_242 (by omega) rfl s_85 ⟨_, rfl⟩ (Nat.le_of_ble_eq_true rfl) ⟨rfl, rfl⟩ rfl (fun t h => o_X9_byteAt h) h (fun q6 h => ?_)
        refine wp_istore_n (L' := [some (.ref 85), some (.int y5), some (.int q6.1), some (.int q4.1)]) dX9_product_90 (by decide) rfl rfl rfl ?_
        refine wp_goto 10 dX9_product_91 rfl ?_
        have hB := wm_back h hP
        exact wm_mask (L' := [some (.ref 85), some (.int y5), some (.int q6.1), none]) [true, true, true, false] rfl (hB)
      · refine wp_iload_n dX9_product_76 rfl rfl ?_
        refine wp_iload_n dX9_product_77 rfl rfl ?_
        refine wm_idiv dX9_product_78 rfl h (fun h => ?_)
        refine wp_goto 85 dX9_product_79 rfl ?_
        refine wm_nm h (fun y7 h => ?_)
        refine wp_istore_n (L' := [some (.ref 85), some (.int y7), some (.int v2), some (.int q4.1)]) dX9_product_85 (by decide) rfl rfl rfl ?_
        refine wp_aload_n dX9_product_86 rfl rfl ?_
        refine wm_callVI (As := []) (rest := []) dX9_product_87 ok_X9_242 (by omega) rfl s_85 ⟨_, rfl⟩ (Nat.le_of_ble_eq_true rfl) ⟨rfl, rfl⟩ rfl (fun t h => o_X9_byteAt h) h (fun q8 h => ?_)
        refine wp_istore_n (L' := [some (.ref 85), some (.int y7), some (.int q8.1), some (.int q4.1)]) dX9_product_90 (by decide) rfl rfl rfl ?_
        refine wp_goto 10 dX9_product_91 rfl ?_
        have hB := wm_back h hP
        exact wm_mask (L' := [some (.ref 85), some (.int y7), some (.int q8.1), none]) [true, true, true, false] rfl (hB)
    · refine wp_iconst (0 : Int32) dX9_product_66 ic_0 rfl ?_
      refine wp_goto 85 dX9_product_67 rfl ?_
      refine wp_istore_n (L' := [some (.ref 85), some (.int (0 : Int32)), some (.int v2), some (.int q4.1)]) dX9_product_85 (by decide) rfl rfl rfl ?_
      refine wp_aload_n dX9_product_86 rfl rfl ?_
      refine wm_callVI (As := []) (rest := []) dX9_product_87 ok_X9_242 (by omega) rfl s_85 ⟨_, rfl⟩ (Nat.le_of_ble_eq_true rfl) ⟨rfl, rfl⟩ rfl (fun t h => o_X9_byteAt h) h (fun q9 h => ?_)
      refine wp_istore_n (L' := [some (.ref 85), some (.int (0 : Int32)), some (.int q9.1), some (.int q4.1)]) dX9_product_90 (by decide) rfl rfl rfl ?_
      refine wp_goto 10 dX9_product_91 rfl ?_
      have hB := wm_back h hP
      exact wm_mask (L' := [some (.ref 85), some (.int (0 : Int32)), some (.int q9.1), none]) [true, true, true, false] rfl (hB)
  · refine wp_iload_n dX9_product_56 rfl rfl ?_
    refine wp_iload_n dX9_product_57 rfl rfl ?_
    refine wp_imul dX9_product_58 rfl ?_
    refine wp_goto 85 dX9_product_59 rfl ?_
    refine wm_nm h (fun y10 h => ?_)
    refine wp_istore_n (L' := [some (.ref 85), some (.int y10), some (.int v2), some (.int q4.1)]) dX9_product_85 (by decide) rfl rfl rfl ?_
    refine wp_aload_n dX9_product_86 rfl rfl ?_
    refine wm_callVI (As := []) (rest := []) dX9_product_87 ok_X9_242 (by omega) rfl s_85 ⟨_, rfl⟩ (Nat.le_of_ble_eq_true rfl) ⟨rfl, rfl⟩ rfl (fun t h => o_X9_byteAt h) h (fun q11 h => ?_)
    refine wp_istore_n (L' := [some (.ref 85), some (.int y10), some (.int q11.1), some (.int q4.1)]) dX9_product_90 (by decide) rfl rfl rfl ?_
    refine wp_goto 10 dX9_product_91 rfl ?_
    have hB := wm_back h hP
    exact wm_mask (L' := [some (.ref 85), some (.int y10), some (.int q11.1), none]) [true, true, true, false] rfl (hB)
noncomputable def f_X9_product_L10 (rc : Mem → Option (Int32 × Mem)) (s : Int32 × Int32 × Mem) : Option ((Int32 × Int32 × Mem) ⊕ (Int32 × Mem)) := if 0 ≤ (gI s.2.2 85 23) then up (some (s.1, s.2.2)) else if s.2.1 = (42 : Int32) then f_X9_product_J35 rc s.1 s.2.1 s.2.2 else if s.2.1 = (47 : Int32) then f_X9_product_J35 rc s.1 s.2.1 s.2.2 else if ¬ s.2.1 = (37 : Int32) then up (some (s.1, s.2.2)) else f_X9_product_J35 rc s.1 s.2.1 s.2.2
theorem k_X9_product_L10 {g : Gx} {d0 : Nat} {rc : Mem → Option (Int32 × Mem)} (hrc : ∀ m t, rc m = some t → MxM g d0 mi_X9_one [.ref 85] m (qI t)) {Q : Qy} {s : Int32 × Int32 × Mem} {t : (Int32 × Int32 × Mem) ⊕ (Int32 × Mem)} (h : f_X9_product_L10 rc s = some t) (hP : P_X9_product_10 g d0 Q t) : A_X9_product_10 g d0 Q s := by
  refine wp_aload_n dX9_product_10 rfl rfl ?_
  refine wm_getI dX9_product_11 s_85 fk_X9_239 rfl rfl ?_
  refine wm_if_ge 94 dX9_product_14 rfl rfl h (fun h => ?_) (fun h => ?_)
  · refine wm_up h hP (fun r h hP => ?_)
    refine wp_iload_n dX9_product_94 rfl rfl ?_
    exact wm_iret dX9_product_95 rfl ⟨rfl, rfl⟩ h hP
  · refine wp_iload_n dX9_product_17 rfl rfl ?_
    refine wp_bipush (42 : Int32) dX9_product_18 ib_42 rfl ?_
    refine wm_icmp_eq 35 dX9_product_20 rfl rfl h (fun h => ?_) (fun h => ?_)
    · exact wm_mask (L' := [some (.ref 85), some (.int s.1), some (.int s.2.1), none]) [true, true, true, false] rfl (k_X9_product_J35 hrc h hP)
    · refine wp_iload_n dX9_product_23 rfl rfl ?_
      refine wp_bipush (47 : Int32) dX9_product_24 ib_47 rfl ?_
      refine wm_icmp_eq 35 dX9_product_26 rfl rfl h (fun h => ?_) (fun h => ?_)
      · exact wm_mask (L' := [some (.ref 85), some (.int s.1), some (.int s.2.1), none]) [true, true, true, false] rfl (k_X9_product_J35 hrc h hP)
      · refine wp_iload_n dX9_product_29 rfl rfl ?_
        refine wp_bipush (37 : Int32) dX9_product_30 ib_37 rfl ?_
        refine wm_icmp_ne 94 dX9_product_32 rfl rfl h (fun h => ?_) (fun h => ?_)
        · refine wm_up h hP (fun r h hP => ?_)
          refine wp_iload_n dX9_product_94 rfl rfl ?_
          exact wm_iret dX9_product_95 rfl ⟨rfl, rfl⟩ h hP
        · exact wm_mask (L' := [some (.ref 85), some (.int s.1), some (.int s.2.1), none]) [true, true, true, false] rfl (k_X9_product_J35 hrc h hP)
noncomputable def f_X9_product (rc : Mem → Option (Int32 × Mem))  (m : Mem) : Option (Int32 × Mem) := (rc m).bind (fun q1 => (f_X9_byteAt q1.2).bind (fun q2 => wh (f_X9_product_L10 rc) (q1.1, q2.1, q2.2)))
theorem k_X9_product_E {g : Gx} {d0 : Nat} {rc : Mem → Option (Int32 × Mem)} (hrc : ∀ m t, rc m = some t → MxM g d0 mi_X9_one [.ref 85] m (qI t))  {Q : Qy} {m : Mem} {t : Int32 × Mem} (h : f_X9_product rc m = some t) (hP : pI Q t) : WpM g (d0 + 2) mi_X9_product 0 [some (.ref 85), none, none, none] [] m (zM g mi_X9_product Q) := by
  refine wp_aload_n dX9_product_0 rfl rfl ?_
  refine wm_callVI (As := []) (rest := []) dX9_product_1 ok_X9_261 (by omega) rfl s_85 ⟨_, rfl⟩ (Nat.le_of_ble_eq_true rfl) ⟨rfl, rfl⟩ rfl (hrc _) h (fun q1 h => ?_)
  refine wp_istore_n (L' := [some (.ref 85), some (.int q1.1), none, none]) dX9_product_4 (by decide) rfl rfl rfl ?_
  refine wp_aload_n dX9_product_5 rfl rfl ?_
  refine wm_callVI (As := []) (rest := []) dX9_product_6 ok_X9_242 (by omega) rfl s_85 ⟨_, rfl⟩ (Nat.le_of_ble_eq_true rfl) ⟨rfl, rfl⟩ rfl (fun t h => o_X9_byteAt h) h (fun q2 h => ?_)
  refine wp_istore_n (L' := [some (.ref 85), some (.int q1.1), some (.int q2.1), none]) dX9_product_9 (by decide) rfl rfl rfl ?_
  have hB := wh_ok (A := A_X9_product_10 g d0 Q) (B := pI Q) (fun s t h hP => k_X9_product_L10 hrc h hP) h hP
  exact wm_mask (L' := [some (.ref 85), some (.int q1.1), some (.int q2.1), none]) [true, true, true, false] rfl (hB)
theorem o_X9_product {g : Gx} {d0 : Nat} {rc : Mem → Option (Int32 × Mem)} (hrc : ∀ m t, rc m = some t → MxM g d0 mi_X9_one [.ref 85] m (qI t))  {m : Mem} {t : Int32 × Mem} (h : f_X9_product rc m = some t) : MxM g (d0 + 2) mi_X9_product [.ref 85] m (qI t) := mx_of pn_X9 (Nat.le_of_ble_eq_true rfl) (k_X9_product_E hrc h ⟨rfl, rfl, rfl, rfl, rfl⟩)
abbrev A_X9_sums_5 (g : Gx) (d0 : Nat) (Q : Qy) (s : Int32 × Mem) : Prop := WpM g (d0 + 3) mi_X9_sums 5 [some (.ref 85), some (.int s.1), none, none] [] s.2 (zM g mi_X9_sums Q)
abbrev P_X9_sums_5 (g : Gx) (d0 : Nat) (Q : Qy) : ((Int32 × Mem) ⊕ (Int32 × Mem)) → Prop := pS (A_X9_sums_5 g d0 Q) (pI Q)
noncomputable def f_X9_sums_J44 (rc : Mem → Option (Int32 × Mem)) (v1 : Int32) (t0 : Int32) (m : Mem) : Option ((Int32 × Mem) ⊕ (Int32 × Mem)) := bnd (sI m 85 21 ((gI m 85 21) + (1 : Int32))) (fun m4 => (f_X9_product rc m4).bind (fun q5 => if t0 = 0 then bnd (v1 - q5.1) (fun y6 => some (Sum.inl (y6, q5.2))) else bnd (v1 + q5.1) (fun y7 => some (Sum.inl (y7, q5.2)))))
theorem k_X9_sums_J44 {g : Gx} {d0 : Nat} {rc : Mem → Option (Int32 × Mem)} (hrc : ∀ m t, rc m = some t → MxM g d0 mi_X9_one [.ref 85] m (qI t)) {v1 : Int32} {t0 : Int32}  {Q : Qy} {m : Mem} {t : (Int32 × Mem) ⊕ (Int32 × Mem)} (h : f_X9_sums_J44 rc v1 t0 m = some t) (hP : P_X9_sums_5 g d0 Q t) : WpM g (d0 + 3) mi_X9_sums 44 [some (.ref 85), some (.int v1), none, none] [.int t0] m (zM g mi_X9_sums Q) := by
  refine wp_istore_n (L' := [some (.ref 85), some (.int v1), some (.int t0), none]) dX9_sums_44 (by decide) rfl rfl rfl ?_
  refine wp_aload_n dX9_sums_45 rfl rfl ?_
  refine wp_dup dX9_sums_46 rfl rfl ?_
  refine wm_getI dX9_sums_47 s_85 fk_X9_230 rfl rfl ?_
  refine wp_iconst (1 : Int32) dX9_sums_50 ic_1 rfl ?_
  refine wp_iadd dX9_sums_51 rfl ?_
  refine wm_putI dX9_sums_52 s_85 fk_X9_230 rfl rfl h (fun m4 h => ?_)
  refine wp_aload_n dX9_sums_55 rfl rfl ?_
  refine wm_callVI (As := []) (rest := []) dX9_sums_56 ok_X9_258 (by omega) rfl s_85 ⟨_, rfl⟩ (Nat.le_of_ble_eq_true rfl) ⟨rfl, rfl⟩ rfl (fun t h => o_X9_product hrc h) h (fun q5 h => ?_)
  refine wp_istore_n (L' := [some (.ref 85), some (.int v1), some (.int t0), some (.int q5.1)]) dX9_sums_59 (by decide) rfl rfl rfl ?_
  refine wp_iload_n dX9_sums_60 rfl rfl ?_
  refine wm_if_eq 70 dX9_sums_61 rfl rfl h (fun h => ?_) (fun h => ?_)
  · refine wp_iload_n dX9_sums_70 rfl rfl ?_
    refine wp_iload_n dX9_sums_71 rfl rfl ?_
    refine wp_isub dX9_sums_72 rfl ?_
    refine wm_nm h (fun y6 h => ?_)
    refine wp_istore_n (L' := [some (.ref 85), some (.int y6), some (.int t0), some (.int q5.1)]) dX9_sums_73 (by decide) rfl rfl rfl ?_
    refine wp_goto 5 dX9_sums_74 rfl ?_
    have hB := wm_back h hP
    exact wm_mask (L' := [some (.ref 85), some (.int y6), none, none]) [true, true, false, false] rfl (hB)
  · refine wp_iload_n dX9_sums_64 rfl rfl ?_
    refine wp_iload_n dX9_sums_65 rfl rfl ?_
    refine wp_iadd dX9_sums_66 rfl ?_
    refine wp_goto 73 dX9_sums_67 rfl ?_
    refine wm_nm h (fun y7 h => ?_)
    refine wp_istore_n (L' := [some (.ref 85), some (.int y7), some (.int t0), some (.int q5.1)]) dX9_sums_73 (by decide) rfl rfl rfl ?_
    refine wp_goto 5 dX9_sums_74 rfl ?_
    have hB := wm_back h hP
    exact wm_mask (L' := [some (.ref 85), some (.int y7), none, none]) [true, true, false, false] rfl (hB)
noncomputable def f_X9_sums_J30 (rc : Mem → Option (Int32 × Mem)) (v1 : Int32) (m : Mem) : Option ((Int32 × Mem) ⊕ (Int32 × Mem)) := (f_X9_byteAt m).bind (fun q3 => if ¬ q3.1 = (43 : Int32) then f_X9_sums_J44 rc v1 (0 : Int32) q3.2 else f_X9_sums_J44 rc v1 (1 : Int32) q3.2)
theorem k_X9_sums_J30 {g : Gx} {d0 : Nat} {rc : Mem → Option (Int32 × Mem)} (hrc : ∀ m t, rc m = some t → MxM g d0 mi_X9_one [.ref 85] m (qI t)) {v1 : Int32}  {Q : Qy} {m : Mem} {t : (Int32 × Mem) ⊕ (Int32 × Mem)} (h : f_X9_sums_J30 rc v1 m = some t) (hP : P_X9_sums_5 g d0 Q t) : WpM g (d0 + 3) mi_X9_sums 30 [some (.ref 85), some (.int v1), none, none] [] m (zM g mi_X9_sums Q) := by
  refine wp_aload_n dX9_sums_30 rfl rfl ?_
  refine wm_callVI (As := []) (rest := []) dX9_sums_31 ok_X9_242 (by omega) rfl s_85 ⟨_, rfl⟩ (Nat.le_of_ble_eq_true rfl) ⟨rfl, rfl⟩ rfl (fun t h => o_X9_byteAt h) h (fun q3 h => ?_)
  refine wp_bipush (43 : Int32) dX9_sums_34 ib_43 rfl ?_
  refine wm_icmp_ne 43 dX9_sums_36 rfl rfl h (fun h => ?_) (fun h => ?_)
  · refine wp_iconst (0 : Int32) dX9_sums_43 ic_0 rfl ?_
    exact wm_mask (L' := [some (.ref 85), some (.int v1), none, none]) [true, true, false, false] rfl (k_X9_sums_J44 hrc h hP)
  · refine wp_iconst (1 : Int32) dX9_sums_39 ic_1 rfl ?_
    refine wp_goto 44 dX9_sums_40 rfl ?_
    exact wm_mask (L' := [some (.ref 85), some (.int v1), none, none]) [true, true, false, false] rfl (k_X9_sums_J44 hrc h hP)
noncomputable def f_X9_sums_L5 (rc : Mem → Option (Int32 × Mem)) (s : Int32 × Mem) : Option ((Int32 × Mem) ⊕ (Int32 × Mem)) := if 0 ≤ (gI s.2 85 23) then up (some (s.1, s.2)) else (f_X9_byteAt s.2).bind (fun q2 => if q2.1 = (43 : Int32) then f_X9_sums_J30 rc s.1 q2.2 else (f_X9_byteAt q2.2).bind (fun q8 => if ¬ q8.1 = (45 : Int32) then up (some (s.1, q8.2)) else f_X9_sums_J30 rc s.1 q8.2))
theorem k_X9_sums_L5 {g : Gx} {d0 : Nat} {rc : Mem → Option (Int32 × Mem)} (hrc : ∀ m t, rc m = some t → MxM g d0 mi_X9_one [.ref 85] m (qI t)) {Q : Qy} {s : Int32 × Mem} {t : (Int32 × Mem) ⊕ (Int32 × Mem)} (h : f_X9_sums_L5 rc s = some t) (hP : P_X9_sums_5 g d0 Q t) : A_X9_sums_5 g d0 Q s := by
  refine wp_aload_n dX9_sums_5 rfl rfl ?_
  refine wm_getI dX9_sums_6 s_85 fk_X9_239 rfl rfl ?_
  refine wm_if_ge 77 dX9_sums_9 rfl rfl h (fun h => ?_) (fun h => ?_)
  · refine wm_up h hP (fun r h hP => ?_)
    refine wp_iload_n dX9_sums_77 rfl rfl ?_
    exact wm_iret dX9_sums_78 rfl ⟨rfl, rfl⟩ h hP
  · refine wp_aload_n dX9_sums_12 rfl rfl ?_
    refine wm_callVI (As := []) (rest := []) dX9_sums_13 ok_X9_242 (by omega) rfl s_85 ⟨_, rfl⟩ (Nat.le_of_ble_eq_true rfl) ⟨rfl, rfl⟩ rfl (fun t h => o_X9_byteAt h) h (fun q2 h => ?_)
    refine wp_bipush (43 : Int32) dX9_sums_16 ib_43 rfl ?_
    refine wm_icmp_eq 30 dX9_sums_18 rfl rfl h (fun h => ?_) (fun h => ?_)
    · exact wm_mask (L' := [some (.ref 85), some (.int s.1), none, none]) [true, true, false, false] rfl (k_X9_sums_J30 hrc h hP)
    · refine wp_aload_n dX9_sums_21 rfl rfl ?_
      refine wm_callVI (As := []) (rest := []) dX9_sums_22 ok_X9_242 (by omega) rfl s_85 ⟨_, rfl⟩ (Nat.le_of_ble_eq_true rfl) ⟨rfl, rfl⟩ rfl (fun t h => o_X9_byteAt h) h (fun q8 h => ?_)
      refine wp_bipush (45 : Int32) dX9_sums_25 ib_45 rfl ?_
      refine wm_icmp_ne 77 dX9_sums_27 rfl rfl h (fun h => ?_) (fun h => ?_)
      · refine wm_up h hP (fun r h hP => ?_)
        refine wp_iload_n dX9_sums_77 rfl rfl ?_
        exact wm_iret dX9_sums_78 rfl ⟨rfl, rfl⟩ h hP
      · exact wm_mask (L' := [some (.ref 85), some (.int s.1), none, none]) [true, true, false, false] rfl (k_X9_sums_J30 hrc h hP)
noncomputable def f_X9_sums (rc : Mem → Option (Int32 × Mem))  (m : Mem) : Option (Int32 × Mem) := (f_X9_product rc m).bind (fun q1 => wh (f_X9_sums_L5 rc) (q1.1, q1.2))
theorem k_X9_sums_E {g : Gx} {d0 : Nat} {rc : Mem → Option (Int32 × Mem)} (hrc : ∀ m t, rc m = some t → MxM g d0 mi_X9_one [.ref 85] m (qI t))  {Q : Qy} {m : Mem} {t : Int32 × Mem} (h : f_X9_sums rc m = some t) (hP : pI Q t) : WpM g (d0 + 3) mi_X9_sums 0 [some (.ref 85), none, none, none] [] m (zM g mi_X9_sums Q) := by
  refine wp_aload_n dX9_sums_0 rfl rfl ?_
  refine wm_callVI (As := []) (rest := []) dX9_sums_1 ok_X9_258 (by omega) rfl s_85 ⟨_, rfl⟩ (Nat.le_of_ble_eq_true rfl) ⟨rfl, rfl⟩ rfl (fun t h => o_X9_product hrc h) h (fun q1 h => ?_)
  refine wp_istore_n (L' := [some (.ref 85), some (.int q1.1), none, none]) dX9_sums_4 (by decide) rfl rfl rfl ?_
  have hB := wh_ok (A := A_X9_sums_5 g d0 Q) (B := pI Q) (fun s t h hP => k_X9_sums_L5 hrc h hP) h hP
  exact wm_mask (L' := [some (.ref 85), some (.int q1.1), none, none]) [true, true, false, false] rfl (hB)
theorem o_X9_sums {g : Gx} {d0 : Nat} {rc : Mem → Option (Int32 × Mem)} (hrc : ∀ m t, rc m = some t → MxM g d0 mi_X9_one [.ref 85] m (qI t))  {m : Mem} {t : Int32 × Mem} (h : f_X9_sums rc m = some t) : MxM g (d0 + 3) mi_X9_sums [.ref 85] m (qI t) := mx_of pn_X9 (Nat.le_of_ble_eq_true rfl) (k_X9_sums_E hrc h ⟨rfl, rfl, rfl, rfl, rfl⟩)
noncomputable def f_X9_compared_J37 (rc : Mem → Option (Int32 × Mem)) (v1 : Int32) (v2 : Int32) (m : Mem) : Option (Int32 × Mem) := bnd (sI m 85 21 ((gI m 85 21) + (1 : Int32))) (fun m3 => (f_X9_sums rc m3).bind (fun q4 => if ¬ v2 = (60 : Int32) then if ¬ v2 = (61 : Int32) then if v1 ≤ q4.1 then some ((0 : Int32), q4.2) else some ((1 : Int32), q4.2) else if ¬ v1 = q4.1 then some ((0 : Int32), q4.2) else some ((1 : Int32), q4.2) else if q4.1 ≤ v1 then some ((0 : Int32), q4.2) else some ((1 : Int32), q4.2)))
theorem k_X9_compared_J37 {g : Gx} {d0 : Nat} {rc : Mem → Option (Int32 × Mem)} (hrc : ∀ m t, rc m = some t → MxM g d0 mi_X9_one [.ref 85] m (qI t)) {v1 : Int32} {v2 : Int32}  {Q : Qy} {m : Mem} {t : Int32 × Mem} (h : f_X9_compared_J37 rc v1 v2 m = some t) (hP : pI Q t) : WpM g (d0 + 4) mi_X9_compared 37 [some (.ref 85), some (.int v1), some (.int v2), none] [] m (zM g mi_X9_compared Q) := by
  refine wp_aload_n dX9_compared_37 rfl rfl ?_
  refine wp_dup dX9_compared_38 rfl rfl ?_
  refine wm_getI dX9_compared_39 s_85 fk_X9_230 rfl rfl ?_
  refine wp_iconst (1 : Int32) dX9_compared_42 ic_1 rfl ?_
  refine wp_iadd dX9_compared_43 rfl ?_
  refine wm_putI dX9_compared_44 s_85 fk_X9_230 rfl rfl h (fun m3 h => ?_)
  refine wp_aload_n dX9_compared_47 rfl rfl ?_
  refine wm_callVI (As := []) (rest := []) dX9_compared_48 ok_X9_255 (by omega) rfl s_85 ⟨_, rfl⟩ (Nat.le_of_ble_eq_true rfl) ⟨rfl, rfl⟩ rfl (fun t h => o_X9_sums hrc h) h (fun q4 h => ?_)
  refine wp_istore_n (L' := [some (.ref 85), some (.int v1), some (.int v2), some (.int q4.1)]) dX9_compared_51 (by decide) rfl rfl rfl ?_
  refine wp_iload_n dX9_compared_52 rfl rfl ?_
  refine wp_bipush (60 : Int32) dX9_compared_53 ib_60 rfl ?_
  refine wm_icmp_ne 66 dX9_compared_55 rfl rfl h (fun h => ?_) (fun h => ?_)
  · refine wp_iload_n dX9_compared_66 rfl rfl ?_
    refine wp_bipush (61 : Int32) dX9_compared_67 ib_61 rfl ?_
    refine wm_icmp_ne 80 dX9_compared_69 rfl rfl h (fun h => ?_) (fun h => ?_)
    · refine wp_iload_n dX9_compared_80 rfl rfl ?_
      refine wp_iload_n dX9_compared_81 rfl rfl ?_
      refine wm_icmp_le 89 dX9_compared_82 rfl rfl h (fun h => ?_) (fun h => ?_)
      · refine wp_iconst (0 : Int32) dX9_compared_89 ic_0 rfl ?_
        exact wm_iret dX9_compared_90 rfl ⟨rfl, rfl⟩ h hP
      · refine wp_iconst (1 : Int32) dX9_compared_85 ic_1 rfl ?_
        refine wp_goto 90 dX9_compared_86 rfl ?_
        exact wm_iret dX9_compared_90 rfl ⟨rfl, rfl⟩ h hP
    · refine wp_iload_n dX9_compared_72 rfl rfl ?_
      refine wp_iload_n dX9_compared_73 rfl rfl ?_
      refine wm_icmp_ne 89 dX9_compared_74 rfl rfl h (fun h => ?_) (fun h => ?_)
      · refine wp_iconst (0 : Int32) dX9_compared_89 ic_0 rfl ?_
        exact wm_iret dX9_compared_90 rfl ⟨rfl, rfl⟩ h hP
      · refine wp_goto 85 dX9_compared_77 rfl ?_
        refine wp_iconst (1 : Int32) dX9_compared_85 ic_1 rfl ?_
        refine wp_goto 90 dX9_compared_86 rfl ?_
        exact wm_iret dX9_compared_90 rfl ⟨rfl, rfl⟩ h hP
  · refine wp_iload_n dX9_compared_58 rfl rfl ?_
    refine wp_iload_n dX9_compared_59 rfl rfl ?_
    refine wm_icmp_ge 89 dX9_compared_60 rfl rfl h (fun h => ?_) (fun h => ?_)
    · refine wp_iconst (0 : Int32) dX9_compared_89 ic_0 rfl ?_
      exact wm_iret dX9_compared_90 rfl ⟨rfl, rfl⟩ h hP
    · refine wp_goto 85 dX9_compared_63 rfl ?_
      refine wp_iconst (1 : Int32) dX9_compared_85 ic_1 rfl ?_
      refine wp_goto 90 dX9_compared_86 rfl ?_
      exact wm_iret dX9_compared_90 rfl ⟨rfl, rfl⟩ h hP
noncomputable def f_X9_compared (rc : Mem → Option (Int32 × Mem))  (m : Mem) : Option (Int32 × Mem) := (f_X9_sums rc m).bind (fun q1 => (f_X9_byteAt q1.2).bind (fun q2 => if 0 ≤ (gI q2.2 85 23) then some (q1.1, q2.2) else if q2.1 = (60 : Int32) then f_X9_compared_J37 rc q1.1 q2.1 q2.2 else if q2.1 = (61 : Int32) then f_X9_compared_J37 rc q1.1 q2.1 q2.2 else if q2.1 = (62 : Int32) then f_X9_compared_J37 rc q1.1 q2.1 q2.2 else some (q1.1, q2.2)))
theorem k_X9_compared_E {g : Gx} {d0 : Nat} {rc : Mem → Option (Int32 × Mem)} (hrc : ∀ m t, rc m = some t → MxM g d0 mi_X9_one [.ref 85] m (qI t))  {Q : Qy} {m : Mem} {t : Int32 × Mem} (h : f_X9_compared rc m = some t) (hP : pI Q t) : WpM g (d0 + 4) mi_X9_compared 0 [some (.ref 85), none, none, none] [] m (zM g mi_X9_compared Q) := by
  refine wp_aload_n dX9_compared_0 rfl rfl ?_
  refine wm_callVI (As := []) (rest := []) dX9_compared_1 ok_X9_255 (by omega) rfl s_85 ⟨_, rfl⟩ (Nat.le_of_ble_eq_true rfl) ⟨rfl, rfl⟩ rfl (fun t h => o_X9_sums hrc h) h (fun q1 h => ?_)
  refine wp_istore_n (L' := [some (.ref 85), some (.int q1.1), none, none]) dX9_compared_4 (by decide) rfl rfl rfl ?_
  refine wp_aload_n dX9_compared_5 rfl rfl ?_
  refine wm_callVI (As := []) (rest := []) dX9_compared_6 ok_X9_242 (by omega) rfl s_85 ⟨_, rfl⟩ (Nat.le_of_ble_eq_true rfl) ⟨rfl, rfl⟩ rfl (fun t h => o_X9_byteAt h) h (fun q2 h => ?_)
  refine wp_istore_n (L' := [some (.ref 85), some (.int q1.1), some (.int q2.1), none]) dX9_compared_9 (by decide) rfl rfl rfl ?_
  refine wp_aload_n dX9_compared_10 rfl rfl ?_
  refine wm_getI dX9_compared_11 s_85 fk_X9_239 rfl rfl ?_
  refine wm_if_ge 35 dX9_compared_14 rfl rfl h (fun h => ?_) (fun h => ?_)
  · refine wp_iload_n dX9_compared_35 rfl rfl ?_
    exact wm_iret dX9_compared_36 rfl ⟨rfl, rfl⟩ h hP
  · refine wp_iload_n dX9_compared_17 rfl rfl ?_
    refine wp_bipush (60 : Int32) dX9_compared_18 ib_60 rfl ?_
    refine wm_icmp_eq 37 dX9_compared_20 rfl rfl h (fun h => ?_) (fun h => ?_)
    · exact wm_mask (L' := [some (.ref 85), some (.int q1.1), some (.int q2.1), none]) [true, true, true, false] rfl (k_X9_compared_J37 hrc h hP)
    · refine wp_iload_n dX9_compared_23 rfl rfl ?_
      refine wp_bipush (61 : Int32) dX9_compared_24 ib_61 rfl ?_
      refine wm_icmp_eq 37 dX9_compared_26 rfl rfl h (fun h => ?_) (fun h => ?_)
      · exact wm_mask (L' := [some (.ref 85), some (.int q1.1), some (.int q2.1), none]) [true, true, true, false] rfl (k_X9_compared_J37 hrc h hP)
      · refine wp_iload_n dX9_compared_29 rfl rfl ?_
        refine wp_bipush (62 : Int32) dX9_compared_30 ib_62 rfl ?_
        refine wm_icmp_eq 37 dX9_compared_32 rfl rfl h (fun h => ?_) (fun h => ?_)
        · exact wm_mask (L' := [some (.ref 85), some (.int q1.1), some (.int q2.1), none]) [true, true, true, false] rfl (k_X9_compared_J37 hrc h hP)
        · refine wp_iload_n dX9_compared_35 rfl rfl ?_
          exact wm_iret dX9_compared_36 rfl ⟨rfl, rfl⟩ h hP
theorem o_X9_compared {g : Gx} {d0 : Nat} {rc : Mem → Option (Int32 × Mem)} (hrc : ∀ m t, rc m = some t → MxM g d0 mi_X9_one [.ref 85] m (qI t))  {m : Mem} {t : Int32 × Mem} (h : f_X9_compared rc m = some t) : MxM g (d0 + 4) mi_X9_compared [.ref 85] m (qI t) := mx_of pn_X9 (Nat.le_of_ble_eq_true rfl) (k_X9_compared_E hrc h ⟨rfl, rfl, rfl, rfl, rfl⟩)
noncomputable def f_X9_takes  (p1 : Int32) (m : Mem) : Option (Int32 × Mem) := if 0 ≤ (gI m 85 23) then bz (0 : Int32) (some ((0 : Int32), m)) else (f_X9_byteAt m).bind (fun q1 => if q1.1 = p1 then bnd (sI q1.2 85 21 ((gI q1.2 85 21) + (1 : Int32))) (fun m2 => bz (1 : Int32) (some ((1 : Int32), m2))) else bz (0 : Int32) (some ((0 : Int32), q1.2)))
theorem k_X9_takes_E {g : Gx}  {p1 : Int32} {Q : Qy} {m : Mem} {t : Int32 × Mem} (h : f_X9_takes p1 m = some t) (hP : pI Q t) : WpM g 2 mi_X9_takes 0 [some (.ref 85), some (.int p1)] [] m (zM g mi_X9_takes Q) := by
  refine wp_aload_n dX9_takes_0 rfl rfl ?_
  refine wm_getI dX9_takes_1 s_85 fk_X9_239 rfl rfl ?_
  refine wm_if_ge 15 dX9_takes_4 rfl rfl h (fun h => ?_) (fun h => ?_)
  · refine wp_iconst (0 : Int32) dX9_takes_15 ic_0 rfl ?_
    exact wm_zret dX9_takes_16 rfl ⟨rfl, rfl⟩ h hP
  · refine wp_aload_n dX9_takes_7 rfl rfl ?_
    refine wm_callVI (As := []) (rest := []) dX9_takes_8 ok_X9_242 (by decide) rfl s_85 ⟨_, rfl⟩ (Nat.le_of_ble_eq_true rfl) ⟨rfl, rfl⟩ rfl (fun t h => o_X9_byteAt h) h (fun q1 h => ?_)
    refine wp_iload_n dX9_takes_11 rfl rfl ?_
    refine wm_icmp_eq 17 dX9_takes_12 rfl rfl h (fun h => ?_) (fun h => ?_)
    · refine wp_aload_n dX9_takes_17 rfl rfl ?_
      refine wp_dup dX9_takes_18 rfl rfl ?_
      refine wm_getI dX9_takes_19 s_85 fk_X9_230 rfl rfl ?_
      refine wp_iconst (1 : Int32) dX9_takes_22 ic_1 rfl ?_
      refine wp_iadd dX9_takes_23 rfl ?_
      refine wm_putI dX9_takes_24 s_85 fk_X9_230 rfl rfl h (fun m2 h => ?_)
      refine wp_iconst (1 : Int32) dX9_takes_27 ic_1 rfl ?_
      exact wm_zret dX9_takes_28 rfl ⟨rfl, rfl⟩ h hP
    · refine wp_iconst (0 : Int32) dX9_takes_15 ic_0 rfl ?_
      exact wm_zret dX9_takes_16 rfl ⟨rfl, rfl⟩ h hP
theorem o_X9_takes {g : Gx}  {p1 : Int32} {m : Mem} {t : Int32 × Mem} (h : f_X9_takes p1 m = some t) : MxM g 2 mi_X9_takes [.ref 85, .int p1] m (qI t) := mx_of pn_X9 (Nat.le_of_ble_eq_true rfl) (k_X9_takes_E h ⟨rfl, rfl, rfl, rfl, rfl⟩)
