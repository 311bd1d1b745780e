noncomputable def f_X8_feed  (p1 : Int32) (m : Mem) : Option (Int32 × Mem) := if p1 < 0 then some ((-1 : Int32), m) else if p1 ≤ (255 : Int32) then (f_X2_isFull m).bind (fun q1 => if q1.1 = 0 then (f_X2_write p1 q1.2).bind (fun q2 => some (q2.1, q2.2)) else some ((-3 : Int32), q1.2)) else some ((-1 : Int32), m)
theorem k_X8_feed_E {g : Gx}  {p1 : Int32} {Q : Qy} {m : Mem} {t : Int32 × Mem} (h : f_X8_feed p1 m = some t) (hP : pI Q t) : WpM g 2 mi_X8_feed 0 [some (.ref 0), some (.int p1)] [] m (zM g mi_X8_feed Q) := by
  refine wp_iload_n dX8_feed_0 rfl rfl ?_
  refine wm_if_lt 11 dX8_feed_1 rfl rfl h (fun h => ?_) (fun h => ?_)
  · refine wp_iconst (-1 : Int32) dX8_feed_11 ic_m1 rfl ?_
    exact wm_iret dX8_feed_12 rfl ⟨rfl, rfl⟩ h hP
  · refine wp_iload_n dX8_feed_4 rfl rfl ?_
    refine wp_sipush (255 : Int32) dX8_feed_5 is_255 rfl ?_
    refine wm_icmp_le 13 dX8_feed_8 rfl rfl h (fun h => ?_) (fun h => ?_)
    · refine wp_aload_n dX8_feed_13 rfl rfl ?_
      refine wm_getR dX8_feed_14 s_0 fk_X8_10 rfl r_0_0 rfl ?_
      refine wm_getR dX8_feed_17 s_1 fk_X8_89 rfl r_1_12 rfl ?_
      refine wm_callVI (As := []) (rest := []) dX8_feed_20 ok_X8_93 (by decide) rfl s_14 ⟨_, rfl⟩ (Nat.le_of_ble_eq_true rfl) ⟨rfl, rfl⟩ rfl (fun t h => o_X2_isFull h) h (fun q1 h => ?_)
      refine wm_if_eq 31 dX8_feed_23 rfl rfl h (fun h => ?_) (fun h => ?_)
      · refine wp_aload_n dX8_feed_31 rfl rfl ?_
        refine wm_getR dX8_feed_32 s_0 fk_X8_10 rfl r_0_0 rfl ?_
        refine wm_getR dX8_feed_35 s_1 fk_X8_89 rfl r_1_12 rfl ?_
        refine wp_iload_n dX8_feed_38 rfl rfl ?_
        refine wm_callVI (As := [.int p1]) (rest := []) dX8_feed_39 ok_X8_99 (by decide) rfl s_14 ⟨_, rfl⟩ (Nat.le_of_ble_eq_true rfl) ⟨rfl, rfl⟩ rfl (fun t h => o_X2_write h) h (fun q2 h => ?_)
        exact wm_iret dX8_feed_42 rfl ⟨rfl, rfl⟩ h hP
      · refine wp_bipush (-3 : Int32) dX8_feed_26 ib_m3 rfl ?_
        refine wp_goto 42 dX8_feed_28 rfl ?_
        exact wm_iret dX8_feed_42 rfl ⟨rfl, rfl⟩ h hP
    · refine wp_iconst (-1 : Int32) dX8_feed_11 ic_m1 rfl ?_
      exact wm_iret dX8_feed_12 rfl ⟨rfl, rfl⟩ h hP
theorem o_X8_feed {g : Gx}  {p1 : Int32} {m : Mem} {t : Int32 × Mem} (h : f_X8_feed p1 m = some t) : MxM g 2 mi_X8_feed [.ref 0, .int p1] m (qI t) := mx_of pn_X8 (Nat.le_of_ble_eq_true rfl) (k_X8_feed_E h ⟨rfl, rfl, rfl, rfl, rfl⟩)
noncomputable def f_X8_film  (p1 : Int32) (m : Mem) : Option (Int32 × Mem) := (f_X8_isNoShelf p1 m).bind (fun q1 => if q1.1 = 0 then ck p1 6 (bnd (73 + 2 * ix p1) (fun s2 => if ¬ (gI q1.2 s2 0) = (-2 : Int32) then if (gI q1.2 s2 0) = 0 then (f_X6_isBare q1.2).bind (fun q3 => if q3.1 = 0 then (f_X7_rulesOf s2 q3.2).bind (fun q4 => some (q4.1, q4.2)) else some ((-5 : Int32), q3.2)) else some ((-12 : Int32), q1.2) else some ((-11 : Int32), q1.2))) else some ((-1 : Int32), q1.2))
theorem k_X8_film_E {g : Gx}  {p1 : Int32} {Q : Qy} {m : Mem} {t : Int32 × Mem} (h : f_X8_film p1 m = some t) (hP : pI Q t) : WpM g 7 mi_X8_film 0 [some (.ref 0), some (.int p1), none] [] m (zM g mi_X8_film Q) := by
  refine wp_iload_n dX8_film_0 rfl rfl ?_
  refine wm_callSI (As := [.int p1]) (rest := []) dX8_film_1 ok_X8_78 (by decide) rfl (Nat.le_of_ble_eq_true rfl) ⟨rfl, rfl⟩ rfl (fun t h => o_X8_isNoShelf h) h (fun q1 h => ?_)
  refine wm_if_eq 9 dX8_film_4 rfl rfl h (fun h => ?_) (fun h => ?_)
  · refine wp_aload_n dX8_film_9 rfl rfl ?_
    refine wm_getR dX8_film_10 s_0 fk_X8_48 rfl r_0_5 rfl ?_
    refine wp_iload_n dX8_film_13 rfl rfl ?_
    refine wm_shelf dX8_film_14 rfl h (fun s2 hs2 h => ?_)
    refine wp_astore_n dX8_film_15 (by decide) rfl rfl rfl ?_
    refine wp_aload_n dX8_film_16 rfl rfl ?_
    refine wm_getI dX8_film_17 (sS_0 hs2) fk_X8_82 rfl rfl ?_
    refine wp_bipush (-2 : Int32) dX8_film_20 ib_m2 rfl ?_
    refine wm_icmp_ne 28 dX8_film_22 rfl rfl h (fun h => ?_) (fun h => ?_)
    · refine wp_aload_n dX8_film_28 rfl rfl ?_
      refine wm_getI dX8_film_29 (sS_0 hs2) fk_X8_82 rfl rfl ?_
      refine wm_if_eq 38 dX8_film_32 rfl rfl h (fun h => ?_) (fun h => ?_)
      · refine wp_aload_n dX8_film_38 rfl rfl ?_
        refine wm_getR dX8_film_39 s_0 fk_X8_10 rfl r_0_0 rfl ?_
        refine wm_callVI (As := []) (rest := []) dX8_film_42 ok_X8_154 (by decide) rfl s_1 ⟨_, rfl⟩ (Nat.le_of_ble_eq_true rfl) ⟨rfl, rfl⟩ rfl (fun t h => o_X6_isBare h) h (fun q3 h => ?_)
        refine wm_if_eq 53 dX8_film_45 rfl rfl h (fun h => ?_) (fun h => ?_)
        · refine wp_aload_n dX8_film_53 rfl rfl ?_
          refine wm_getR dX8_film_54 s_0 fk_X8_35 rfl r_0_3 rfl ?_
          refine wp_aload_n dX8_film_57 rfl rfl ?_
          refine wm_callVI (As := [.ref s2]) (rest := []) dX8_film_58 ok_X8_204 (by decide) rfl s_53 ⟨_, rfl⟩ (Nat.le_of_ble_eq_true rfl) ⟨rfl, rfl⟩ rfl (fun t h => o_X7_rulesOf hs2 h) h (fun q4 h => ?_)
          exact wm_iret dX8_film_61 rfl ⟨rfl, rfl⟩ h hP
        · refine wp_bipush (-5 : Int32) dX8_film_48 ib_m5 rfl ?_
          refine wp_goto 61 dX8_film_50 rfl ?_
          exact wm_iret dX8_film_61 rfl ⟨rfl, rfl⟩ h hP
      · refine wp_bipush (-12 : Int32) dX8_film_35 ib_m12 rfl ?_
        exact wm_iret dX8_film_37 rfl ⟨rfl, rfl⟩ h hP
    · refine wp_bipush (-11 : Int32) dX8_film_25 ib_m11 rfl ?_
      exact wm_iret dX8_film_27 rfl ⟨rfl, rfl⟩ h hP
  · refine wp_iconst (-1 : Int32) dX8_film_7 ic_m1 rfl ?_
    exact wm_iret dX8_film_8 rfl ⟨rfl, rfl⟩ h hP
theorem o_X8_film {g : Gx}  {p1 : Int32} {m : Mem} {t : Int32 × Mem} (h : f_X8_film p1 m = some t) : MxM g 7 mi_X8_film [.ref 0, .int p1] m (qI t) := mx_of pn_X8 (Nat.le_of_ble_eq_true rfl) (k_X8_film_E h ⟨rfl, rfl, rfl, rfl, rfl⟩)
noncomputable def f_X8_first  (p1 : Int32) (p2 : Int32) (m : Mem) : Option (Int32 × Mem) := (f_X4_hadCard p1 m).bind (fun q1 => if q1.1 = 0 then some ((-2000000000 : Int32), q1.2) else if p2 < 0 then some ((-2000000000 : Int32), q1.2) else if p2 ≤ (1 : Int32) then if ¬ p2 = 0 then ck p1 20 (some ((gI q1.2 (29 + 4) (ix p1)), q1.2)) else ck p1 20 (some ((gI q1.2 (29 + 3) (ix p1)), q1.2)) else some ((-2000000000 : Int32), q1.2))
theorem k_X8_first_E {g : Gx}  {p1 : Int32} {p2 : Int32} {Q : Qy} {m : Mem} {t : Int32 × Mem} (h : f_X8_first p1 p2 m = some t) (hP : pI Q t) : WpM g 2 mi_X8_first 0 [some (.ref 0), some (.int p1), some (.int p2)] [] m (zM g mi_X8_first Q) := by
  refine wp_aload_n dX8_first_0 rfl rfl ?_
  refine wm_getR dX8_first_1 s_0 fk_X8_28 rfl r_0_2 rfl ?_
  refine wp_iload_n dX8_first_4 rfl rfl ?_
  refine wm_callVI (As := [.int p1]) (rest := []) dX8_first_5 ok_X8_192 (by decide) rfl s_24 ⟨_, rfl⟩ (Nat.le_of_ble_eq_true rfl) ⟨rfl, rfl⟩ rfl (fun t h => o_X4_hadCard h) h (fun q1 h => ?_)
  refine wm_if_eq 20 dX8_first_8 rfl rfl h (fun h => ?_) (fun h => ?_)
  · refine wp_ldc dX8_first_20 q722 rfl ?_
    exact wm_iret dX8_first_22 rfl ⟨rfl, rfl⟩ h hP
  · refine wp_iload_n dX8_first_11 rfl rfl ?_
    refine wm_if_lt 20 dX8_first_12 rfl rfl h (fun h => ?_) (fun h => ?_)
    · refine wp_ldc dX8_first_20 q722 rfl ?_
      exact wm_iret dX8_first_22 rfl ⟨rfl, rfl⟩ h hP
    · refine wp_iload_n dX8_first_15 rfl rfl ?_
      refine wp_iconst (1 : Int32) dX8_first_16 ic_1 rfl ?_
      refine wm_icmp_le 23 dX8_first_17 rfl rfl h (fun h => ?_) (fun h => ?_)
      · refine wp_iload_n dX8_first_23 rfl rfl ?_
        refine wm_if_ne 40 dX8_first_24 rfl rfl h (fun h => ?_) (fun h => ?_)
        · refine wp_aload_n dX8_first_40 rfl rfl ?_
          refine wm_getR dX8_first_41 s_0 fk_X8_28 rfl r_0_2 rfl ?_
          refine wm_getR dX8_first_44 s_24 fk_X8_167 rfl r_24_0 rfl ?_
          refine wm_getR dX8_first_47 (sM_0 (by unfold MA; omega)) fk_X8_198 rfl (rM_3 (by unfold MA; omega)) rfl ?_
          refine wp_iload_n dX8_first_50 rfl rfl ?_
          refine wm_iald dX8_first_51 (sM_4 (by unfold MA; omega)) rfl h (fun h => ?_)
          exact wm_iret dX8_first_52 rfl ⟨rfl, rfl⟩ h hP
        · refine wp_aload_n dX8_first_27 rfl rfl ?_
          refine wm_getR dX8_first_28 s_0 fk_X8_28 rfl r_0_2 rfl ?_
          refine wm_getR dX8_first_31 s_24 fk_X8_167 rfl r_24_0 rfl ?_
          refine wm_getR dX8_first_34 (sM_0 (by unfold MA; omega)) fk_X8_195 rfl (rM_2 (by unfold MA; omega)) rfl ?_
          refine wp_goto 50 dX8_first_37 rfl ?_
          refine wp_iload_n dX8_first_50 rfl rfl ?_
          refine wm_iald dX8_first_51 (sM_3 (by unfold MA; omega)) rfl h (fun h => ?_)
          exact wm_iret dX8_first_52 rfl ⟨rfl, rfl⟩ h hP
      · refine wp_ldc dX8_first_20 q722 rfl ?_
        exact wm_iret dX8_first_22 rfl ⟨rfl, rfl⟩ h hP
theorem o_X8_first {g : Gx}  {p1 : Int32} {p2 : Int32} {m : Mem} {t : Int32 × Mem} (h : f_X8_first p1 p2 m = some t) : MxM g 2 mi_X8_first [.ref 0, .int p1, .int p2] m (qI t) := mx_of pn_X8 (Nat.le_of_ble_eq_true rfl) (k_X8_first_E h ⟨rfl, rfl, rfl, rfl, rfl⟩)
noncomputable def f_X8_keep  (p1 : Int32) (p2 : Int32) (m : Mem) : Option (Int32 × Mem) := (f_X8_isNoShelf p1 m).bind (fun q1 => if ¬ q1.1 = 0 then some ((-1 : Int32), q1.2) else if p2 < (-1 : Int32) then some ((-1 : Int32), q1.2) else if p2 < (gI q1.2 69 1) then ck p1 6 (bnd (73 + 2 * ix p1) (fun s2 => (f_X5_holdBody s2 p2 q1.2).bind (fun q3 => some ((1 : Int32), q3)))) else some ((-1 : Int32), q1.2))
theorem k_X8_keep_E {g : Gx}  {p1 : Int32} {p2 : Int32} {Q : Qy} {m : Mem} {t : Int32 × Mem} (h : f_X8_keep p1 p2 m = some t) (hP : pI Q t) : WpM g 2 mi_X8_keep 0 [some (.ref 0), some (.int p1), some (.int p2)] [] m (zM g mi_X8_keep Q) := by
  refine wp_iload_n dX8_keep_0 rfl rfl ?_
  refine wm_callSI (As := [.int p1]) (rest := []) dX8_keep_1 ok_X8_78 (by decide) rfl (Nat.le_of_ble_eq_true rfl) ⟨rfl, rfl⟩ rfl (fun t h => o_X8_isNoShelf h) h (fun q1 h => ?_)
  refine wm_if_ne 23 dX8_keep_4 rfl rfl h (fun h => ?_) (fun h => ?_)
  · refine wp_iconst (-1 : Int32) dX8_keep_23 ic_m1 rfl ?_
    exact wm_iret dX8_keep_24 rfl ⟨rfl, rfl⟩ h hP
  · refine wp_iload_n dX8_keep_7 rfl rfl ?_
    refine wp_iconst (-1 : Int32) dX8_keep_8 ic_m1 rfl ?_
    refine wm_icmp_lt 23 dX8_keep_9 rfl rfl h (fun h => ?_) (fun h => ?_)
    · refine wp_iconst (-1 : Int32) dX8_keep_23 ic_m1 rfl ?_
      exact wm_iret dX8_keep_24 rfl ⟨rfl, rfl⟩ h hP
    · refine wp_iload_n dX8_keep_12 rfl rfl ?_
      refine wp_aload_n dX8_keep_13 rfl rfl ?_
      refine wm_getR dX8_keep_14 s_0 fk_X8_42 rfl r_0_4 rfl ?_
      refine wm_getI dX8_keep_17 s_69 fk_X8_235 rfl rfl ?_
      refine wm_icmp_lt 25 dX8_keep_20 rfl rfl h (fun h => ?_) (fun h => ?_)
      · refine wp_aload_n dX8_keep_25 rfl rfl ?_
        refine wm_getR dX8_keep_26 s_0 fk_X8_48 rfl r_0_5 rfl ?_
        refine wp_iload_n dX8_keep_29 rfl rfl ?_
        refine wm_shelf dX8_keep_30 rfl h (fun s2 hs2 h => ?_)
        refine wp_iload_n dX8_keep_31 rfl rfl ?_
        refine wm_callVN (As := [.int p2]) (rest := []) dX8_keep_32 ok_X8_250 (by decide) rfl (sS_0 hs2) ⟨_, rfl⟩ (Nat.le_of_ble_eq_true rfl) ⟨rfl, rfl⟩ rfl (fun t h => o_X5_holdBody hs2 h) h (fun q3 h => ?_)
        refine wp_iconst (1 : Int32) dX8_keep_35 ic_1 rfl ?_
        exact wm_iret dX8_keep_36 rfl ⟨rfl, rfl⟩ h hP
      · refine wp_iconst (-1 : Int32) dX8_keep_23 ic_m1 rfl ?_
        exact wm_iret dX8_keep_24 rfl ⟨rfl, rfl⟩ h hP
theorem o_X8_keep {g : Gx}  {p1 : Int32} {p2 : Int32} {m : Mem} {t : Int32 × Mem} (h : f_X8_keep p1 p2 m = some t) : MxM g 2 mi_X8_keep [.ref 0, .int p1, .int p2] m (qI t) := mx_of pn_X8 (Nat.le_of_ble_eq_true rfl) (k_X8_keep_E h ⟨rfl, rfl, rfl, rfl, rfl⟩)
noncomputable def f_X8_law   (m : Mem) : Option (Int32 × Mem) := (f_X2_enact m).bind (fun q1 => if q1.1 < 0 then bnd (sI q1.2 1 16 ((gI q1.2 1 16) + (1 : Int32))) (fun m2 => some ((1 : Int32), m2)) else some (((-100 : Int32) - q1.1), q1.2))
theorem k_X8_law_E {g : Gx}   {Q : Qy} {m : Mem} {t : Int32 × Mem} (h : f_X8_law m = some t) (hP : pI Q t) : WpM g 155 mi_X8_law 0 [some (.ref 0), none] [] m (zM g mi_X8_law Q) := by
  refine wp_aload_n dX8_law_0 rfl rfl ?_
  refine wm_getR dX8_law_1 s_0 fk_X8_10 rfl r_0_0 rfl ?_
  refine wm_getR dX8_law_4 s_1 fk_X8_89 rfl r_1_12 rfl ?_
  refine wm_callVI (As := []) (rest := []) dX8_law_7 ok_X8_103 (by decide) rfl s_14 ⟨_, rfl⟩ (Nat.le_of_ble_eq_true rfl) ⟨rfl, rfl⟩ rfl (fun t h => o_X2_enact h) h (fun q1 h => ?_)
  refine wp_istore_n dX8_law_10 (by decide) rfl rfl rfl ?_
  refine wp_iload_n dX8_law_11 rfl rfl ?_
  refine wm_if_lt 20 dX8_law_12 rfl rfl h (fun h => ?_) (fun h => ?_)
  · refine wp_aload_n dX8_law_20 rfl rfl ?_
    refine wm_getR dX8_law_21 s_0 fk_X8_10 rfl r_0_0 rfl ?_
    refine wp_dup dX8_law_24 rfl rfl ?_
    refine wm_getI dX8_law_25 s_1 fk_X8_107 rfl rfl ?_
    refine wp_iconst (1 : Int32) dX8_law_28 ic_1 rfl ?_
    refine wp_iadd dX8_law_29 rfl ?_
    refine wm_putI dX8_law_30 s_1 fk_X8_107 rfl rfl h (fun m2 h => ?_)
    refine wp_iconst (1 : Int32) dX8_law_33 ic_1 rfl ?_
    exact wm_iret dX8_law_34 rfl ⟨rfl, rfl⟩ h hP
  · refine wp_bipush (-100 : Int32) dX8_law_15 ib_m100 rfl ?_
    refine wp_iload_n dX8_law_17 rfl rfl ?_
    refine wp_isub dX8_law_18 rfl ?_
    exact wm_iret dX8_law_19 rfl ⟨rfl, rfl⟩ h hP
theorem o_X8_law {g : Gx}   {m : Mem} {t : Int32 × Mem} (h : f_X8_law m = some t) : MxM g 155 mi_X8_law [.ref 0] m (qI t) := mx_of pn_X8 (Nat.le_of_ble_eq_true rfl) (k_X8_law_E h ⟨rfl, rfl, rfl, rfl, rfl⟩)
noncomputable def f_X8_meet  (p1 : Int32) (m : Mem) : Option (Int32 × Mem) := (f_X4_takesOrder p1 m).bind (fun q1 => if ¬ q1.1 = 0 then (f_X6_isBare q1.2).bind (fun q2 => if q2.1 = 0 then (f_X4_hold q2.2).bind (fun q3 => some (q3.1, q3.2)) else some ((-5 : Int32), q2.2)) else some ((-1 : Int32), q1.2))
theorem k_X8_meet_E {g : Gx}  {p1 : Int32} {Q : Qy} {m : Mem} {t : Int32 × Mem} (h : f_X8_meet p1 m = some t) (hP : pI Q t) : WpM g 8 mi_X8_meet 0 [some (.ref 0), some (.int p1)] [] m (zM g mi_X8_meet Q) := by
  refine wp_aload_n dX8_meet_0 rfl rfl ?_
  refine wm_getR dX8_meet_1 s_0 fk_X8_28 rfl r_0_2 rfl ?_
  refine wp_iload_n dX8_meet_4 rfl rfl ?_
  refine wm_callVI (As := [.int p1]) (rest := []) dX8_meet_5 ok_X8_151 (by decide) rfl s_24 ⟨_, rfl⟩ (Nat.le_of_ble_eq_true rfl) ⟨rfl, rfl⟩ rfl (fun t h => o_X4_takesOrder h) h (fun q1 h => ?_)
  refine wm_if_ne 13 dX8_meet_8 rfl rfl h (fun h => ?_) (fun h => ?_)
  · refine wp_aload_n dX8_meet_13 rfl rfl ?_
    refine wm_getR dX8_meet_14 s_0 fk_X8_10 rfl r_0_0 rfl ?_
    refine wm_callVI (As := []) (rest := []) dX8_meet_17 ok_X8_154 (by decide) rfl s_1 ⟨_, rfl⟩ (Nat.le_of_ble_eq_true rfl) ⟨rfl, rfl⟩ rfl (fun t h => o_X6_isBare h) h (fun q2 h => ?_)
    refine wm_if_eq 28 dX8_meet_20 rfl rfl h (fun h => ?_) (fun h => ?_)
    · refine wp_aload_n dX8_meet_28 rfl rfl ?_
      refine wm_getR dX8_meet_29 s_0 fk_X8_28 rfl r_0_2 rfl ?_
      refine wm_callVI (As := []) (rest := []) dX8_meet_32 ok_X8_157 (by decide) rfl s_24 ⟨_, rfl⟩ (Nat.le_of_ble_eq_true rfl) ⟨rfl, rfl⟩ rfl (fun t h => o_X4_hold h) h (fun q3 h => ?_)
      exact wm_iret dX8_meet_35 rfl ⟨rfl, rfl⟩ h hP
    · refine wp_bipush (-5 : Int32) dX8_meet_23 ib_m5 rfl ?_
      refine wp_goto 35 dX8_meet_25 rfl ?_
      exact wm_iret dX8_meet_35 rfl ⟨rfl, rfl⟩ h hP
  · refine wp_iconst (-1 : Int32) dX8_meet_11 ic_m1 rfl ?_
    exact wm_iret dX8_meet_12 rfl ⟨rfl, rfl⟩ h hP
theorem o_X8_meet {g : Gx}  {p1 : Int32} {m : Mem} {t : Int32 × Mem} (h : f_X8_meet p1 m = some t) : MxM g 8 mi_X8_meet [.ref 0, .int p1] m (qI t) := mx_of pn_X8 (Nat.le_of_ble_eq_true rfl) (k_X8_meet_E h ⟨rfl, rfl, rfl, rfl, rfl⟩)
noncomputable def f_X8_mend_J57  (v1 : Int32) (v2 : Int32) (v3 : Int32) (t0 : Int32) (t1 : Int32) (m : Mem) : Option (Int32 × Mem) := if t1 < t0 then (f_X6_mendable v2 m).bind (fun q1 => ckS q1.1 v1 (bnd (gI q1.2 q1.1 (ix v1)) (fun y2 => if y2 = v3 then some (y2, q1.2) else (f_X1_note v1 v2 y2 v3 q1.2).bind (fun q3 => (f_X6_change v1 v2 v3 q3).bind (fun q4 => some (y2, q4)))))) else some ((-2000000000 : Int32), m)
theorem k_X8_mend_J57 {g : Gx}  {v1 : Int32} {v2 : Int32} {v3 : Int32} {t0 : Int32} {t1 : Int32}  {Q : Qy} {m : Mem} {t : Int32 × Mem} (h : f_X8_mend_J57 v1 v2 v3 t0 t1 m = some t) (hP : pI Q t) : WpM g 3 mi_X8_mend 57 [some (.ref 0), some (.int v1), some (.int v2), some (.int v3), none] [.int t0, .int t1] m (zM g mi_X8_mend Q) := by
  refine wm_icmp_lt 63 dX8_mend_57 rfl rfl h (fun h => ?_) (fun h => ?_)
  · refine wp_aload_n dX8_mend_63 rfl rfl ?_
    refine wm_getR dX8_mend_64 s_0 fk_X8_10 rfl r_0_0 rfl ?_
    refine wp_iload_n dX8_mend_67 rfl rfl ?_
    refine wm_callVR (As := [.int v2]) (rest := []) dX8_mend_68 ok_X8_127 (by decide) rfl s_1 ⟨_, rfl⟩ (Nat.le_of_ble_eq_true rfl) ⟨rfl, rfl⟩ rfl (fun t h => o_X6_mendable h) h (fun q1 h => ?_)
    refine wp_iload_n dX8_mend_71 rfl rfl ?_
    refine wm_ialdS dX8_mend_72 rfl h (fun h => ?_)
    refine wm_nm h (fun y2 h => ?_)
    refine wp_istore dX8_mend_73 (by decide) rfl rfl rfl ?_
    refine wp_iload dX8_mend_75 rfl rfl ?_
    refine wp_iload_n dX8_mend_77 rfl rfl ?_
    refine wm_icmp_eq 103 dX8_mend_78 rfl rfl h (fun h => ?_) (fun h => ?_)
    · refine wp_iload dX8_mend_103 rfl rfl ?_
      exact wm_iret dX8_mend_105 rfl ⟨rfl, rfl⟩ h hP
    · refine wp_aload_n dX8_mend_81 rfl rfl ?_
      refine wm_getR dX8_mend_82 s_0 fk_X8_19 rfl r_0_1 rfl ?_
      refine wp_iload_n dX8_mend_85 rfl rfl ?_
      refine wp_iload_n dX8_mend_86 rfl rfl ?_
      refine wp_iload dX8_mend_87 rfl rfl ?_
      refine wp_iload_n dX8_mend_89 rfl rfl ?_
      refine wm_callVN (As := [.int v1, .int v2, .int y2, .int v3]) (rest := []) dX8_mend_90 ok_X8_131 (by decide) rfl s_19 ⟨_, rfl⟩ (Nat.le_of_ble_eq_true rfl) ⟨rfl, rfl⟩ rfl (fun t h => o_X1_note h) h (fun q3 h => ?_)
      refine wp_aload_n dX8_mend_93 rfl rfl ?_
      refine wm_getR dX8_mend_94 s_0 fk_X8_10 rfl r_0_0 rfl ?_
      refine wp_iload_n dX8_mend_97 rfl rfl ?_
      refine wp_iload_n dX8_mend_98 rfl rfl ?_
      refine wp_iload_n dX8_mend_99 rfl rfl ?_
      refine wm_callVN (As := [.int v1, .int v2, .int v3]) (rest := []) dX8_mend_100 ok_X8_135 (by decide) rfl s_1 ⟨_, rfl⟩ (Nat.le_of_ble_eq_true rfl) ⟨rfl, rfl⟩ rfl (fun t h => o_X6_change h) h (fun q4 h => ?_)
      refine wp_iload dX8_mend_103 rfl rfl ?_
      exact wm_iret dX8_mend_105 rfl ⟨rfl, rfl⟩ h hP
  · refine wp_ldc dX8_mend_60 q722 rfl ?_
    exact wm_iret dX8_mend_62 rfl ⟨rfl, rfl⟩ h hP
noncomputable def f_X8_mend  (p1 : Int32) (p2 : Int32) (p3 : Int32) (m : Mem) : Option (Int32 × Mem) := if p2 < 0 then some ((-2000000000 : Int32), m) else if (5 : Int32) ≤ p2 then some ((-2000000000 : Int32), m) else ck p2 (st_2.length) (if p3 < (st_2.getD (ix p2) 0) then some ((-2000000000 : Int32), m) else ck p2 (st_3.length) (if p3 ≤ (st_3.getD (ix p2) 0) then if p1 < 0 then some ((-2000000000 : Int32), m) else if (3 : Int32) ≤ p2 then f_X8_mend_J57 p1 p2 p3 (gI m 1 14) p1 m else f_X8_mend_J57 p1 p2 p3 (gI m 1 13) p1 m else some ((-2000000000 : Int32), m)))
theorem k_X8_mend_E {g : Gx}  {p1 : Int32} {p2 : Int32} {p3 : Int32} {Q : Qy} {m : Mem} {t : Int32 × Mem} (h : f_X8_mend p1 p2 p3 m = some t) (hP : pI Q t) : WpM g 3 mi_X8_mend 0 [some (.ref 0), some (.int p1), some (.int p2), some (.int p3), none] [] m (zM g mi_X8_mend Q) := by
  refine wp_iload_n dX8_mend_0 rfl rfl ?_
  refine wm_if_lt 27 dX8_mend_1 rfl rfl h (fun h => ?_) (fun h => ?_)
  · refine wp_ldc dX8_mend_27 q722 rfl ?_
    exact wm_iret dX8_mend_29 rfl ⟨rfl, rfl⟩ h hP
  · refine wp_iload_n dX8_mend_4 rfl rfl ?_
    refine wp_iconst (5 : Int32) dX8_mend_5 ic_5 rfl ?_
    refine wm_icmp_ge 27 dX8_mend_6 rfl rfl h (fun h => ?_) (fun h => ?_)
    · refine wp_ldc dX8_mend_27 q722 rfl ?_
      exact wm_iret dX8_mend_29 rfl ⟨rfl, rfl⟩ h hP
    · refine wp_iload_n dX8_mend_9 rfl rfl ?_
      refine wp_gets (j := 2) dX8_mend_10 rfl q718 rfl ?_
      refine wp_iload_n dX8_mend_13 rfl rfl ?_
      refine wm_ti (j := 2) (xs := st_2) dX8_mend_14 rfl rfl h (fun h => ?_)
      refine wm_icmp_lt 27 dX8_mend_15 rfl rfl h (fun h => ?_) (fun h => ?_)
      · refine wp_ldc dX8_mend_27 q722 rfl ?_
        exact wm_iret dX8_mend_29 rfl ⟨rfl, rfl⟩ h hP
      · refine wp_iload_n dX8_mend_18 rfl rfl ?_
        refine wp_gets (j := 3) dX8_mend_19 rfl q720 rfl ?_
        refine wp_iload_n dX8_mend_22 rfl rfl ?_
        refine wm_ti (j := 3) (xs := st_3) dX8_mend_23 rfl rfl h (fun h => ?_)
        refine wm_icmp_le 30 dX8_mend_24 rfl rfl h (fun h => ?_) (fun h => ?_)
        · refine wp_iload_n dX8_mend_30 rfl rfl ?_
          refine wm_if_lt 60 dX8_mend_31 rfl rfl h (fun h => ?_) (fun h => ?_)
          · refine wp_ldc dX8_mend_60 q722 rfl ?_
            exact wm_iret dX8_mend_62 rfl ⟨rfl, rfl⟩ h hP
          · refine wp_iload_n dX8_mend_34 rfl rfl ?_
            refine wp_iload_n dX8_mend_35 rfl rfl ?_
            refine wp_iconst (3 : Int32) dX8_mend_36 ic_3 rfl ?_
            refine wm_icmp_ge 50 dX8_mend_37 rfl rfl h (fun h => ?_) (fun h => ?_)
            · refine wp_aload_n dX8_mend_50 rfl rfl ?_
              refine wm_getR dX8_mend_51 s_0 fk_X8_10 rfl r_0_0 rfl ?_
              refine wm_getI dX8_mend_54 s_1 fk_X8_61 rfl rfl ?_
              exact wm_mask [true, true, true, true, false] rfl (k_X8_mend_J57  h hP)
            · refine wp_aload_n dX8_mend_40 rfl rfl ?_
              refine wm_getR dX8_mend_41 s_0 fk_X8_10 rfl r_0_0 rfl ?_
              refine wm_getI dX8_mend_44 s_1 fk_X8_53 rfl rfl ?_
              refine wp_goto 57 dX8_mend_47 rfl ?_
              exact wm_mask [true, true, true, true, false] rfl (k_X8_mend_J57  h hP)
        · refine wp_ldc dX8_mend_27 q722 rfl ?_
          exact wm_iret dX8_mend_29 rfl ⟨rfl, rfl⟩ h hP
theorem o_X8_mend {g : Gx}  {p1 : Int32} {p2 : Int32} {p3 : Int32} {m : Mem} {t : Int32 × Mem} (h : f_X8_mend p1 p2 p3 m = some t) : MxM g 3 mi_X8_mend [.ref 0, .int p1, .int p2, .int p3] m (qI t) := mx_of pn_X8 (Nat.le_of_ble_eq_true rfl) (k_X8_mend_E h ⟨rfl, rfl, rfl, rfl, rfl⟩)
noncomputable def f_X8_of_J54  (v1 : Int32) (v2 : Int32) (m : Mem) : Option (Int32 × Mem) := if (gI m 1 14) ≤ v1 then some ((-2000000000 : Int32), m) else if ¬ v2 = (10 : Int32) then ck v1 6 (some ((gI m 7 (ix v1)), m)) else ck v1 6 (some ((gI m 6 (ix v1)), m))
theorem k_X8_of_J54 {g : Gx}  {v1 : Int32} {v2 : Int32}  {Q : Qy} {m : Mem} {t : Int32 × Mem} (h : f_X8_of_J54 v1 v2 m = some t) (hP : pI Q t) : WpM g 2 mi_X8_of 54 [some (.ref 0), some (.int v1), some (.int v2)] [] m (zM g mi_X8_of Q) := by
  refine wp_iload_n dX8_of_54 rfl rfl ?_
  refine wp_aload_n dX8_of_55 rfl rfl ?_
  refine wm_getR dX8_of_56 s_0 fk_X8_10 rfl r_0_0 rfl ?_
  refine wm_getI dX8_of_59 s_1 fk_X8_61 rfl rfl ?_
  refine wm_icmp_ge 93 dX8_of_62 rfl rfl h (fun h => ?_) (fun h => ?_)
  · refine wp_ldc dX8_of_93 q722 rfl ?_
    exact wm_iret dX8_of_95 rfl ⟨rfl, rfl⟩ h hP
  · refine wp_iload_n dX8_of_65 rfl rfl ?_
    refine wp_bipush (10 : Int32) dX8_of_66 ib_10 rfl ?_
    refine wm_icmp_ne 81 dX8_of_68 rfl rfl h (fun h => ?_) (fun h => ?_)
    · refine wp_aload_n dX8_of_81 rfl rfl ?_
      refine wm_getR dX8_of_82 s_0 fk_X8_10 rfl r_0_0 rfl ?_
      refine wm_getR dX8_of_85 s_1 fk_X8_145 rfl r_1_5 rfl ?_
      refine wp_iload_n dX8_of_88 rfl rfl ?_
      refine wm_iald dX8_of_89 s_7 rfl h (fun h => ?_)
      refine wp_goto 95 dX8_of_90 rfl ?_
      exact wm_iret dX8_of_95 rfl ⟨rfl, rfl⟩ h hP
    · refine wp_aload_n dX8_of_71 rfl rfl ?_
      refine wm_getR dX8_of_72 s_0 fk_X8_10 rfl r_0_0 rfl ?_
      refine wm_getR dX8_of_75 s_1 fk_X8_142 rfl r_1_4 rfl ?_
      refine wp_goto 88 dX8_of_78 rfl ?_
      refine wp_iload_n dX8_of_88 rfl rfl ?_
      refine wm_iald dX8_of_89 s_6 rfl h (fun h => ?_)
      refine wp_goto 95 dX8_of_90 rfl ?_
      exact wm_iret dX8_of_95 rfl ⟨rfl, rfl⟩ h hP
noncomputable def f_X8_of_J42  (v1 : Int32) (v2 : Int32) (m : Mem) : Option (Int32 × Mem) := if v2 = (10 : Int32) then f_X8_of_J54 v1 v2 m else if ¬ v2 = (11 : Int32) then if v2 < (20 : Int32) then some ((-2000000000 : Int32), m) else if (22 : Int32) < v2 then some ((-2000000000 : Int32), m) else if (gI m 1 15) ≤ v1 then some ((-2000000000 : Int32), m) else (f_X6_ofCard v1 v2 m).bind (fun q1 => some (q1.1, q1.2)) else f_X8_of_J54 v1 v2 m
theorem k_X8_of_J42 {g : Gx}  {v1 : Int32} {v2 : Int32}  {Q : Qy} {m : Mem} {t : Int32 × Mem} (h : f_X8_of_J42 v1 v2 m = some t) (hP : pI Q t) : WpM g 2 mi_X8_of 42 [some (.ref 0), some (.int v1), some (.int v2)] [] m (zM g mi_X8_of Q) := by
  refine wp_iload_n dX8_of_42 rfl rfl ?_
  refine wp_bipush (10 : Int32) dX8_of_43 ib_10 rfl ?_
  refine wm_icmp_eq 54 dX8_of_45 rfl rfl h (fun h => ?_) (fun h => ?_)
  · exact wm_mask [true, true, true] rfl (k_X8_of_J54  h hP)
  · refine wp_iload_n dX8_of_48 rfl rfl ?_
    refine wp_bipush (11 : Int32) dX8_of_49 ib_11 rfl ?_
    refine wm_icmp_ne 96 dX8_of_51 rfl rfl h (fun h => ?_) (fun h => ?_)
    · refine wp_iload_n dX8_of_96 rfl rfl ?_
      refine wp_bipush (20 : Int32) dX8_of_97 ib_20 rfl ?_
      refine wm_icmp_lt 134 dX8_of_99 rfl rfl h (fun h => ?_) (fun h => ?_)
      · refine wp_ldc dX8_of_134 q722 rfl ?_
        exact wm_iret dX8_of_136 rfl ⟨rfl, rfl⟩ h hP
      · refine wp_iload_n dX8_of_102 rfl rfl ?_
        refine wp_bipush (22 : Int32) dX8_of_103 ib_22 rfl ?_
        refine wm_icmp_gt 134 dX8_of_105 rfl rfl h (fun h => ?_) (fun h => ?_)
        · refine wp_ldc dX8_of_134 q722 rfl ?_
          exact wm_iret dX8_of_136 rfl ⟨rfl, rfl⟩ h hP
        · refine wp_iload_n dX8_of_108 rfl rfl ?_
          refine wp_aload_n dX8_of_109 rfl rfl ?_
          refine wm_getR dX8_of_110 s_0 fk_X8_10 rfl r_0_0 rfl ?_
          refine wm_getI dX8_of_113 s_1 fk_X8_71 rfl rfl ?_
          refine wm_icmp_ge 131 dX8_of_116 rfl rfl h (fun h => ?_) (fun h => ?_)
          · refine wp_ldc dX8_of_131 q722 rfl ?_
            exact wm_iret dX8_of_133 rfl ⟨rfl, rfl⟩ h hP
          · refine wp_aload_n dX8_of_119 rfl rfl ?_
            refine wm_getR dX8_of_120 s_0 fk_X8_10 rfl r_0_0 rfl ?_
            refine wp_iload_n dX8_of_123 rfl rfl ?_
            refine wp_iload_n dX8_of_124 rfl rfl ?_
            refine wm_callVI (As := [.int v1, .int v2]) (rest := []) dX8_of_125 ok_X8_148 (by decide) rfl s_1 ⟨_, rfl⟩ (Nat.le_of_ble_eq_true rfl) ⟨rfl, rfl⟩ rfl (fun t h => o_X6_ofCard h) h (fun q1 h => ?_)
            refine wp_goto 133 dX8_of_128 rfl ?_
            exact wm_iret dX8_of_133 rfl ⟨rfl, rfl⟩ h hP
    · exact wm_mask [true, true, true] rfl (k_X8_of_J54  h hP)
noncomputable def f_X8_of  (p1 : Int32) (p2 : Int32) (m : Mem) : Option (Int32 × Mem) := if 0 ≤ p1 then if p2 < 0 then f_X8_of_J42 p1 p2 m else if (3 : Int32) < p2 then f_X8_of_J42 p1 p2 m else if (gI m 1 13) ≤ p1 then some ((-2000000000 : Int32), m) else (f_X6_ofPerson p1 p2 m).bind (fun q2 => some (q2.1, q2.2)) else some ((-2000000000 : Int32), m)
theorem k_X8_of_E {g : Gx}  {p1 : Int32} {p2 : Int32} {Q : Qy} {m : Mem} {t : Int32 × Mem} (h : f_X8_of p1 p2 m = some t) (hP : pI Q t) : WpM g 2 mi_X8_of 0 [some (.ref 0), some (.int p1), some (.int p2)] [] m (zM g mi_X8_of Q) := by
  refine wp_iload_n dX8_of_0 rfl rfl ?_
  refine wm_if_ge 7 dX8_of_1 rfl rfl h (fun h => ?_) (fun h => ?_)
  · refine wp_iload_n dX8_of_7 rfl rfl ?_
    refine wm_if_lt 42 dX8_of_8 rfl rfl h (fun h => ?_) (fun h => ?_)
    · exact wm_mask [true, true, true] rfl (k_X8_of_J42  h hP)
    · refine wp_iload_n dX8_of_11 rfl rfl ?_
      refine wp_iconst (3 : Int32) dX8_of_12 ic_3 rfl ?_
      refine wm_icmp_gt 42 dX8_of_13 rfl rfl h (fun h => ?_) (fun h => ?_)
      · exact wm_mask [true, true, true] rfl (k_X8_of_J42  h hP)
      · refine wp_iload_n dX8_of_16 rfl rfl ?_
        refine wp_aload_n dX8_of_17 rfl rfl ?_
        refine wm_getR dX8_of_18 s_0 fk_X8_10 rfl r_0_0 rfl ?_
        refine wm_getI dX8_of_21 s_1 fk_X8_53 rfl rfl ?_
        refine wm_icmp_ge 39 dX8_of_24 rfl rfl h (fun h => ?_) (fun h => ?_)
        · refine wp_ldc dX8_of_39 q722 rfl ?_
          exact wm_iret dX8_of_41 rfl ⟨rfl, rfl⟩ h hP
        · refine wp_aload_n dX8_of_27 rfl rfl ?_
          refine wm_getR dX8_of_28 s_0 fk_X8_10 rfl r_0_0 rfl ?_
          refine wp_iload_n dX8_of_31 rfl rfl ?_
          refine wp_iload_n dX8_of_32 rfl rfl ?_
          refine wm_callVI (As := [.int p1, .int p2]) (rest := []) dX8_of_33 ok_X8_139 (by decide) rfl s_1 ⟨_, rfl⟩ (Nat.le_of_ble_eq_true rfl) ⟨rfl, rfl⟩ rfl (fun t h => o_X6_ofPerson h) h (fun q2 h => ?_)
          refine wp_goto 41 dX8_of_36 rfl ?_
          exact wm_iret dX8_of_41 rfl ⟨rfl, rfl⟩ h hP
  · refine wp_ldc dX8_of_4 q722 rfl ?_
    exact wm_iret dX8_of_6 rfl ⟨rfl, rfl⟩ h hP
theorem o_X8_of {g : Gx}  {p1 : Int32} {p2 : Int32} {m : Mem} {t : Int32 × Mem} (h : f_X8_of p1 p2 m = some t) : MxM g 2 mi_X8_of [.ref 0, .int p1, .int p2] m (qI t) := mx_of pn_X8 (Nat.le_of_ble_eq_true rfl) (k_X8_of_E h ⟨rfl, rfl, rfl, rfl, rfl⟩)
noncomputable def f_X8_order  (p1 : Int32) (m : Mem) : Option (Int32 × Mem) := (f_X7_answer (1 : Int32) p1 m).bind (fun q1 => some (q1.1, q1.2))
theorem k_X8_order_E {g : Gx}  {p1 : Int32} {Q : Qy} {m : Mem} {t : Int32 × Mem} (h : f_X8_order p1 m = some t) (hP : pI Q t) : WpM g 8 mi_X8_order 0 [some (.ref 0), some (.int p1)] [] m (zM g mi_X8_order Q) := by
  refine wp_aload_n dX8_order_0 rfl rfl ?_
  refine wm_getR dX8_order_1 s_0 fk_X8_35 rfl r_0_3 rfl ?_
  refine wp_iconst (1 : Int32) dX8_order_4 ic_1 rfl ?_
  refine wp_iload_n dX8_order_5 rfl rfl ?_
  refine wm_callVI (As := [.int (1 : Int32), .int p1]) (rest := []) dX8_order_6 ok_X8_201 (by decide) rfl s_53 ⟨_, rfl⟩ (Nat.le_of_ble_eq_true rfl) ⟨rfl, rfl⟩ rfl (fun t h => o_X7_answer h) h (fun q1 h => ?_)
  exact wm_iret dX8_order_9 rfl ⟨rfl, rfl⟩ h hP
theorem o_X8_order {g : Gx}  {p1 : Int32} {m : Mem} {t : Int32 × Mem} (h : f_X8_order p1 m = some t) : MxM g 8 mi_X8_order [.ref 0, .int p1] m (qI t) := mx_of pn_X8 (Nat.le_of_ble_eq_true rfl) (k_X8_order_E h ⟨rfl, rfl, rfl, rfl, rfl⟩)
noncomputable def f_X8_person  (p1 : Int32) (p2 : Int32) (m : Mem) : Option (Int32 × Mem) := if p1 < 0 then some ((-1 : Int32), m) else if (99 : Int32) < p1 then some ((-1 : Int32), m) else if p2 < 0 then some ((-1 : Int32), m) else if p2 ≤ (9999 : Int32) then if (gI m 1 13) < (10 : Int32) then (f_X6_addPerson p1 p2 m).bind (fun q1 => some (q1.1, q1.2)) else some ((-3 : Int32), m) else some ((-1 : Int32), m)
theorem k_X8_person_E {g : Gx}  {p1 : Int32} {p2 : Int32} {Q : Qy} {m : Mem} {t : Int32 × Mem} (h : f_X8_person p1 p2 m = some t) (hP : pI Q t) : WpM g 2 mi_X8_person 0 [some (.ref 0), some (.int p1), some (.int p2)] [] m (zM g mi_X8_person Q) := by
  refine wp_iload_n dX8_person_0 rfl rfl ?_
  refine wm_if_lt 21 dX8_person_1 rfl rfl h (fun h => ?_) (fun h => ?_)
  · refine wp_iconst (-1 : Int32) dX8_person_21 ic_m1 rfl ?_
    exact wm_iret dX8_person_22 rfl ⟨rfl, rfl⟩ h hP
  · refine wp_iload_n dX8_person_4 rfl rfl ?_
    refine wp_bipush (99 : Int32) dX8_person_5 ib_99 rfl ?_
    refine wm_icmp_gt 21 dX8_person_7 rfl rfl h (fun h => ?_) (fun h => ?_)
    · refine wp_iconst (-1 : Int32) dX8_person_21 ic_m1 rfl ?_
      exact wm_iret dX8_person_22 rfl ⟨rfl, rfl⟩ h hP
    · refine wp_iload_n dX8_person_10 rfl rfl ?_
      refine wm_if_lt 21 dX8_person_11 rfl rfl h (fun h => ?_) (fun h => ?_)
      · refine wp_iconst (-1 : Int32) dX8_person_21 ic_m1 rfl ?_
        exact wm_iret dX8_person_22 rfl ⟨rfl, rfl⟩ h hP
      · refine wp_iload_n dX8_person_14 rfl rfl ?_
        refine wp_sipush (9999 : Int32) dX8_person_15 is_9999 rfl ?_
        refine wm_icmp_le 23 dX8_person_18 rfl rfl h (fun h => ?_) (fun h => ?_)
        · refine wp_aload_n dX8_person_23 rfl rfl ?_
          refine wm_getR dX8_person_24 s_0 fk_X8_10 rfl r_0_0 rfl ?_
          refine wm_getI dX8_person_27 s_1 fk_X8_53 rfl rfl ?_
          refine wp_bipush (10 : Int32) dX8_person_30 ib_10 rfl ?_
          refine wm_icmp_lt 40 dX8_person_32 rfl rfl h (fun h => ?_) (fun h => ?_)
          · refine wp_aload_n dX8_person_40 rfl rfl ?_
            refine wm_getR dX8_person_41 s_0 fk_X8_10 rfl r_0_0 rfl ?_
            refine wp_iload_n dX8_person_44 rfl rfl ?_
            refine wp_iload_n dX8_person_45 rfl rfl ?_
            refine wm_callVI (As := [.int p1, .int p2]) (rest := []) dX8_person_46 ok_X8_57 (by decide) rfl s_1 ⟨_, rfl⟩ (Nat.le_of_ble_eq_true rfl) ⟨rfl, rfl⟩ rfl (fun t h => o_X6_addPerson h) h (fun q1 h => ?_)
            exact wm_iret dX8_person_49 rfl ⟨rfl, rfl⟩ h hP
          · refine wp_bipush (-3 : Int32) dX8_person_35 ib_m3 rfl ?_
            refine wp_goto 49 dX8_person_37 rfl ?_
            exact wm_iret dX8_person_49 rfl ⟨rfl, rfl⟩ h hP
        · refine wp_iconst (-1 : Int32) dX8_person_21 ic_m1 rfl ?_
          exact wm_iret dX8_person_22 rfl ⟨rfl, rfl⟩ h hP
theorem o_X8_person {g : Gx}  {p1 : Int32} {p2 : Int32} {m : Mem} {t : Int32 × Mem} (h : f_X8_person p1 p2 m = some t) : MxM g 2 mi_X8_person [.ref 0, .int p1, .int p2] m (qI t) := mx_of pn_X8 (Nat.le_of_ble_eq_true rfl) (k_X8_person_E h ⟨rfl, rfl, rfl, rfl, rfl⟩)
noncomputable def f_X8_put  (p1 : Int32) (p2 : Int32) (p3 : Int64) (m : Mem) : Option (Int32 × Mem) := (f_X8_isNoShelf p1 m).bind (fun q1 => if q1.1 = 0 then ck p1 6 (bnd (73 + 2 * ix p1) (fun s2 => (f_X5_refusalAt s2 p2 q1.2).bind (fun q3 => if q3.1 = 0 then ck p1 6 (bnd (73 + 2 * ix p1) (fun s4 => (f_X5_store s4 p2 p3 q3.2).bind (fun q5 => some ((1 : Int32), q5)))) else some (q3.1, q3.2)))) else some ((-1 : Int32), q1.2))
theorem k_X8_put_E {g : Gx}  {p1 : Int32} {p2 : Int32} {p3 : Int64} {Q : Qy} {m : Mem} {t : Int32 × Mem} (h : f_X8_put p1 p2 p3 m = some t) (hP : pI Q t) : WpM g 2 mi_X8_put 0 [some (.ref 0), some (.int p1), some (.int p2), some (.long p3), none, none] [] m (zM g mi_X8_put Q) := by
  refine wp_iload_n dX8_put_0 rfl rfl ?_
  refine wm_callSI (As := [.int p1]) (rest := []) dX8_put_1 ok_X8_78 (by decide) rfl (Nat.le_of_ble_eq_true rfl) ⟨rfl, rfl⟩ rfl (fun t h => o_X8_isNoShelf h) h (fun q1 h => ?_)
  refine wm_if_eq 9 dX8_put_4 rfl rfl h (fun h => ?_) (fun h => ?_)
  · refine wp_aload_n dX8_put_9 rfl rfl ?_
    refine wm_getR dX8_put_10 s_0 fk_X8_48 rfl r_0_5 rfl ?_
    refine wp_iload_n dX8_put_13 rfl rfl ?_
    refine wm_shelf dX8_put_14 rfl h (fun s2 hs2 h => ?_)
    refine wp_iload_n dX8_put_15 rfl rfl ?_
    refine wm_callVI (As := [.int p2]) (rest := []) dX8_put_16 ok_X8_258 (by decide) rfl (sS_0 hs2) ⟨_, rfl⟩ (Nat.le_of_ble_eq_true rfl) ⟨rfl, rfl⟩ rfl (fun t h => o_X5_refusalAt hs2 h) h (fun q3 h => ?_)
    refine wp_istore dX8_put_19 (by decide) rfl rfl rfl ?_
    refine wp_iload dX8_put_21 rfl rfl ?_
    refine wm_if_eq 29 dX8_put_23 rfl rfl h (fun h => ?_) (fun h => ?_)
    · refine wp_aload_n dX8_put_29 rfl rfl ?_
      refine wm_getR dX8_put_30 s_0 fk_X8_48 rfl r_0_5 rfl ?_
      refine wp_iload_n dX8_put_33 rfl rfl ?_
      refine wm_shelf dX8_put_34 rfl h (fun s4 hs4 h => ?_)
      refine wp_iload_n dX8_put_35 rfl rfl ?_
      refine wp_lload_n dX8_put_36 rfl rfl ?_
      refine wm_callVN (As := [.int p2, .long p3]) (rest := []) dX8_put_37 ok_X8_261 (by decide) rfl (sS_0 hs4) ⟨_, rfl⟩ (Nat.le_of_ble_eq_true rfl) ⟨rfl, rfl⟩ rfl (fun t h => o_X5_store hs4 h) h (fun q5 h => ?_)
      refine wp_iconst (1 : Int32) dX8_put_40 ic_1 rfl ?_
      exact wm_iret dX8_put_41 rfl ⟨rfl, rfl⟩ h hP
    · refine wp_iload dX8_put_26 rfl rfl ?_
      exact wm_iret dX8_put_28 rfl ⟨rfl, rfl⟩ h hP
  · refine wp_iconst (-1 : Int32) dX8_put_7 ic_m1 rfl ?_
    exact wm_iret dX8_put_8 rfl ⟨rfl, rfl⟩ h hP
theorem o_X8_put {g : Gx}  {p1 : Int32} {p2 : Int32} {p3 : Int64} {m : Mem} {t : Int32 × Mem} (h : f_X8_put p1 p2 p3 m = some t) : MxM g 2 mi_X8_put [.ref 0, .int p1, .int p2, .long p3] m (qI t) := mx_of pn_X8 (Nat.le_of_ble_eq_true rfl) (k_X8_put_E h ⟨rfl, rfl, rfl, rfl, rfl⟩)
noncomputable def f_X8_redo   (m : Mem) : Option (Int32 × Mem) := (f_X1_goOn m).bind (fun q1 => if ¬ q1.1 = 0 then bnd ((gI q1.2 19 4) - (1 : Int32)) (fun y2 => ck y2 40 (ck y2 40 (ck y2 40 ((f_X6_change (gI q1.2 20 (ix y2)) (gI q1.2 21 (ix y2)) (gI q1.2 23 (ix y2)) q1.2).bind (fun q3 => some (((gI q3 19 5) - (gI q3 19 4)), q3)))))) else some ((-5 : Int32), q1.2))
theorem k_X8_redo_E {g : Gx}   {Q : Qy} {m : Mem} {t : Int32 × Mem} (h : f_X8_redo m = some t) (hP : pI Q t) : WpM g 3 mi_X8_redo 0 [some (.ref 0), none] [] m (zM g mi_X8_redo Q) := by
  refine wp_aload_n dX8_redo_0 rfl rfl ?_
  refine wm_getR dX8_redo_1 s_0 fk_X8_19 rfl r_0_1 rfl ?_
  refine wm_callVI (As := []) (rest := []) dX8_redo_4 ok_X8_226 (by decide) rfl s_19 ⟨_, rfl⟩ (Nat.le_of_ble_eq_true rfl) ⟨rfl, rfl⟩ rfl (fun t h => o_X1_goOn h) h (fun q1 h => ?_)
  refine wm_if_ne 13 dX8_redo_7 rfl rfl h (fun h => ?_) (fun h => ?_)
  · refine wp_aload_n dX8_redo_13 rfl rfl ?_
    refine wm_getR dX8_redo_14 s_0 fk_X8_19 rfl r_0_1 rfl ?_
    refine wm_getI dX8_redo_17 s_19 fk_X8_214 rfl rfl ?_
    refine wp_iconst (1 : Int32) dX8_redo_20 ic_1 rfl ?_
    refine wp_isub dX8_redo_21 rfl ?_
    refine wm_nm h (fun y2 h => ?_)
    refine wp_istore_n dX8_redo_22 (by decide) rfl rfl rfl ?_
    refine wp_aload_n dX8_redo_23 rfl rfl ?_
    refine wm_getR dX8_redo_24 s_0 fk_X8_10 rfl r_0_0 rfl ?_
    refine wp_aload_n dX8_redo_27 rfl rfl ?_
    refine wm_getR dX8_redo_28 s_0 fk_X8_19 rfl r_0_1 rfl ?_
    refine wm_getR dX8_redo_31 s_19 fk_X8_217 rfl r_19_0 rfl ?_
    refine wp_iload_n dX8_redo_34 rfl rfl ?_
    refine wm_iald dX8_redo_35 s_20 rfl h (fun h => ?_)
    refine wp_aload_n dX8_redo_36 rfl rfl ?_
    refine wm_getR dX8_redo_37 s_0 fk_X8_19 rfl r_0_1 rfl ?_
    refine wm_getR dX8_redo_40 s_19 fk_X8_220 rfl r_19_1 rfl ?_
    refine wp_iload_n dX8_redo_43 rfl rfl ?_
    refine wm_iald dX8_redo_44 s_21 rfl h (fun h => ?_)
    refine wp_aload_n dX8_redo_45 rfl rfl ?_
    refine wm_getR dX8_redo_46 s_0 fk_X8_19 rfl r_0_1 rfl ?_
    refine wm_getR dX8_redo_49 s_19 fk_X8_229 rfl r_19_3 rfl ?_
    refine wp_iload_n dX8_redo_52 rfl rfl ?_
    refine wm_iald dX8_redo_53 s_23 rfl h (fun h => ?_)
    refine wm_callVN (As := [.int (gI q1.2 20 (ix y2)), .int (gI q1.2 21 (ix y2)), .int (gI q1.2 23 (ix y2))]) (rest := []) dX8_redo_54 ok_X8_135 (by decide) rfl s_1 ⟨_, rfl⟩ (Nat.le_of_ble_eq_true rfl) ⟨rfl, rfl⟩ rfl (fun t h => o_X6_change h) h (fun q3 h => ?_)
    refine wp_aload_n dX8_redo_57 rfl rfl ?_
    refine wm_getR dX8_redo_58 s_0 fk_X8_19 rfl r_0_1 rfl ?_
    refine wm_getI dX8_redo_61 s_19 fk_X8_232 rfl rfl ?_
    refine wp_aload_n dX8_redo_64 rfl rfl ?_
    refine wm_getR dX8_redo_65 s_0 fk_X8_19 rfl r_0_1 rfl ?_
    refine wm_getI dX8_redo_68 s_19 fk_X8_214 rfl rfl ?_
    refine wp_isub dX8_redo_71 rfl ?_
    exact wm_iret dX8_redo_72 rfl ⟨rfl, rfl⟩ h hP
  · refine wp_bipush (-5 : Int32) dX8_redo_10 ib_m5 rfl ?_
    exact wm_iret dX8_redo_12 rfl ⟨rfl, rfl⟩ h hP
theorem o_X8_redo {g : Gx}   {m : Mem} {t : Int32 × Mem} (h : f_X8_redo m = some t) : MxM g 3 mi_X8_redo [.ref 0] m (qI t) := mx_of pn_X8 (Nat.le_of_ble_eq_true rfl) (k_X8_redo_E h ⟨rfl, rfl, rfl, rfl, rfl⟩)
noncomputable def f_X8_row  (p1 : Int32) (p2 : Int32) (p3 : Int32) (m : Mem) : Option (Int32 × Mem) := (f_X8_isNoShelf p1 m).bind (fun q1 => if ¬ q1.1 = 0 then some ((-1 : Int32), q1.2) else if p2 < 0 then some ((-1 : Int32), q1.2) else if (4 : Int32) < p2 then some ((-1 : Int32), q1.2) else if p3 ≤ (60 : Int32) then if 0 ≤ p3 then ck p1 6 (bnd (73 + 2 * ix p1) (fun s2 => (f_X5_holdRow s2 p2 p3 q1.2).bind (fun q3 => some ((1 : Int32), q3)))) else some ((-14 : Int32), q1.2) else some ((-1 : Int32), q1.2))
theorem k_X8_row_E {g : Gx}  {p1 : Int32} {p2 : Int32} {p3 : Int32} {Q : Qy} {m : Mem} {t : Int32 × Mem} (h : f_X8_row p1 p2 p3 m = some t) (hP : pI Q t) : WpM g 3 mi_X8_row 0 [some (.ref 0), some (.int p1), some (.int p2), some (.int p3)] [] m (zM g mi_X8_row Q) := by
  refine wp_iload_n dX8_row_0 rfl rfl ?_
  refine wm_callSI (As := [.int p1]) (rest := []) dX8_row_1 ok_X8_78 (by decide) rfl (Nat.le_of_ble_eq_true rfl) ⟨rfl, rfl⟩ rfl (fun t h => o_X8_isNoShelf h) h (fun q1 h => ?_)
  refine wm_if_ne 22 dX8_row_4 rfl rfl h (fun h => ?_) (fun h => ?_)
  · refine wp_iconst (-1 : Int32) dX8_row_22 ic_m1 rfl ?_
    exact wm_iret dX8_row_23 rfl ⟨rfl, rfl⟩ h hP
  · refine wp_iload_n dX8_row_7 rfl rfl ?_
    refine wm_if_lt 22 dX8_row_8 rfl rfl h (fun h => ?_) (fun h => ?_)
    · refine wp_iconst (-1 : Int32) dX8_row_22 ic_m1 rfl ?_
      exact wm_iret dX8_row_23 rfl ⟨rfl, rfl⟩ h hP
    · refine wp_iload_n dX8_row_11 rfl rfl ?_
      refine wp_iconst (4 : Int32) dX8_row_12 ic_4 rfl ?_
      refine wm_icmp_gt 22 dX8_row_13 rfl rfl h (fun h => ?_) (fun h => ?_)
      · refine wp_iconst (-1 : Int32) dX8_row_22 ic_m1 rfl ?_
        exact wm_iret dX8_row_23 rfl ⟨rfl, rfl⟩ h hP
      · refine wp_iload_n dX8_row_16 rfl rfl ?_
        refine wp_bipush (60 : Int32) dX8_row_17 ib_60 rfl ?_
        refine wm_icmp_le 24 dX8_row_19 rfl rfl h (fun h => ?_) (fun h => ?_)
        · refine wp_iload_n dX8_row_24 rfl rfl ?_
          refine wm_if_ge 31 dX8_row_25 rfl rfl h (fun h => ?_) (fun h => ?_)
          · refine wp_aload_n dX8_row_31 rfl rfl ?_
            refine wm_getR dX8_row_32 s_0 fk_X8_48 rfl r_0_5 rfl ?_
            refine wp_iload_n dX8_row_35 rfl rfl ?_
            refine wm_shelf dX8_row_36 rfl h (fun s2 hs2 h => ?_)
            refine wp_iload_n dX8_row_37 rfl rfl ?_
            refine wp_iload_n dX8_row_38 rfl rfl ?_
            refine wm_callVN (As := [.int p2, .int p3]) (rest := []) dX8_row_39 ok_X8_254 (by decide) rfl (sS_0 hs2) ⟨_, rfl⟩ (Nat.le_of_ble_eq_true rfl) ⟨rfl, rfl⟩ rfl (fun t h => o_X5_holdRow hs2 h) h (fun q3 h => ?_)
            refine wp_iconst (1 : Int32) dX8_row_42 ic_1 rfl ?_
            exact wm_iret dX8_row_43 rfl ⟨rfl, rfl⟩ h hP
          · refine wp_bipush (-14 : Int32) dX8_row_28 ib_m14 rfl ?_
            exact wm_iret dX8_row_30 rfl ⟨rfl, rfl⟩ h hP
        · refine wp_iconst (-1 : Int32) dX8_row_22 ic_m1 rfl ?_
          exact wm_iret dX8_row_23 rfl ⟨rfl, rfl⟩ h hP
theorem o_X8_row {g : Gx}  {p1 : Int32} {p2 : Int32} {p3 : Int32} {m : Mem} {t : Int32 × Mem} (h : f_X8_row p1 p2 p3 m = some t) : MxM g 3 mi_X8_row [.ref 0, .int p1, .int p2, .int p3] m (qI t) := mx_of pn_X8 (Nat.le_of_ble_eq_true rfl) (k_X8_row_E h ⟨rfl, rfl, rfl, rfl, rfl⟩)
noncomputable def f_X8_rule  (p1 : Int32) (m : Mem) : Option (Int32 × Mem) := (f_X7_answer (0 : Int32) p1 m).bind (fun q1 => some (q1.1, q1.2))
theorem k_X8_rule_E {g : Gx}  {p1 : Int32} {Q : Qy} {m : Mem} {t : Int32 × Mem} (h : f_X8_rule p1 m = some t) (hP : pI Q t) : WpM g 8 mi_X8_rule 0 [some (.ref 0), some (.int p1)] [] m (zM g mi_X8_rule Q) := by
  refine wp_aload_n dX8_rule_0 rfl rfl ?_
  refine wm_getR dX8_rule_1 s_0 fk_X8_35 rfl r_0_3 rfl ?_
  refine wp_iconst (0 : Int32) dX8_rule_4 ic_0 rfl ?_
  refine wp_iload_n dX8_rule_5 rfl rfl ?_
  refine wm_callVI (As := [.int (0 : Int32), .int p1]) (rest := []) dX8_rule_6 ok_X8_201 (by decide) rfl s_53 ⟨_, rfl⟩ (Nat.le_of_ble_eq_true rfl) ⟨rfl, rfl⟩ rfl (fun t h => o_X7_answer h) h (fun q1 h => ?_)
  exact wm_iret dX8_rule_9 rfl ⟨rfl, rfl⟩ h hP
theorem o_X8_rule {g : Gx}  {p1 : Int32} {m : Mem} {t : Int32 × Mem} (h : f_X8_rule p1 m = some t) : MxM g 8 mi_X8_rule [.ref 0, .int p1] m (qI t) := mx_of pn_X8 (Nat.le_of_ble_eq_true rfl) (k_X8_rule_E h ⟨rfl, rfl, rfl, rfl, rfl⟩)
noncomputable def f_X8_saying  (p1 : Int32) (p2 : Int32) (m : Mem) : Option (Int32 × Mem) := if p2 < 0 then some ((-1 : Int32), m) else if p2 < (7 : Int32) then if ¬ (gI m 24 3) = 0 then if p1 < 0 then some ((-1 : Int32), m) else if p1 < (gI m 29 7) then ck ((p1 * (7 : Int32)) + p2) 1400 (some ((gI m (29 + 1) (ix ((p1 * (7 : Int32)) + p2))), m)) else some ((-1 : Int32), m) else some ((-5 : Int32), m) else some ((-1 : Int32), m)
theorem k_X8_saying_E {g : Gx}  {p1 : Int32} {p2 : Int32} {Q : Qy} {m : Mem} {t : Int32 × Mem} (h : f_X8_saying p1 p2 m = some t) (hP : pI Q t) : WpM g 1 mi_X8_saying 0 [some (.ref 0), some (.int p1), some (.int p2)] [] m (zM g mi_X8_saying Q) := by
  refine wp_iload_n dX8_saying_0 rfl rfl ?_
  refine wm_if_lt 10 dX8_saying_1 rfl rfl h (fun h => ?_) (fun h => ?_)
  · refine wp_iconst (-1 : Int32) dX8_saying_10 ic_m1 rfl ?_
    exact wm_iret dX8_saying_11 rfl ⟨rfl, rfl⟩ h hP
  · refine wp_iload_n dX8_saying_4 rfl rfl ?_
    refine wp_bipush (7 : Int32) dX8_saying_5 ib_7 rfl ?_
    refine wm_icmp_lt 12 dX8_saying_7 rfl rfl h (fun h => ?_) (fun h => ?_)
    · refine wp_aload_n dX8_saying_12 rfl rfl ?_
      refine wm_getR dX8_saying_13 s_0 fk_X8_28 rfl r_0_2 rfl ?_
      refine wm_getI dX8_saying_16 s_24 fk_X8_160 rfl rfl ?_
      refine wm_if_ne 25 dX8_saying_19 rfl rfl h (fun h => ?_) (fun h => ?_)
      · refine wp_iload_n dX8_saying_25 rfl rfl ?_
        refine wm_if_lt 43 dX8_saying_26 rfl rfl h (fun h => ?_) (fun h => ?_)
        · refine wp_iconst (-1 : Int32) dX8_saying_43 ic_m1 rfl ?_
          refine wp_goto 64 dX8_saying_44 rfl ?_
          exact wm_iret dX8_saying_64 rfl ⟨rfl, rfl⟩ h hP
        · refine wp_iload_n dX8_saying_29 rfl rfl ?_
          refine wp_aload_n dX8_saying_30 rfl rfl ?_
          refine wm_getR dX8_saying_31 s_0 fk_X8_28 rfl r_0_2 rfl ?_
          refine wm_getR dX8_saying_34 s_24 fk_X8_167 rfl r_24_0 rfl ?_
          refine wm_getI dX8_saying_37 (sM_0 (by unfold MA; omega)) fk_X8_171 rfl rfl ?_
          refine wm_icmp_lt 47 dX8_saying_40 rfl rfl h (fun h => ?_) (fun h => ?_)
          · refine wp_aload_n dX8_saying_47 rfl rfl ?_
            refine wm_getR dX8_saying_48 s_0 fk_X8_28 rfl r_0_2 rfl ?_
            refine wm_getR dX8_saying_51 s_24 fk_X8_167 rfl r_24_0 rfl ?_
            refine wm_getR dX8_saying_54 (sM_0 (by unfold MA; omega)) fk_X8_176 rfl (rM_0 (by unfold MA; omega)) rfl ?_
            refine wp_iload_n dX8_saying_57 rfl rfl ?_
            refine wp_bipush (7 : Int32) dX8_saying_58 ib_7 rfl ?_
            refine wp_imul dX8_saying_60 rfl ?_
            refine wp_iload_n dX8_saying_61 rfl rfl ?_
            refine wp_iadd dX8_saying_62 rfl ?_
            refine wm_iald dX8_saying_63 (sM_1 (by unfold MA; omega)) rfl h (fun h => ?_)
            exact wm_iret dX8_saying_64 rfl ⟨rfl, rfl⟩ h hP
          · refine wp_iconst (-1 : Int32) dX8_saying_43 ic_m1 rfl ?_
            refine wp_goto 64 dX8_saying_44 rfl ?_
            exact wm_iret dX8_saying_64 rfl ⟨rfl, rfl⟩ h hP
      · refine wp_bipush (-5 : Int32) dX8_saying_22 ib_m5 rfl ?_
        exact wm_iret dX8_saying_24 rfl ⟨rfl, rfl⟩ h hP
    · refine wp_iconst (-1 : Int32) dX8_saying_10 ic_m1 rfl ?_
      exact wm_iret dX8_saying_11 rfl ⟨rfl, rfl⟩ h hP
theorem o_X8_saying {g : Gx}  {p1 : Int32} {p2 : Int32} {m : Mem} {t : Int32 × Mem} (h : f_X8_saying p1 p2 m = some t) : MxM g 1 mi_X8_saying [.ref 0, .int p1, .int p2] m (qI t) := mx_of pn_X8 (Nat.le_of_ble_eq_true rfl) (k_X8_saying_E h ⟨rfl, rfl, rfl, rfl, rfl⟩)
noncomputable def f_X8_set  (p1 : Int32) (p2 : Int32) (m : Mem) : Option (Int32 × Mem) := if p1 < 0 then some ((-1 : Int32), m) else if (2 : Int32) < p1 then some ((-1 : Int32), m) else ck p1 (st_0.length) (if p2 < (st_0.getD (ix p1) 0) then some ((-1 : Int32), m) else ck p1 (st_1.length) (if p2 ≤ (st_1.getD (ix p1) 0) then ck p1 3 (bnd (gI m 11 (ix p1)) (fun y1 => ck p1 3 (bnd (sI m 11 (ix p1) p2) (fun m2 => bnd (sI m2 1 16 ((gI m2 1 16) + (1 : Int32))) (fun m3 => some (y1, m3)))))) else some ((-1 : Int32), m)))
theorem k_X8_set_E {g : Gx}  {p1 : Int32} {p2 : Int32} {Q : Qy} {m : Mem} {t : Int32 × Mem} (h : f_X8_set p1 p2 m = some t) (hP : pI Q t) : WpM g 1 mi_X8_set 0 [some (.ref 0), some (.int p1), some (.int p2), none] [] m (zM g mi_X8_set Q) := by
  refine wp_iload_n dX8_set_0 rfl rfl ?_
  refine wm_if_lt 27 dX8_set_1 rfl rfl h (fun h => ?_) (fun h => ?_)
  · refine wp_iconst (-1 : Int32) dX8_set_27 ic_m1 rfl ?_
    exact wm_iret dX8_set_28 rfl ⟨rfl, rfl⟩ h hP
  · refine wp_iload_n dX8_set_4 rfl rfl ?_
    refine wp_iconst (2 : Int32) dX8_set_5 ic_2 rfl ?_
    refine wm_icmp_gt 27 dX8_set_6 rfl rfl h (fun h => ?_) (fun h => ?_)
    · refine wp_iconst (-1 : Int32) dX8_set_27 ic_m1 rfl ?_
      exact wm_iret dX8_set_28 rfl ⟨rfl, rfl⟩ h hP
    · refine wp_iload_n dX8_set_9 rfl rfl ?_
      refine wp_gets (j := 0) dX8_set_10 rfl q710 rfl ?_
      refine wp_iload_n dX8_set_13 rfl rfl ?_
      refine wm_ti (j := 0) (xs := st_0) dX8_set_14 rfl rfl h (fun h => ?_)
      refine wm_icmp_lt 27 dX8_set_15 rfl rfl h (fun h => ?_) (fun h => ?_)
      · refine wp_iconst (-1 : Int32) dX8_set_27 ic_m1 rfl ?_
        exact wm_iret dX8_set_28 rfl ⟨rfl, rfl⟩ h hP
      · refine wp_iload_n dX8_set_18 rfl rfl ?_
        refine wp_gets (j := 1) dX8_set_19 rfl q712 rfl ?_
        refine wp_iload_n dX8_set_22 rfl rfl ?_
        refine wm_ti (j := 1) (xs := st_1) dX8_set_23 rfl rfl h (fun h => ?_)
        refine wm_icmp_le 29 dX8_set_24 rfl rfl h (fun h => ?_) (fun h => ?_)
        · refine wp_aload_n dX8_set_29 rfl rfl ?_
          refine wm_getR dX8_set_30 s_0 fk_X8_10 rfl r_0_0 rfl ?_
          refine wm_getR dX8_set_33 s_1 fk_X8_117 rfl r_1_9 rfl ?_
          refine wp_iload_n dX8_set_36 rfl rfl ?_
          refine wm_iald dX8_set_37 s_11 rfl h (fun h => ?_)
          refine wm_nm h (fun y1 h => ?_)
          refine wp_istore_n dX8_set_38 (by decide) rfl rfl rfl ?_
          refine wp_aload_n dX8_set_39 rfl rfl ?_
          refine wm_getR dX8_set_40 s_0 fk_X8_10 rfl r_0_0 rfl ?_
          refine wm_getR dX8_set_43 s_1 fk_X8_117 rfl r_1_9 rfl ?_
          refine wp_iload_n dX8_set_46 rfl rfl ?_
          refine wp_iload_n dX8_set_47 rfl rfl ?_
          refine wm_iast dX8_set_48 s_11 rfl h (fun m2 h => ?_)
          refine wp_aload_n dX8_set_49 rfl rfl ?_
          refine wm_getR dX8_set_50 s_0 fk_X8_10 rfl r_0_0 rfl ?_
          refine wp_dup dX8_set_53 rfl rfl ?_
          refine wm_getI dX8_set_54 s_1 fk_X8_107 rfl rfl ?_
          refine wp_iconst (1 : Int32) dX8_set_57 ic_1 rfl ?_
          refine wp_iadd dX8_set_58 rfl ?_
          refine wm_putI dX8_set_59 s_1 fk_X8_107 rfl rfl h (fun m3 h => ?_)
          refine wp_iload_n dX8_set_62 rfl rfl ?_
          exact wm_iret dX8_set_63 rfl ⟨rfl, rfl⟩ h hP
        · refine wp_iconst (-1 : Int32) dX8_set_27 ic_m1 rfl ?_
          exact wm_iret dX8_set_28 rfl ⟨rfl, rfl⟩ h hP
theorem o_X8_set {g : Gx}  {p1 : Int32} {p2 : Int32} {m : Mem} {t : Int32 × Mem} (h : f_X8_set p1 p2 m = some t) : MxM g 1 mi_X8_set [.ref 0, .int p1, .int p2] m (qI t) := mx_of pn_X8 (Nat.le_of_ble_eq_true rfl) (k_X8_set_E h ⟨rfl, rfl, rfl, rfl, rfl⟩)
noncomputable def f_X8_shift  (p1 : Int32) (p2 : Int32) (p3 : Int32) (p4 : Int32) (p5 : Int32) (m : Mem) : Option (Int32 × Mem) := (f_X8_isNoShelf p1 m).bind (fun q1 => if ¬ q1.1 = 0 then some ((-1 : Int32), q1.2) else (f_X8_isNoShelf p3 q1.2).bind (fun q2 => if q2.1 = 0 then ck p1 6 (bnd (73 + 2 * ix p1) (fun s3 => ck p3 6 (bnd (73 + 2 * ix p3) (fun s4 => if (gI q2.2 s3 0) = (-2 : Int32) then some ((-11 : Int32), q2.2) else if ¬ (gI q2.2 s4 0) = (-2 : Int32) then if (gI q2.2 s3 0) = (-1 : Int32) then some ((-12 : Int32), q2.2) else if (gI q2.2 s3 0) = (gI q2.2 s4 0) then (f_X5_hasRun s3 p2 p5 q2.2).bind (fun q5 => if q5.1 = 0 then some ((-13 : Int32), q5.2) else (f_X5_hasRun s4 p4 p5 q5.2).bind (fun q6 => if ¬ q6.1 = 0 then cpk p2 p4 p5 60 60 (bnd (cJ q6.2 (s3 + 1) p2 (s4 + 1) p4 p5) (fun m7 => some (p5, m7))) else some ((-13 : Int32), q6.2))) else some ((-12 : Int32), q2.2) else some ((-11 : Int32), q2.2))))) else some ((-1 : Int32), q2.2)))
theorem k_X8_shift_E {g : Gx}  {p1 : Int32} {p2 : Int32} {p3 : Int32} {p4 : Int32} {p5 : Int32} {Q : Qy} {m : Mem} {t : Int32 × Mem} (h : f_X8_shift p1 p2 p3 p4 p5 m = some t) (hP : pI Q t) : WpM g 2 mi_X8_shift 0 [some (.ref 0), some (.int p1), some (.int p2), some (.int p3), some (.int p4), some (.int p5), none, none] [] m (zM g mi_X8_shift Q) := by
  refine wp_iload_n dX8_shift_0 rfl rfl ?_
  refine wm_callSI (As := [.int p1]) (rest := []) dX8_shift_1 ok_X8_78 (by decide) rfl (Nat.le_of_ble_eq_true rfl) ⟨rfl, rfl⟩ rfl (fun t h => o_X8_isNoShelf h) h (fun q1 h => ?_)
  refine wm_if_ne 14 dX8_shift_4 rfl rfl h (fun h => ?_) (fun h => ?_)
  · refine wp_iconst (-1 : Int32) dX8_shift_14 ic_m1 rfl ?_
    exact wm_iret dX8_shift_15 rfl ⟨rfl, rfl⟩ h hP
  · refine wp_iload_n dX8_shift_7 rfl rfl ?_
    refine wm_callSI (As := [.int p3]) (rest := []) dX8_shift_8 ok_X8_78 (by decide) rfl (Nat.le_of_ble_eq_true rfl) ⟨rfl, rfl⟩ rfl (fun t h => o_X8_isNoShelf h) h (fun q2 h => ?_)
    refine wm_if_eq 16 dX8_shift_11 rfl rfl h (fun h => ?_) (fun h => ?_)
    · refine wp_aload_n dX8_shift_16 rfl rfl ?_
      refine wm_getR dX8_shift_17 s_0 fk_X8_48 rfl r_0_5 rfl ?_
      refine wp_iload_n dX8_shift_20 rfl rfl ?_
      refine wm_shelf dX8_shift_21 rfl h (fun s3 hs3 h => ?_)
      refine wp_astore dX8_shift_22 (by decide) rfl rfl rfl ?_
      refine wp_aload_n dX8_shift_24 rfl rfl ?_
      refine wm_getR dX8_shift_25 s_0 fk_X8_48 rfl r_0_5 rfl ?_
      refine wp_iload_n dX8_shift_28 rfl rfl ?_
      refine wm_shelf dX8_shift_29 rfl h (fun s4 hs4 h => ?_)
      refine wp_astore dX8_shift_30 (by decide) rfl rfl rfl ?_
      refine wp_aload dX8_shift_32 rfl rfl ?_
      refine wm_getI dX8_shift_34 (sS_0 hs3) fk_X8_82 rfl rfl ?_
      refine wp_bipush (-2 : Int32) dX8_shift_37 ib_m2 rfl ?_
      refine wm_icmp_eq 52 dX8_shift_39 rfl rfl h (fun h => ?_) (fun h => ?_)
      · refine wp_bipush (-11 : Int32) dX8_shift_52 ib_m11 rfl ?_
        exact wm_iret dX8_shift_54 rfl ⟨rfl, rfl⟩ h hP
      · refine wp_aload dX8_shift_42 rfl rfl ?_
        refine wm_getI dX8_shift_44 (sS_0 hs4) fk_X8_82 rfl rfl ?_
        refine wp_bipush (-2 : Int32) dX8_shift_47 ib_m2 rfl ?_
        refine wm_icmp_ne 55 dX8_shift_49 rfl rfl h (fun h => ?_) (fun h => ?_)
        · refine wp_aload dX8_shift_55 rfl rfl ?_
          refine wm_getI dX8_shift_57 (sS_0 hs3) fk_X8_82 rfl rfl ?_
          refine wp_iconst (-1 : Int32) dX8_shift_60 ic_m1 rfl ?_
          refine wm_icmp_eq 77 dX8_shift_61 rfl rfl h (fun h => ?_) (fun h => ?_)
          · refine wp_bipush (-12 : Int32) dX8_shift_77 ib_m12 rfl ?_
            exact wm_iret dX8_shift_79 rfl ⟨rfl, rfl⟩ h hP
          · refine wp_aload dX8_shift_64 rfl rfl ?_
            refine wm_getI dX8_shift_66 (sS_0 hs3) fk_X8_82 rfl rfl ?_
            refine wp_aload dX8_shift_69 rfl rfl ?_
            refine wm_getI dX8_shift_71 (sS_0 hs4) fk_X8_82 rfl rfl ?_
            refine wm_icmp_eq 80 dX8_shift_74 rfl rfl h (fun h => ?_) (fun h => ?_)
            · refine wp_aload dX8_shift_80 rfl rfl ?_
              refine wp_iload_n dX8_shift_82 rfl rfl ?_
              refine wp_iload dX8_shift_83 rfl rfl ?_
              refine wm_callVI (As := [.int p2, .int p5]) (rest := []) dX8_shift_85 ok_X8_273 (by decide) rfl (sS_0 hs3) ⟨_, rfl⟩ (Nat.le_of_ble_eq_true rfl) ⟨rfl, rfl⟩ rfl (fun t h => o_X5_hasRun hs3 h) h (fun q5 h => ?_)
              refine wm_if_eq 103 dX8_shift_88 rfl rfl h (fun h => ?_) (fun h => ?_)
              · refine wp_bipush (-13 : Int32) dX8_shift_103 ib_m13 rfl ?_
                exact wm_iret dX8_shift_105 rfl ⟨rfl, rfl⟩ h hP
              · refine wp_aload dX8_shift_91 rfl rfl ?_
                refine wp_iload dX8_shift_93 rfl rfl ?_
                refine wp_iload dX8_shift_95 rfl rfl ?_
                refine wm_callVI (As := [.int p4, .int p5]) (rest := []) dX8_shift_97 ok_X8_273 (by decide) rfl (sS_0 hs4) ⟨_, rfl⟩ (Nat.le_of_ble_eq_true rfl) ⟨rfl, rfl⟩ rfl (fun t h => o_X5_hasRun hs4 h) h (fun q6 h => ?_)
                refine wm_if_ne 106 dX8_shift_100 rfl rfl h (fun h => ?_) (fun h => ?_)
                · refine wp_aload dX8_shift_106 rfl rfl ?_
                  refine wm_getR dX8_shift_108 (sS_0 hs3) fk_X8_269 rfl (rS_3 hs3) rfl ?_
                  refine wp_iload_n dX8_shift_111 rfl rfl ?_
                  refine wp_aload dX8_shift_112 rfl rfl ?_
                  refine wm_getR dX8_shift_114 (sS_0 hs4) fk_X8_269 rfl (rS_3 hs4) rfl ?_
                  refine wp_iload dX8_shift_117 rfl rfl ?_
                  refine wp_iload dX8_shift_119 rfl rfl ?_
                  refine wm_copyJ dX8_shift_121 (sS_1 hs3) (sS_1 hs4) ok_X8_277 rfl h (by decide) (Nat.le_of_ble_eq_true rfl) (fun m7 h => ?_)
                  refine wp_iload dX8_shift_124 rfl rfl ?_
                  exact wm_iret dX8_shift_126 rfl ⟨rfl, rfl⟩ h hP
                · refine wp_bipush (-13 : Int32) dX8_shift_103 ib_m13 rfl ?_
                  exact wm_iret dX8_shift_105 rfl ⟨rfl, rfl⟩ h hP
            · refine wp_bipush (-12 : Int32) dX8_shift_77 ib_m12 rfl ?_
              exact wm_iret dX8_shift_79 rfl ⟨rfl, rfl⟩ h hP
        · refine wp_bipush (-11 : Int32) dX8_shift_52 ib_m11 rfl ?_
          exact wm_iret dX8_shift_54 rfl ⟨rfl, rfl⟩ h hP
    · refine wp_iconst (-1 : Int32) dX8_shift_14 ic_m1 rfl ?_
      exact wm_iret dX8_shift_15 rfl ⟨rfl, rfl⟩ h hP
theorem o_X8_shift {g : Gx}  {p1 : Int32} {p2 : Int32} {p3 : Int32} {p4 : Int32} {p5 : Int32} {m : Mem} {t : Int32 × Mem} (h : f_X8_shift p1 p2 p3 p4 p5 m = some t) : MxM g 2 mi_X8_shift [.ref 0, .int p1, .int p2, .int p3, .int p4, .int p5] m (qI t) := mx_of pn_X8 (Nat.le_of_ble_eq_true rfl) (k_X8_shift_E h ⟨rfl, rfl, rfl, rfl, rfl⟩)
noncomputable def f_X8_taken  (p1 : Int32) (p2 : Int32) (m : Mem) : Option (Int32 × Mem) := (f_X8_isNoShelf p1 m).bind (fun q1 => if ¬ q1.1 = 0 then some ((-1 : Int32), q1.2) else if p2 < 0 then some ((-1 : Int32), q1.2) else if p2 < (8 : Int32) then ck p1 6 (bnd (73 + 2 * ix p1) (fun s2 => if ¬ (gI q1.2 s2 0) = (-2 : Int32) then if (gI q1.2 s2 0) = (-1 : Int32) then (f_X0_kindOf (gI q1.2 s2 1) q1.2).bind (fun q3 => (f_X0_isUnder q3.1 p2 q3.2).bind (fun q4 => if q4.1 = 0 then some ((-12 : Int32), q4.2) else some (q3.1, q4.2))) else some ((-12 : Int32), q1.2) else some ((-11 : Int32), q1.2))) else some ((-1 : Int32), q1.2))
theorem k_X8_taken_E {g : Gx}  {p1 : Int32} {p2 : Int32} {Q : Qy} {m : Mem} {t : Int32 × Mem} (h : f_X8_taken p1 p2 m = some t) (hP : pI Q t) : WpM g 2 mi_X8_taken 0 [some (.ref 0), some (.int p1), some (.int p2), none, none] [] m (zM g mi_X8_taken Q) := by
  refine wp_iload_n dX8_taken_0 rfl rfl ?_
  refine wm_callSI (As := [.int p1]) (rest := []) dX8_taken_1 ok_X8_78 (by decide) rfl (Nat.le_of_ble_eq_true rfl) ⟨rfl, rfl⟩ rfl (fun t h => o_X8_isNoShelf h) h (fun q1 h => ?_)
  refine wm_if_ne 17 dX8_taken_4 rfl rfl h (fun h => ?_) (fun h => ?_)
  · refine wp_iconst (-1 : Int32) dX8_taken_17 ic_m1 rfl ?_
    exact wm_iret dX8_taken_18 rfl ⟨rfl, rfl⟩ h hP
  · refine wp_iload_n dX8_taken_7 rfl rfl ?_
    refine wm_if_lt 17 dX8_taken_8 rfl rfl h (fun h => ?_) (fun h => ?_)
    · refine wp_iconst (-1 : Int32) dX8_taken_17 ic_m1 rfl ?_
      exact wm_iret dX8_taken_18 rfl ⟨rfl, rfl⟩ h hP
    · refine wp_iload_n dX8_taken_11 rfl rfl ?_
      refine wp_bipush (8 : Int32) dX8_taken_12 ib_8 rfl ?_
      refine wm_icmp_lt 19 dX8_taken_14 rfl rfl h (fun h => ?_) (fun h => ?_)
      · refine wp_aload_n dX8_taken_19 rfl rfl ?_
        refine wm_getR dX8_taken_20 s_0 fk_X8_48 rfl r_0_5 rfl ?_
        refine wp_iload_n dX8_taken_23 rfl rfl ?_
        refine wm_shelf dX8_taken_24 rfl h (fun s2 hs2 h => ?_)
        refine wp_astore_n dX8_taken_25 (by decide) rfl rfl rfl ?_
        refine wp_aload_n dX8_taken_26 rfl rfl ?_
        refine wm_getI dX8_taken_27 (sS_0 hs2) fk_X8_82 rfl rfl ?_
        refine wp_bipush (-2 : Int32) dX8_taken_30 ib_m2 rfl ?_
        refine wm_icmp_ne 38 dX8_taken_32 rfl rfl h (fun h => ?_) (fun h => ?_)
        · refine wp_aload_n dX8_taken_38 rfl rfl ?_
          refine wm_getI dX8_taken_39 (sS_0 hs2) fk_X8_82 rfl rfl ?_
          refine wp_iconst (-1 : Int32) dX8_taken_42 ic_m1 rfl ?_
          refine wm_icmp_eq 49 dX8_taken_43 rfl rfl h (fun h => ?_) (fun h => ?_)
          · refine wp_aload_n dX8_taken_49 rfl rfl ?_
            refine wm_getR dX8_taken_50 s_0 fk_X8_42 rfl r_0_4 rfl ?_
            refine wp_aload_n dX8_taken_53 rfl rfl ?_
            refine wm_getI dX8_taken_54 (sS_0 hs2) fk_X8_283 rfl rfl ?_
            refine wm_callVI (As := [.int (gI q1.2 s2 1)]) (rest := []) dX8_taken_57 ok_X8_286 (by decide) rfl s_69 ⟨_, rfl⟩ (Nat.le_of_ble_eq_true rfl) ⟨rfl, rfl⟩ rfl (fun t h => o_X0_kindOf h) h (fun q3 h => ?_)
            refine wp_istore dX8_taken_60 (by decide) rfl rfl rfl ?_
            refine wp_iload dX8_taken_62 rfl rfl ?_
            refine wp_iload_n dX8_taken_64 rfl rfl ?_
            refine wm_callSI (As := [.int q3.1, .int p2]) (rest := []) dX8_taken_65 ok_X8_289 (by decide) rfl (Nat.le_of_ble_eq_true rfl) ⟨rfl, rfl⟩ rfl (fun t h => o_X0_isUnder h) h (fun q4 h => ?_)
            refine wm_if_eq 76 dX8_taken_68 rfl rfl h (fun h => ?_) (fun h => ?_)
            · refine wp_bipush (-12 : Int32) dX8_taken_76 ib_m12 rfl ?_
              exact wm_iret dX8_taken_78 rfl ⟨rfl, rfl⟩ h hP
            · refine wp_iload dX8_taken_71 rfl rfl ?_
              refine wp_goto 78 dX8_taken_73 rfl ?_
              exact wm_iret dX8_taken_78 rfl ⟨rfl, rfl⟩ h hP
          · refine wp_bipush (-12 : Int32) dX8_taken_46 ib_m12 rfl ?_
            exact wm_iret dX8_taken_48 rfl ⟨rfl, rfl⟩ h hP
        · refine wp_bipush (-11 : Int32) dX8_taken_35 ib_m11 rfl ?_
          exact wm_iret dX8_taken_37 rfl ⟨rfl, rfl⟩ h hP
      · refine wp_iconst (-1 : Int32) dX8_taken_17 ic_m1 rfl ?_
        exact wm_iret dX8_taken_18 rfl ⟨rfl, rfl⟩ h hP
theorem o_X8_taken {g : Gx}  {p1 : Int32} {p2 : Int32} {m : Mem} {t : Int32 × Mem} (h : f_X8_taken p1 p2 m = some t) : MxM g 2 mi_X8_taken [.ref 0, .int p1, .int p2] m (qI t) := mx_of pn_X8 (Nat.le_of_ble_eq_true rfl) (k_X8_taken_E h ⟨rfl, rfl, rfl, rfl, rfl⟩)
noncomputable def f_X8_thing  (p1 : Int32) (p2 : Int32) (m : Mem) : Option (Int32 × Mem) := if p1 < (-99 : Int32) then some ((-1 : Int32), m) else if (99 : Int32) < p1 then some ((-1 : Int32), m) else if p2 < 0 then some ((-1 : Int32), m) else if p2 ≤ (9 : Int32) then if (gI m 1 14) < (6 : Int32) then (f_X6_addThing p1 p2 m).bind (fun q1 => some (q1.1, q1.2)) else some ((-3 : Int32), m) else some ((-1 : Int32), m)
theorem k_X8_thing_E {g : Gx}  {p1 : Int32} {p2 : Int32} {Q : Qy} {m : Mem} {t : Int32 × Mem} (h : f_X8_thing p1 p2 m = some t) (hP : pI Q t) : WpM g 2 mi_X8_thing 0 [some (.ref 0), some (.int p1), some (.int p2)] [] m (zM g mi_X8_thing Q) := by
  refine wp_iload_n dX8_thing_0 rfl rfl ?_
  refine wp_bipush (-99 : Int32) dX8_thing_1 ib_m99 rfl ?_
  refine wm_icmp_lt 22 dX8_thing_3 rfl rfl h (fun h => ?_) (fun h => ?_)
  · refine wp_iconst (-1 : Int32) dX8_thing_22 ic_m1 rfl ?_
    exact wm_iret dX8_thing_23 rfl ⟨rfl, rfl⟩ h hP
  · refine wp_iload_n dX8_thing_6 rfl rfl ?_
    refine wp_bipush (99 : Int32) dX8_thing_7 ib_99 rfl ?_
    refine wm_icmp_gt 22 dX8_thing_9 rfl rfl h (fun h => ?_) (fun h => ?_)
    · refine wp_iconst (-1 : Int32) dX8_thing_22 ic_m1 rfl ?_
      exact wm_iret dX8_thing_23 rfl ⟨rfl, rfl⟩ h hP
    · refine wp_iload_n dX8_thing_12 rfl rfl ?_
      refine wm_if_lt 22 dX8_thing_13 rfl rfl h (fun h => ?_) (fun h => ?_)
      · refine wp_iconst (-1 : Int32) dX8_thing_22 ic_m1 rfl ?_
        exact wm_iret dX8_thing_23 rfl ⟨rfl, rfl⟩ h hP
      · refine wp_iload_n dX8_thing_16 rfl rfl ?_
        refine wp_bipush (9 : Int32) dX8_thing_17 ib_9 rfl ?_
        refine wm_icmp_le 24 dX8_thing_19 rfl rfl h (fun h => ?_) (fun h => ?_)
        · refine wp_aload_n dX8_thing_24 rfl rfl ?_
          refine wm_getR dX8_thing_25 s_0 fk_X8_10 rfl r_0_0 rfl ?_
          refine wm_getI dX8_thing_28 s_1 fk_X8_61 rfl rfl ?_
          refine wp_bipush (6 : Int32) dX8_thing_31 ib_6 rfl ?_
          refine wm_icmp_lt 41 dX8_thing_33 rfl rfl h (fun h => ?_) (fun h => ?_)
          · refine wp_aload_n dX8_thing_41 rfl rfl ?_
            refine wm_getR dX8_thing_42 s_0 fk_X8_10 rfl r_0_0 rfl ?_
            refine wp_iload_n dX8_thing_45 rfl rfl ?_
            refine wp_iload_n dX8_thing_46 rfl rfl ?_
            refine wm_callVI (As := [.int p1, .int p2]) (rest := []) dX8_thing_47 ok_X8_64 (by decide) rfl s_1 ⟨_, rfl⟩ (Nat.le_of_ble_eq_true rfl) ⟨rfl, rfl⟩ rfl (fun t h => o_X6_addThing h) h (fun q1 h => ?_)
            exact wm_iret dX8_thing_50 rfl ⟨rfl, rfl⟩ h hP
          · refine wp_bipush (-3 : Int32) dX8_thing_36 ib_m3 rfl ?_
            refine wp_goto 50 dX8_thing_38 rfl ?_
            exact wm_iret dX8_thing_50 rfl ⟨rfl, rfl⟩ h hP
        · refine wp_iconst (-1 : Int32) dX8_thing_22 ic_m1 rfl ?_
          exact wm_iret dX8_thing_23 rfl ⟨rfl, rfl⟩ h hP
theorem o_X8_thing {g : Gx}  {p1 : Int32} {p2 : Int32} {m : Mem} {t : Int32 × Mem} (h : f_X8_thing p1 p2 m = some t) : MxM g 2 mi_X8_thing [.ref 0, .int p1, .int p2] m (qI t) := mx_of pn_X8 (Nat.le_of_ble_eq_true rfl) (k_X8_thing_E h ⟨rfl, rfl, rfl, rfl, rfl⟩)
noncomputable def f_X8_times  (p1 : Int32) (m : Mem) : Option (Int32 × Mem) := (f_X7_answer (2 : Int32) p1 m).bind (fun q1 => some (q1.1, q1.2))
theorem k_X8_times_E {g : Gx}  {p1 : Int32} {Q : Qy} {m : Mem} {t : Int32 × Mem} (h : f_X8_times p1 m = some t) (hP : pI Q t) : WpM g 8 mi_X8_times 0 [some (.ref 0), some (.int p1)] [] m (zM g mi_X8_times Q) := by
  refine wp_aload_n dX8_times_0 rfl rfl ?_
  refine wm_getR dX8_times_1 s_0 fk_X8_35 rfl r_0_3 rfl ?_
  refine wp_iconst (2 : Int32) dX8_times_4 ic_2 rfl ?_
  refine wp_iload_n dX8_times_5 rfl rfl ?_
  refine wm_callVI (As := [.int (2 : Int32), .int p1]) (rest := []) dX8_times_6 ok_X8_201 (by decide) rfl s_53 ⟨_, rfl⟩ (Nat.le_of_ble_eq_true rfl) ⟨rfl, rfl⟩ rfl (fun t h => o_X7_answer h) h (fun q1 h => ?_)
  exact wm_iret dX8_times_9 rfl ⟨rfl, rfl⟩ h hP
theorem o_X8_times {g : Gx}  {p1 : Int32} {m : Mem} {t : Int32 × Mem} (h : f_X8_times p1 m = some t) : MxM g 8 mi_X8_times [.ref 0, .int p1] m (qI t) := mx_of pn_X8 (Nat.le_of_ble_eq_true rfl) (k_X8_times_E h ⟨rfl, rfl, rfl, rfl, rfl⟩)
noncomputable def f_X8_told  (p1 : Int32) (m : Mem) : Option (Int32 × Mem) := if p1 < 0 then some ((-1 : Int32), m) else if p1 ≤ (9 : Int32) then if (gI m 24 3) = 0 then some ((-5 : Int32), m) else ck p1 10 (some ((gI m 25 (ix p1)), m)) else some ((-1 : Int32), m)
theorem k_X8_told_E {g : Gx}  {p1 : Int32} {Q : Qy} {m : Mem} {t : Int32 × Mem} (h : f_X8_told p1 m = some t) (hP : pI Q t) : WpM g 1 mi_X8_told 0 [some (.ref 0), some (.int p1)] [] m (zM g mi_X8_told Q) := by
  refine wp_iload_n dX8_told_0 rfl rfl ?_
  refine wm_if_lt 10 dX8_told_1 rfl rfl h (fun h => ?_) (fun h => ?_)
  · refine wp_iconst (-1 : Int32) dX8_told_10 ic_m1 rfl ?_
    exact wm_iret dX8_told_11 rfl ⟨rfl, rfl⟩ h hP
  · refine wp_iload_n dX8_told_4 rfl rfl ?_
    refine wp_bipush (9 : Int32) dX8_told_5 ib_9 rfl ?_
    refine wm_icmp_le 12 dX8_told_7 rfl rfl h (fun h => ?_) (fun h => ?_)
    · refine wp_aload_n dX8_told_12 rfl rfl ?_
      refine wm_getR dX8_told_13 s_0 fk_X8_28 rfl r_0_2 rfl ?_
      refine wm_getI dX8_told_16 s_24 fk_X8_160 rfl rfl ?_
      refine wm_if_eq 34 dX8_told_19 rfl rfl h (fun h => ?_) (fun h => ?_)
      · refine wp_bipush (-5 : Int32) dX8_told_34 ib_m5 rfl ?_
        exact wm_iret dX8_told_36 rfl ⟨rfl, rfl⟩ h hP
      · refine wp_aload_n dX8_told_22 rfl rfl ?_
        refine wm_getR dX8_told_23 s_0 fk_X8_28 rfl r_0_2 rfl ?_
        refine wm_getR dX8_told_26 s_24 fk_X8_164 rfl r_24_1 rfl ?_
        refine wp_iload_n dX8_told_29 rfl rfl ?_
        refine wm_iald dX8_told_30 s_25 rfl h (fun h => ?_)
        refine wp_goto 36 dX8_told_31 rfl ?_
        exact wm_iret dX8_told_36 rfl ⟨rfl, rfl⟩ h hP
    · refine wp_iconst (-1 : Int32) dX8_told_10 ic_m1 rfl ?_
      exact wm_iret dX8_told_11 rfl ⟨rfl, rfl⟩ h hP
theorem o_X8_told {g : Gx}  {p1 : Int32} {m : Mem} {t : Int32 × Mem} (h : f_X8_told p1 m = some t) : MxM g 1 mi_X8_told [.ref 0, .int p1] m (qI t) := mx_of pn_X8 (Nat.le_of_ble_eq_true rfl) (k_X8_told_E h ⟨rfl, rfl, rfl, rfl, rfl⟩)
noncomputable def f_X8_took  (p1 : Int32) (p2 : Int32) (m : Mem) : Option (Int32 × Mem) := (f_X4_hadThing p1 m).bind (fun q1 => if q1.1 = 0 then some ((-2000000000 : Int32), q1.2) else if p2 < 0 then some ((-2000000000 : Int32), q1.2) else if p2 ≤ (1 : Int32) then if ¬ p2 = 0 then ck p1 6 (some ((gI q1.2 26 (ix p1)), q1.2)) else ck p1 6 (some ((gI q1.2 (29 + 2) (ix p1)), q1.2)) else some ((-2000000000 : Int32), q1.2))
theorem k_X8_took_E {g : Gx}  {p1 : Int32} {p2 : Int32} {Q : Qy} {m : Mem} {t : Int32 × Mem} (h : f_X8_took p1 p2 m = some t) (hP : pI Q t) : WpM g 2 mi_X8_took 0 [some (.ref 0), some (.int p1), some (.int p2)] [] m (zM g mi_X8_took Q) := by
  refine wp_aload_n dX8_took_0 rfl rfl ?_
  refine wm_getR dX8_took_1 s_0 fk_X8_28 rfl r_0_2 rfl ?_
  refine wp_iload_n dX8_took_4 rfl rfl ?_
  refine wm_callVI (As := [.int p1]) (rest := []) dX8_took_5 ok_X8_179 (by decide) rfl s_24 ⟨_, rfl⟩ (Nat.le_of_ble_eq_true rfl) ⟨rfl, rfl⟩ rfl (fun t h => o_X4_hadThing h) h (fun q1 h => ?_)
  refine wm_if_eq 20 dX8_took_8 rfl rfl h (fun h => ?_) (fun h => ?_)
  · refine wp_ldc dX8_took_20 q722 rfl ?_
    exact wm_iret dX8_took_22 rfl ⟨rfl, rfl⟩ h hP
  · refine wp_iload_n dX8_took_11 rfl rfl ?_
    refine wm_if_lt 20 dX8_took_12 rfl rfl h (fun h => ?_) (fun h => ?_)
    · refine wp_ldc dX8_took_20 q722 rfl ?_
      exact wm_iret dX8_took_22 rfl ⟨rfl, rfl⟩ h hP
    · refine wp_iload_n dX8_took_15 rfl rfl ?_
      refine wp_iconst (1 : Int32) dX8_took_16 ic_1 rfl ?_
      refine wm_icmp_le 23 dX8_took_17 rfl rfl h (fun h => ?_) (fun h => ?_)
      · refine wp_iload_n dX8_took_23 rfl rfl ?_
        refine wm_if_ne 40 dX8_took_24 rfl rfl h (fun h => ?_) (fun h => ?_)
        · refine wp_aload_n dX8_took_40 rfl rfl ?_
          refine wm_getR dX8_took_41 s_0 fk_X8_28 rfl r_0_2 rfl ?_
          refine wm_getR dX8_took_44 s_24 fk_X8_185 rfl r_24_2 rfl ?_
          refine wp_iload_n dX8_took_47 rfl rfl ?_
          refine wm_iald dX8_took_48 s_26 rfl h (fun h => ?_)
          exact wm_iret dX8_took_49 rfl ⟨rfl, rfl⟩ h hP
        · refine wp_aload_n dX8_took_27 rfl rfl ?_
          refine wm_getR dX8_took_28 s_0 fk_X8_28 rfl r_0_2 rfl ?_
          refine wm_getR dX8_took_31 s_24 fk_X8_167 rfl r_24_0 rfl ?_
          refine wm_getR dX8_took_34 (sM_0 (by unfold MA; omega)) fk_X8_182 rfl (rM_1 (by unfold MA; omega)) rfl ?_
          refine wp_goto 47 dX8_took_37 rfl ?_
          refine wp_iload_n dX8_took_47 rfl rfl ?_
          refine wm_iald dX8_took_48 (sM_2 (by unfold MA; omega)) rfl h (fun h => ?_)
          exact wm_iret dX8_took_49 rfl ⟨rfl, rfl⟩ h hP
      · refine wp_ldc dX8_took_20 q722 rfl ?_
        exact wm_iret dX8_took_22 rfl ⟨rfl, rfl⟩ h hP
theorem o_X8_took {g : Gx}  {p1 : Int32} {p2 : Int32} {m : Mem} {t : Int32 × Mem} (h : f_X8_took p1 p2 m = some t) : MxM g 2 mi_X8_took [.ref 0, .int p1, .int p2] m (qI t) := mx_of pn_X8 (Nat.le_of_ble_eq_true rfl) (k_X8_took_E h ⟨rfl, rfl, rfl, rfl, rfl⟩)
noncomputable def f_X8_trace  (p1 : Int32) (m : Mem) : Option (Int32 × Mem) := if p1 < 0 then some ((-1 : Int32), m) else if (gI m 69 2) ≤ p1 then some ((-1 : Int32), m) else if p1 < (24 : Int32) then ck p1 24 (some ((gI m 70 (ix p1)), m)) else some ((-1 : Int32), m)
theorem k_X8_trace_E {g : Gx}  {p1 : Int32} {Q : Qy} {m : Mem} {t : Int32 × Mem} (h : f_X8_trace p1 m = some t) (hP : pI Q t) : WpM g 1 mi_X8_trace 0 [some (.ref 0), some (.int p1)] [] m (zM g mi_X8_trace Q) := by
  refine wp_iload_n dX8_trace_0 rfl rfl ?_
  refine wm_if_lt 21 dX8_trace_1 rfl rfl h (fun h => ?_) (fun h => ?_)
  · refine wp_iconst (-1 : Int32) dX8_trace_21 ic_m1 rfl ?_
    refine wp_goto 34 dX8_trace_22 rfl ?_
    exact wm_iret dX8_trace_34 rfl ⟨rfl, rfl⟩ h hP
  · refine wp_iload_n dX8_trace_4 rfl rfl ?_
    refine wp_aload_n dX8_trace_5 rfl rfl ?_
    refine wm_getR dX8_trace_6 s_0 fk_X8_42 rfl r_0_4 rfl ?_
    refine wm_getI dX8_trace_9 s_69 fk_X8_241 rfl rfl ?_
    refine wm_icmp_ge 21 dX8_trace_12 rfl rfl h (fun h => ?_) (fun h => ?_)
    · refine wp_iconst (-1 : Int32) dX8_trace_21 ic_m1 rfl ?_
      refine wp_goto 34 dX8_trace_22 rfl ?_
      exact wm_iret dX8_trace_34 rfl ⟨rfl, rfl⟩ h hP
    · refine wp_iload_n dX8_trace_15 rfl rfl ?_
      refine wp_bipush (24 : Int32) dX8_trace_16 ib_24 rfl ?_
      refine wm_icmp_lt 25 dX8_trace_18 rfl rfl h (fun h => ?_) (fun h => ?_)
      · refine wp_aload_n dX8_trace_25 rfl rfl ?_
        refine wm_getR dX8_trace_26 s_0 fk_X8_42 rfl r_0_4 rfl ?_
        refine wm_getR dX8_trace_29 s_69 fk_X8_247 rfl r_69_0 rfl ?_
        refine wp_iload_n dX8_trace_32 rfl rfl ?_
        refine wm_iald dX8_trace_33 s_70 rfl h (fun h => ?_)
        exact wm_iret dX8_trace_34 rfl ⟨rfl, rfl⟩ h hP
      · refine wp_iconst (-1 : Int32) dX8_trace_21 ic_m1 rfl ?_
        refine wp_goto 34 dX8_trace_22 rfl ?_
        exact wm_iret dX8_trace_34 rfl ⟨rfl, rfl⟩ h hP
theorem o_X8_trace {g : Gx}  {p1 : Int32} {m : Mem} {t : Int32 × Mem} (h : f_X8_trace p1 m = some t) : MxM g 1 mi_X8_trace [.ref 0, .int p1] m (qI t) := mx_of pn_X8 (Nat.le_of_ble_eq_true rfl) (k_X8_trace_E h ⟨rfl, rfl, rfl, rfl, rfl⟩)
noncomputable def f_X8_undo   (m : Mem) : Option (Int32 × Mem) := (f_X1_goBack m).bind (fun q1 => if ¬ q1.1 = 0 then bnd (gI q1.2 19 4) (fun y2 => ck y2 40 (ck y2 40 (ck y2 40 ((f_X6_change (gI q1.2 20 (ix y2)) (gI q1.2 21 (ix y2)) (gI q1.2 22 (ix y2)) q1.2).bind (fun q3 => some ((gI q3 19 4), q3)))))) else some ((-5 : Int32), q1.2))
theorem k_X8_undo_E {g : Gx}   {Q : Qy} {m : Mem} {t : Int32 × Mem} (h : f_X8_undo m = some t) (hP : pI Q t) : WpM g 3 mi_X8_undo 0 [some (.ref 0), none] [] m (zM g mi_X8_undo Q) := by
  refine wp_aload_n dX8_undo_0 rfl rfl ?_
  refine wm_getR dX8_undo_1 s_0 fk_X8_19 rfl r_0_1 rfl ?_
  refine wm_callVI (As := []) (rest := []) dX8_undo_4 ok_X8_211 (by decide) rfl s_19 ⟨_, rfl⟩ (Nat.le_of_ble_eq_true rfl) ⟨rfl, rfl⟩ rfl (fun t h => o_X1_goBack h) h (fun q1 h => ?_)
  refine wm_if_ne 13 dX8_undo_7 rfl rfl h (fun h => ?_) (fun h => ?_)
  · refine wp_aload_n dX8_undo_13 rfl rfl ?_
    refine wm_getR dX8_undo_14 s_0 fk_X8_19 rfl r_0_1 rfl ?_
    refine wm_getI dX8_undo_17 s_19 fk_X8_214 rfl rfl ?_
    refine wm_nm h (fun y2 h => ?_)
    refine wp_istore_n dX8_undo_20 (by decide) rfl rfl rfl ?_
    refine wp_aload_n dX8_undo_21 rfl rfl ?_
    refine wm_getR dX8_undo_22 s_0 fk_X8_10 rfl r_0_0 rfl ?_
    refine wp_aload_n dX8_undo_25 rfl rfl ?_
    refine wm_getR dX8_undo_26 s_0 fk_X8_19 rfl r_0_1 rfl ?_
    refine wm_getR dX8_undo_29 s_19 fk_X8_217 rfl r_19_0 rfl ?_
    refine wp_iload_n dX8_undo_32 rfl rfl ?_
    refine wm_iald dX8_undo_33 s_20 rfl h (fun h => ?_)
    refine wp_aload_n dX8_undo_34 rfl rfl ?_
    refine wm_getR dX8_undo_35 s_0 fk_X8_19 rfl r_0_1 rfl ?_
    refine wm_getR dX8_undo_38 s_19 fk_X8_220 rfl r_19_1 rfl ?_
    refine wp_iload_n dX8_undo_41 rfl rfl ?_
    refine wm_iald dX8_undo_42 s_21 rfl h (fun h => ?_)
    refine wp_aload_n dX8_undo_43 rfl rfl ?_
    refine wm_getR dX8_undo_44 s_0 fk_X8_19 rfl r_0_1 rfl ?_
    refine wm_getR dX8_undo_47 s_19 fk_X8_223 rfl r_19_2 rfl ?_
    refine wp_iload_n dX8_undo_50 rfl rfl ?_
    refine wm_iald dX8_undo_51 s_22 rfl h (fun h => ?_)
    refine wm_callVN (As := [.int (gI q1.2 20 (ix y2)), .int (gI q1.2 21 (ix y2)), .int (gI q1.2 22 (ix y2))]) (rest := []) dX8_undo_52 ok_X8_135 (by decide) rfl s_1 ⟨_, rfl⟩ (Nat.le_of_ble_eq_true rfl) ⟨rfl, rfl⟩ rfl (fun t h => o_X6_change h) h (fun q3 h => ?_)
    refine wp_aload_n dX8_undo_55 rfl rfl ?_
    refine wm_getR dX8_undo_56 s_0 fk_X8_19 rfl r_0_1 rfl ?_
    refine wm_getI dX8_undo_59 s_19 fk_X8_214 rfl rfl ?_
    exact wm_iret dX8_undo_62 rfl ⟨rfl, rfl⟩ h hP
  · refine wp_bipush (-5 : Int32) dX8_undo_10 ib_m5 rfl ?_
    exact wm_iret dX8_undo_12 rfl ⟨rfl, rfl⟩ h hP
theorem o_X8_undo {g : Gx}   {m : Mem} {t : Int32 × Mem} (h : f_X8_undo m = some t) : MxM g 3 mi_X8_undo [.ref 0] m (qI t) := mx_of pn_X8 (Nat.le_of_ble_eq_true rfl) (k_X8_undo_E h ⟨rfl, rfl, rfl, rfl, rfl⟩)
noncomputable def f_X8_wish  (p1 : Int32) (p2 : Int32) (m : Mem) : Option (Int32 × Mem) := if p1 < 0 then some ((-2000000000 : Int32), m) else if (gI m 1 13) ≤ p1 then some ((-2000000000 : Int32), m) else if p2 < 0 then some ((-2000000000 : Int32), m) else if p2 < (gI m 1 14) then (f_X7_wishNow p1 p2 m).bind (fun q1 => some (q1.1, q1.2)) else some ((-2000000000 : Int32), m)
theorem k_X8_wish_E {g : Gx}  {p1 : Int32} {p2 : Int32} {Q : Qy} {m : Mem} {t : Int32 × Mem} (h : f_X8_wish p1 p2 m = some t) (hP : pI Q t) : WpM g 4 mi_X8_wish 0 [some (.ref 0), some (.int p1), some (.int p2)] [] m (zM g mi_X8_wish Q) := by
  refine wp_iload_n dX8_wish_0 rfl rfl ?_
  refine wm_if_lt 30 dX8_wish_1 rfl rfl h (fun h => ?_) (fun h => ?_)
  · refine wp_ldc dX8_wish_30 q722 rfl ?_
    exact wm_iret dX8_wish_32 rfl ⟨rfl, rfl⟩ h hP
  · refine wp_iload_n dX8_wish_4 rfl rfl ?_
    refine wp_aload_n dX8_wish_5 rfl rfl ?_
    refine wm_getR dX8_wish_6 s_0 fk_X8_10 rfl r_0_0 rfl ?_
    refine wm_getI dX8_wish_9 s_1 fk_X8_53 rfl rfl ?_
    refine wm_icmp_ge 30 dX8_wish_12 rfl rfl h (fun h => ?_) (fun h => ?_)
    · refine wp_ldc dX8_wish_30 q722 rfl ?_
      exact wm_iret dX8_wish_32 rfl ⟨rfl, rfl⟩ h hP
    · refine wp_iload_n dX8_wish_15 rfl rfl ?_
      refine wm_if_lt 30 dX8_wish_16 rfl rfl h (fun h => ?_) (fun h => ?_)
      · refine wp_ldc dX8_wish_30 q722 rfl ?_
        exact wm_iret dX8_wish_32 rfl ⟨rfl, rfl⟩ h hP
      · refine wp_iload_n dX8_wish_19 rfl rfl ?_
        refine wp_aload_n dX8_wish_20 rfl rfl ?_
        refine wm_getR dX8_wish_21 s_0 fk_X8_10 rfl r_0_0 rfl ?_
        refine wm_getI dX8_wish_24 s_1 fk_X8_61 rfl rfl ?_
        refine wm_icmp_lt 33 dX8_wish_27 rfl rfl h (fun h => ?_) (fun h => ?_)
        · refine wp_aload_n dX8_wish_33 rfl rfl ?_
          refine wm_getR dX8_wish_34 s_0 fk_X8_35 rfl r_0_3 rfl ?_
          refine wp_iload_n dX8_wish_37 rfl rfl ?_
          refine wp_iload_n dX8_wish_38 rfl rfl ?_
          refine wm_callVI (As := [.int p1, .int p2]) (rest := []) dX8_wish_39 ok_X8_208 (by decide) rfl s_53 ⟨_, rfl⟩ (Nat.le_of_ble_eq_true rfl) ⟨rfl, rfl⟩ rfl (fun t h => o_X7_wishNow h) h (fun q1 h => ?_)
          exact wm_iret dX8_wish_42 rfl ⟨rfl, rfl⟩ h hP
        · refine wp_ldc dX8_wish_30 q722 rfl ?_
          exact wm_iret dX8_wish_32 rfl ⟨rfl, rfl⟩ h hP
theorem o_X8_wish {g : Gx}  {p1 : Int32} {p2 : Int32} {m : Mem} {t : Int32 × Mem} (h : f_X8_wish p1 p2 m = some t) : MxM g 4 mi_X8_wish [.ref 0, .int p1, .int p2] m (qI t) := mx_of pn_X8 (Nat.le_of_ble_eq_true rfl) (k_X8_wish_E h ⟨rfl, rfl, rfl, rfl, rfl⟩)
noncomputable def f_X9_above  (p1 : Int32) (m : Mem) : Option (Int32 × Mem) := if ¬ p1 = (3 : Int32) then if ¬ p1 = (5 : Int32) then if ¬ p1 = (7 : Int32) then some ((0 : Int32), m) else some ((4 : Int32), m) else some ((3 : Int32), m) else some ((2 : Int32), m)
theorem k_X9_above_E {g : Gx}  {p1 : Int32} {Q : Qy} {m : Mem} {t : Int32 × Mem} (h : f_X9_above p1 m = some t) (hP : pI Q t) : WpM g 1 mi_X9_above 0 [some (.int p1)] [] m (zM g mi_X9_above Q) := by
  refine wp_iload_n dX9_above_0 rfl rfl ?_
  refine wp_iconst (3 : Int32) dX9_above_1 ic_3 rfl ?_
  refine wm_icmp_ne 9 dX9_above_2 rfl rfl h (fun h => ?_) (fun h => ?_)
  · refine wp_iload_n dX9_above_9 rfl rfl ?_
    refine wp_iconst (5 : Int32) dX9_above_10 ic_5 rfl ?_
    refine wm_icmp_ne 18 dX9_above_11 rfl rfl h (fun h => ?_) (fun h => ?_)
    · refine wp_iload_n dX9_above_18 rfl rfl ?_
      refine wp_bipush (7 : Int32) dX9_above_19 ib_7 rfl ?_
      refine wm_icmp_ne 28 dX9_above_21 rfl rfl h (fun h => ?_) (fun h => ?_)
      · refine wp_iconst (0 : Int32) dX9_above_28 ic_0 rfl ?_
        exact wm_iret dX9_above_29 rfl ⟨rfl, rfl⟩ h hP
      · refine wp_iconst (4 : Int32) dX9_above_24 ic_4 rfl ?_
        refine wp_goto 29 dX9_above_25 rfl ?_
        exact wm_iret dX9_above_29 rfl ⟨rfl, rfl⟩ h hP
    · refine wp_iconst (3 : Int32) dX9_above_14 ic_3 rfl ?_
      refine wp_goto 29 dX9_above_15 rfl ?_
      exact wm_iret dX9_above_29 rfl ⟨rfl, rfl⟩ h hP
  · refine wp_iconst (2 : Int32) dX9_above_5 ic_2 rfl ?_
    refine wp_goto 29 dX9_above_6 rfl ?_
    exact wm_iret dX9_above_29 rfl ⟨rfl, rfl⟩ h hP
theorem o_X9_above {g : Gx}  {p1 : Int32} {m : Mem} {t : Int32 × Mem} (h : f_X9_above p1 m = some t) : MxM g 1 mi_X9_above [.int p1] m (qI t) := mx_of pn_X9 (Nat.le_of_ble_eq_true rfl) (k_X9_above_E h ⟨rfl, rfl, rfl, rfl, rfl⟩)
noncomputable def f_X9_within  (p1 : Int64) (p2 : Int64) (p3 : Int64) (m : Mem) : Option (Int32 × Mem) := if (lg_cmp p1 p2) < 0 then bz (0 : Int32) (some ((0 : Int32), m)) else if 0 < (lg_cmp p1 p3) then bz (0 : Int32) (some ((0 : Int32), m)) else bz (1 : Int32) (some ((1 : Int32), m))
theorem k_X9_within_E {g : Gx}  {p1 : Int64} {p2 : Int64} {p3 : Int64} {Q : Qy} {m : Mem} {t : Int32 × Mem} (h : f_X9_within p1 p2 p3 m = some t) (hP : pI Q t) : WpM g 1 mi_X9_within 0 [some (.long p1), none, some (.long p2), none, some (.long p3), none] [] m (zM g mi_X9_within Q) := by
  refine wp_lload_n dX9_within_0 rfl rfl ?_
  refine wp_lload_n dX9_within_1 rfl rfl ?_
  refine wp_lcmp dX9_within_2 rfl ?_
  refine wm_if_lt 17 dX9_within_3 rfl rfl h (fun h => ?_) (fun h => ?_)
  · refine wp_iconst (0 : Int32) dX9_within_17 ic_0 rfl ?_
    exact wm_zret dX9_within_18 rfl ⟨rfl, rfl⟩ h hP
  · refine wp_lload_n dX9_within_6 rfl rfl ?_
    refine wp_lload dX9_within_7 rfl rfl ?_
    refine wp_lcmp dX9_within_9 rfl ?_
    refine wm_if_gt 17 dX9_within_10 rfl rfl h (fun h => ?_) (fun h => ?_)
    · refine wp_iconst (0 : Int32) dX9_within_17 ic_0 rfl ?_
      exact wm_zret dX9_within_18 rfl ⟨rfl, rfl⟩ h hP
    · refine wp_iconst (1 : Int32) dX9_within_13 ic_1 rfl ?_
      refine wp_goto 18 dX9_within_14 rfl ?_
      exact wm_zret dX9_within_18 rfl ⟨rfl, rfl⟩ h hP
theorem o_X9_within {g : Gx}  {p1 : Int64} {p2 : Int64} {p3 : Int64} {m : Mem} {t : Int32 × Mem} (h : f_X9_within p1 p2 p3 m = some t) : MxM g 1 mi_X9_within [.long p1, .long p2, .long p3] m (qI t) := mx_of pn_X9 (Nat.le_of_ble_eq_true rfl) (k_X9_within_E h ⟨rfl, rfl, rfl, rfl, rfl⟩)
noncomputable def f_X9_isBody  (p1 : Int32) (m : Mem) : Option (Int32 × Mem) := (f_X9_within p1.toInt64 (0 : Int64) ((gI m 85 66) - (1 : Int32)).toInt64 m).bind (fun q1 => bz q1.1 (some (q1.1, q1.2)))
theorem k_X9_isBody_E {g : Gx}  {p1 : Int32} {Q : Qy} {m : Mem} {t : Int32 × Mem} (h : f_X9_isBody p1 m = some t) (hP : pI Q t) : WpM g 2 mi_X9_isBody 0 [some (.ref 85), some (.int p1)] [] m (zM g mi_X9_isBody Q) := by
  refine wp_iload_n dX9_isBody_0 rfl rfl ?_
  refine wp_i2l dX9_isBody_1 rfl ?_
  refine wp_lconst (0 : Int64) dX9_isBody_2 rfl rfl ?_
  refine wp_aload_n dX9_isBody_3 rfl rfl ?_
  refine wm_getI dX9_isBody_4 s_85 fk_X9_444 rfl rfl ?_
  refine wp_iconst (1 : Int32) dX9_isBody_7 ic_1 rfl ?_
  refine wp_isub dX9_isBody_8 rfl ?_
  refine wp_i2l dX9_isBody_9 rfl ?_
  refine wm_callSI (As := [.long p1.toInt64, .long (0 : Int64), .long ((gI m 85 66) - (1 : Int32)).toInt64]) (rest := []) dX9_isBody_10 ok_X9_162 (by decide) rfl (Nat.le_of_ble_eq_true rfl) ⟨rfl, rfl⟩ rfl (fun t h => o_X9_within h) h (fun q1 h => ?_)
  exact wm_zret dX9_isBody_13 rfl ⟨rfl, rfl⟩ h hP
theorem o_X9_isBody {g : Gx}  {p1 : Int32} {m : Mem} {t : Int32 × Mem} (h : f_X9_isBody p1 m = some t) : MxM g 2 mi_X9_isBody [.ref 85, .int p1] m (qI t) := mx_of pn_X9 (Nat.le_of_ble_eq_true rfl) (k_X9_isBody_E h ⟨rfl, rfl, rfl, rfl, rfl⟩)
noncomputable def f_X9_begins  (p1 : Int32) (m : Mem) : Option Mem := if (24 : Int32) ≤ (gI m 85 69) then bnd (sI m 85 69 ((gI m 85 69) + (1 : Int32))) (fun m1 => some m1) else ck (gI m 85 69) 24 (bnd (sI m 125 (ix (gI m 85 69)) p1) (fun m2 => bnd (sI m2 85 69 ((gI m2 85 69) + (1 : Int32))) (fun m3 => some m3)))
theorem k_X9_begins_E {g : Gx}  {p1 : Int32} {Q : Qy} {m : Mem} {t : Mem} (h : f_X9_begins p1 m = some t) (hP : pV Q t) : WpM g 1 mi_X9_begins 0 [some (.ref 85), some (.int p1)] [] m (zM g mi_X9_begins Q) := by
  refine wp_aload_n dX9_begins_0 rfl rfl ?_
  refine wm_getI dX9_begins_1 s_85 fk_X9_449 rfl rfl ?_
  refine wp_bipush (24 : Int32) dX9_begins_4 ib_24 rfl ?_
  refine wm_icmp_ge 19 dX9_begins_6 rfl rfl h (fun h => ?_) (fun h => ?_)
  · refine wp_aload_n dX9_begins_19 rfl rfl ?_
    refine wp_dup dX9_begins_20 rfl rfl ?_
    refine wm_getI dX9_begins_21 s_85 fk_X9_449 rfl rfl ?_
    refine wp_iconst (1 : Int32) dX9_begins_24 ic_1 rfl ?_
    refine wp_iadd dX9_begins_25 rfl ?_
    refine wm_putI dX9_begins_26 s_85 fk_X9_449 rfl rfl h (fun m1 h => ?_)
    exact wm_vret dX9_begins_29 rfl ⟨rfl, rfl⟩ h hP
  · refine wp_aload_n dX9_begins_9 rfl rfl ?_
    refine wm_getR dX9_begins_10 s_85 fk_X9_127 rfl r_85_68 rfl ?_
    refine wp_aload_n dX9_begins_13 rfl rfl ?_
    refine wm_getI dX9_begins_14 s_85 fk_X9_449 rfl rfl ?_
    refine wp_iload_n dX9_begins_17 rfl rfl ?_
    refine wm_iast dX9_begins_18 s_125 rfl h (fun m2 h => ?_)
    refine wp_aload_n dX9_begins_19 rfl rfl ?_
    refine wp_dup dX9_begins_20 rfl rfl ?_
    refine wm_getI dX9_begins_21 s_85 fk_X9_449 rfl rfl ?_
    refine wp_iconst (1 : Int32) dX9_begins_24 ic_1 rfl ?_
    refine wp_iadd dX9_begins_25 rfl ?_
    refine wm_putI dX9_begins_26 s_85 fk_X9_449 rfl rfl h (fun m3 h => ?_)
    exact wm_vret dX9_begins_29 rfl ⟨rfl, rfl⟩ h hP
theorem o_X9_begins {g : Gx}  {p1 : Int32} {m : Mem} {t : Mem} (h : f_X9_begins p1 m = some t) : MxM g 1 mi_X9_begins [.ref 85, .int p1] m (qV t) := mx_of pn_X9 (Nat.le_of_ble_eq_true rfl) (k_X9_begins_E h ⟨rfl, rfl, rfl, rfl, rfl⟩)
noncomputable def f_X9_knowsAs_B (rc : Int32 → Int32 → Mem → Option (Int32 × Mem)) (p1 : Int32) (p2 : Int32) (m : Mem) : Option (Int32 × Mem) := if ¬ p1 = (1 : Int32) then if ¬ p1 = (6 : Int32) then (f_X9_begins (1 : Int32) m).bind (fun q1 => some ((p2 + (gI q1 85 71)), q1)) else (f_X9_begins (70 : Int32) m).bind (fun q2 => (rc (0 : Int32) p2 q2).bind (fun q3 => some ((q3.1 * (2 : Int32)), q3.2))) else (f_X9_begins (20 : Int32) m).bind (fun q4 => (rc (0 : Int32) p2 q4).bind (fun q5 => some ((q5.1 + (3 : Int32)), q5.2)))
theorem k_X9_knowsAs_E {g : Gx} {d0 : Nat} {rc : Int32 → Int32 → Mem → Option (Int32 × Mem)} (hrc : ∀ p1 p2 m t, rc p1 p2 m = some t → MxM g d0 mi_X9_knowsAs [.ref 85, .int p1, .int p2] m (qI t)) {p1 : Int32} {p2 : Int32} {Q : Qy} {m : Mem} {t : Int32 × Mem} (h : f_X9_knowsAs_B rc p1 p2 m = some t) (hP : pI Q t) : WpM g (d0 + 2) mi_X9_knowsAs 0 [some (.ref 85), some (.int p1), some (.int p2)] [] m (zM g mi_X9_knowsAs Q) := by
  refine wp_iload_n dX9_knowsAs_0 rfl rfl ?_
  refine wp_iconst (1 : Int32) dX9_knowsAs_1 ic_1 rfl ?_
  refine wm_icmp_ne 20 dX9_knowsAs_2 rfl rfl h (fun h => ?_) (fun h => ?_)
  · refine wp_iload_n dX9_knowsAs_20 rfl rfl ?_
    refine wp_bipush (6 : Int32) dX9_knowsAs_21 ib_6 rfl ?_
    refine wm_icmp_ne 41 dX9_knowsAs_23 rfl rfl h (fun h => ?_) (fun h => ?_)
    · refine wp_aload_n dX9_knowsAs_41 rfl rfl ?_
      refine wp_iconst (1 : Int32) dX9_knowsAs_42 ic_1 rfl ?_
      refine wm_callVN (As := [.int (1 : Int32)]) (rest := []) dX9_knowsAs_43 ok_X9_452 (by omega) rfl s_85 ⟨_, rfl⟩ (Nat.le_of_ble_eq_true rfl) ⟨rfl, rfl⟩ rfl (fun t h => o_X9_begins h) h (fun q1 h => ?_)
      refine wp_iload_n dX9_knowsAs_46 rfl rfl ?_
      refine wp_aload_n dX9_knowsAs_47 rfl rfl ?_
      refine wm_getI dX9_knowsAs_48 s_85 fk_X9_458 rfl rfl ?_
      refine wp_iadd dX9_knowsAs_51 rfl ?_
      exact wm_iret dX9_knowsAs_52 rfl ⟨rfl, rfl⟩ h hP
    · refine wp_aload_n dX9_knowsAs_26 rfl rfl ?_
      refine wp_bipush (70 : Int32) dX9_knowsAs_27 ib_70 rfl ?_
      refine wm_callVN (As := [.int (70 : Int32)]) (rest := []) dX9_knowsAs_29 ok_X9_452 (by omega) rfl s_85 ⟨_, rfl⟩ (Nat.le_of_ble_eq_true rfl) ⟨rfl, rfl⟩ rfl (fun t h => o_X9_begins h) h (fun q2 h => ?_)
      refine wp_aload_n dX9_knowsAs_32 rfl rfl ?_
      refine wp_iconst (0 : Int32) dX9_knowsAs_33 ic_0 rfl ?_
      refine wp_iload_n dX9_knowsAs_34 rfl rfl ?_
      refine wm_callVI (As := [.int (0 : Int32), .int p2]) (rest := []) dX9_knowsAs_35 ok_X9_455 (by omega) rfl s_85 ⟨_, rfl⟩ (Nat.le_of_ble_eq_true rfl) ⟨rfl, rfl⟩ rfl (hrc _ _ _) h (fun q3 h => ?_)
      refine wp_iconst (2 : Int32) dX9_knowsAs_38 ic_2 rfl ?_
      refine wp_imul dX9_knowsAs_39 rfl ?_
      exact wm_iret dX9_knowsAs_40 rfl ⟨rfl, rfl⟩ h hP
  · refine wp_aload_n dX9_knowsAs_5 rfl rfl ?_
    refine wp_bipush (20 : Int32) dX9_knowsAs_6 ib_20 rfl ?_
    refine wm_callVN (As := [.int (20 : Int32)]) (rest := []) dX9_knowsAs_8 ok_X9_452 (by omega) rfl s_85 ⟨_, rfl⟩ (Nat.le_of_ble_eq_true rfl) ⟨rfl, rfl⟩ rfl (fun t h => o_X9_begins h) h (fun q4 h => ?_)
    refine wp_aload_n dX9_knowsAs_11 rfl rfl ?_
    refine wp_iconst (0 : Int32) dX9_knowsAs_12 ic_0 rfl ?_
    refine wp_iload_n dX9_knowsAs_13 rfl rfl ?_
    refine wm_callVI (As := [.int (0 : Int32), .int p2]) (rest := []) dX9_knowsAs_14 ok_X9_455 (by omega) rfl s_85 ⟨_, rfl⟩ (Nat.le_of_ble_eq_true rfl) ⟨rfl, rfl⟩ rfl (hrc _ _ _) h (fun q5 h => ?_)
    refine wp_iconst (3 : Int32) dX9_knowsAs_17 ic_3 rfl ?_
    refine wp_iadd dX9_knowsAs_18 rfl ?_
    exact wm_iret dX9_knowsAs_19 rfl ⟨rfl, rfl⟩ h hP
theorem o_X9_knowsAs_B {g : Gx} {d0 : Nat} {rc : Int32 → Int32 → Mem → Option (Int32 × Mem)} (hrc : ∀ p1 p2 m t, rc p1 p2 m = some t → MxM g d0 mi_X9_knowsAs [.ref 85, .int p1, .int p2] m (qI t)) {p1 : Int32} {p2 : Int32} {m : Mem} {t : Int32 × Mem} (h : f_X9_knowsAs_B rc p1 p2 m = some t) : MxM g (d0 + 2) mi_X9_knowsAs [.ref 85, .int p1, .int p2] m (qI t) := mx_of pn_X9 (Nat.le_of_ble_eq_true rfl) (k_X9_knowsAs_E hrc h ⟨rfl, rfl, rfl, rfl, rfl⟩)
noncomputable def f_X9_knowsAs : Nat → Int32 → Int32 → Mem → Option (Int32 × Mem)
  | 0, _, _, _ => none
  | n + 1, p1, p2, m => f_X9_knowsAs_B (f_X9_knowsAs n) p1 p2 m
theorem o_X9_knowsAs {g : Gx} (n : Nat) : ∀ {p1 : Int32} {p2 : Int32} {m : Mem} {t : Int32 × Mem}, f_X9_knowsAs n p1 p2 m = some t → MxM g (2 * n) mi_X9_knowsAs [.ref 85, .int p1, .int p2] m (qI t) := by
  induction n with
  | zero => intro _ _ _ _ h; cases h
  | succ n ih => intro p1 p2 m t h; exact o_X9_knowsAs_B (d0 := 2 * n) (fun _ _ _ _ h => ih h) h
noncomputable def f_X9_stopsAs_J10 (rc : Int32 → Int32 → Mem → Option (Int32 × Mem)) (v2 : Int32) (m : Mem) : Option (Int32 × Mem) := (f_X9_begins (40 : Int32) m).bind (fun q1 => (rc (2 : Int32) v2 q1).bind (fun q2 => some ((q2.1 * (3 : Int32)), q2.2)))
theorem k_X9_stopsAs_J10 {g : Gx} {d0 : Nat} {rc : Int32 → Int32 → Mem → Option (Int32 × Mem)} (hrc : ∀ p1 p2 m t, rc p1 p2 m = some t → MxM g d0 mi_X9_stopsAs [.ref 85, .int p1, .int p2] m (qI t)) {v2 : Int32}  {Q : Qy} {m : Mem} {t : Int32 × Mem} (h : f_X9_stopsAs_J10 rc v2 m = some t) (hP : pI Q t) : WpM g (d0 + 9) mi_X9_stopsAs 10 [some (.ref 85), none, some (.int v2), none] [] m (zM g mi_X9_stopsAs Q) := by
  refine wp_aload_n dX9_stopsAs_10 rfl rfl ?_
  refine wp_bipush (40 : Int32) dX9_stopsAs_11 ib_40 rfl ?_
  refine wm_callVN (As := [.int (40 : Int32)]) (rest := []) dX9_stopsAs_13 ok_X9_452 (by omega) rfl s_85 ⟨_, rfl⟩ (Nat.le_of_ble_eq_true rfl) ⟨rfl, rfl⟩ rfl (fun t h => o_X9_begins h) h (fun q1 h => ?_)
  refine wp_aload_n dX9_stopsAs_16 rfl rfl ?_
  refine wp_iconst (2 : Int32) dX9_stopsAs_17 ic_2 rfl ?_
  refine wp_iload_n dX9_stopsAs_18 rfl rfl ?_
  refine wm_callVI (As := [.int (2 : Int32), .int v2]) (rest := []) dX9_stopsAs_19 ok_X9_467 (by omega) rfl s_85 ⟨_, rfl⟩ (Nat.le_of_ble_eq_true rfl) ⟨rfl, rfl⟩ rfl (hrc _ _ _) h (fun q2 h => ?_)
  refine wp_iconst (3 : Int32) dX9_stopsAs_22 ic_3 rfl ?_
  refine wp_imul dX9_stopsAs_23 rfl ?_
  exact wm_iret dX9_stopsAs_24 rfl ⟨rfl, rfl⟩ h hP
noncomputable def f_X9_stopsAs_J36 (rc : Int32 → Int32 → Mem → Option (Int32 × Mem)) (v2 : Int32) (m : Mem) : Option (Int32 × Mem) := (f_X9_begins (50 : Int32) m).bind (fun q3 => (rc (0 : Int32) v2 q3).bind (fun q4 => (f_X9_knowsAs 4 (gI q4.2 85 70) (2 : Int32) q4.2).bind (fun q5 => some ((q4.1 - q5.1), q5.2))))
theorem k_X9_stopsAs_J36 {g : Gx} {d0 : Nat} {rc : Int32 → Int32 → Mem → Option (Int32 × Mem)} (hrc : ∀ p1 p2 m t, rc p1 p2 m = some t → MxM g d0 mi_X9_stopsAs [.ref 85, .int p1, .int p2] m (qI t)) {v2 : Int32}  {Q : Qy} {m : Mem} {t : Int32 × Mem} (h : f_X9_stopsAs_J36 rc v2 m = some t) (hP : pI Q t) : WpM g (d0 + 9) mi_X9_stopsAs 36 [some (.ref 85), none, some (.int v2), none] [] m (zM g mi_X9_stopsAs Q) := by
  refine wp_aload_n dX9_stopsAs_36 rfl rfl ?_
  refine wp_bipush (50 : Int32) dX9_stopsAs_37 ib_50 rfl ?_
  refine wm_callVN (As := [.int (50 : Int32)]) (rest := []) dX9_stopsAs_39 ok_X9_452 (by omega) rfl s_85 ⟨_, rfl⟩ (Nat.le_of_ble_eq_true rfl) ⟨rfl, rfl⟩ rfl (fun t h => o_X9_begins h) h (fun q3 h => ?_)
  refine wp_aload_n dX9_stopsAs_42 rfl rfl ?_
  refine wp_iconst (0 : Int32) dX9_stopsAs_43 ic_0 rfl ?_
  refine wp_iload_n dX9_stopsAs_44 rfl rfl ?_
  refine wm_callVI (As := [.int (0 : Int32), .int v2]) (rest := []) dX9_stopsAs_45 ok_X9_467 (by omega) rfl s_85 ⟨_, rfl⟩ (Nat.le_of_ble_eq_true rfl) ⟨rfl, rfl⟩ rfl (hrc _ _ _) h (fun q4 h => ?_)
  refine wp_istore_n dX9_stopsAs_48 (by decide) rfl rfl rfl ?_
  refine wp_iload_n dX9_stopsAs_49 rfl rfl ?_
  refine wp_aload_n dX9_stopsAs_50 rfl rfl ?_
  refine wp_aload_n dX9_stopsAs_51 rfl rfl ?_
  refine wm_getI dX9_stopsAs_52 s_85 fk_X9_464 rfl rfl ?_
  refine wp_iconst (2 : Int32) dX9_stopsAs_55 ic_2 rfl ?_
  refine wm_callVI (As := [.int (gI q4.2 85 70), .int (2 : Int32)]) (rest := [.int q4.1]) dX9_stopsAs_56 ok_X9_455 (by omega) rfl s_85 ⟨_, rfl⟩ (Nat.le_of_ble_eq_true rfl) ⟨rfl, rfl⟩ rfl (fun t h => o_X9_knowsAs 4 h) h (fun q5 h => ?_)
  refine wp_isub dX9_stopsAs_59 rfl ?_
  exact wm_iret dX9_stopsAs_60 rfl ⟨rfl, rfl⟩ h hP
noncomputable def f_X9_stopsAs_B (rc : Int32 → Int32 → Mem → Option (Int32 × Mem)) (p1 : Int32) (p2 : Int32) (m : Mem) : Option (Int32 × Mem) := if p1 = (3 : Int32) then f_X9_stopsAs_J10 rc p2 m else if ¬ p1 = (5 : Int32) then if p1 = (4 : Int32) then f_X9_stopsAs_J36 rc p2 m else if ¬ p1 = (7 : Int32) then (f_X9_begins (11 : Int32) m).bind (fun q6 => some ((p2 ^^^ (gI q6 85 71)), q6)) else f_X9_stopsAs_J36 rc p2 m else f_X9_stopsAs_J10 rc p2 m
theorem k_X9_stopsAs_E {g : Gx} {d0 : Nat} {rc : Int32 → Int32 → Mem → Option (Int32 × Mem)} (hrc : ∀ p1 p2 m t, rc p1 p2 m = some t → MxM g d0 mi_X9_stopsAs [.ref 85, .int p1, .int p2] m (qI t)) {p1 : Int32} {p2 : Int32} {Q : Qy} {m : Mem} {t : Int32 × Mem} (h : f_X9_stopsAs_B rc p1 p2 m = some t) (hP : pI Q t) : WpM g (d0 + 9) mi_X9_stopsAs 0 [some (.ref 85), some (.int p1), some (.int p2), none] [] m (zM g mi_X9_stopsAs Q) := by
  refine wp_iload_n dX9_stopsAs_0 rfl rfl ?_
  refine wp_iconst (3 : Int32) dX9_stopsAs_1 ic_3 rfl ?_
  refine wm_icmp_eq 10 dX9_stopsAs_2 rfl rfl h (fun h => ?_) (fun h => ?_)
  · exact wm_mask [true, false, true, false] rfl (k_X9_stopsAs_J10 hrc h hP)
  · refine wp_iload_n dX9_stopsAs_5 rfl rfl ?_
    refine wp_iconst (5 : Int32) dX9_stopsAs_6 ic_5 rfl ?_
    refine wm_icmp_ne 25 dX9_stopsAs_7 rfl rfl h (fun h => ?_) (fun h => ?_)
    · refine wp_iload_n dX9_stopsAs_25 rfl rfl ?_
      refine wp_iconst (4 : Int32) dX9_stopsAs_26 ic_4 rfl ?_
      refine wm_icmp_eq 36 dX9_stopsAs_27 rfl rfl h (fun h => ?_) (fun h => ?_)
      · exact wm_mask [true, false, true, false] rfl (k_X9_stopsAs_J36 hrc h hP)
      · refine wp_iload_n dX9_stopsAs_30 rfl rfl ?_
        refine wp_bipush (7 : Int32) dX9_stopsAs_31 ib_7 rfl ?_
        refine wm_icmp_ne 61 dX9_stopsAs_33 rfl rfl h (fun h => ?_) (fun h => ?_)
        · refine wp_aload_n dX9_stopsAs_61 rfl rfl ?_
          refine wp_bipush (11 : Int32) dX9_stopsAs_62 ib_11 rfl ?_
          refine wm_callVN (As := [.int (11 : Int32)]) (rest := []) dX9_stopsAs_64 ok_X9_452 (by omega) rfl s_85 ⟨_, rfl⟩ (Nat.le_of_ble_eq_true rfl) ⟨rfl, rfl⟩ rfl (fun t h => o_X9_begins h) h (fun q6 h => ?_)
          refine wp_iload_n dX9_stopsAs_67 rfl rfl ?_
          refine wp_aload_n dX9_stopsAs_68 rfl rfl ?_
          refine wm_getI dX9_stopsAs_69 s_85 fk_X9_458 rfl rfl ?_
          refine wp_ixor dX9_stopsAs_72 rfl ?_
          exact wm_iret dX9_stopsAs_73 rfl ⟨rfl, rfl⟩ h hP
        · exact wm_mask [true, false, true, false] rfl (k_X9_stopsAs_J36 hrc h hP)
    · exact wm_mask [true, false, true, false] rfl (k_X9_stopsAs_J10 hrc h hP)
theorem o_X9_stopsAs_B {g : Gx} {d0 : Nat} {rc : Int32 → Int32 → Mem → Option (Int32 × Mem)} (hrc : ∀ p1 p2 m t, rc p1 p2 m = some t → MxM g d0 mi_X9_stopsAs [.ref 85, .int p1, .int p2] m (qI t)) {p1 : Int32} {p2 : Int32} {m : Mem} {t : Int32 × Mem} (h : f_X9_stopsAs_B rc p1 p2 m = some t) : MxM g (d0 + 9) mi_X9_stopsAs [.ref 85, .int p1, .int p2] m (qI t) := mx_of pn_X9 (Nat.le_of_ble_eq_true rfl) (k_X9_stopsAs_E hrc h ⟨rfl, rfl, rfl, rfl, rfl⟩)
noncomputable def f_X9_stopsAs : Nat → Int32 → Int32 → Mem → Option (Int32 × Mem)
  | 0, _, _, _ => none
  | n + 1, p1, p2, m => f_X9_stopsAs_B (f_X9_stopsAs n) p1 p2 m
theorem o_X9_stopsAs {g : Gx} (n : Nat) : ∀ {p1 : Int32} {p2 : Int32} {m : Mem} {t : Int32 × Mem}, f_X9_stopsAs n p1 p2 m = some t → MxM g (9 * n) mi_X9_stopsAs [.ref 85, .int p1, .int p2] m (qI t) := by
  induction n with
  | zero => intro _ _ _ _ h; cases h
  | succ n ih => intro p1 p2 m t h; exact o_X9_stopsAs_B (d0 := 9 * n) (fun _ _ _ _ h => ih h) h
noncomputable def f_X9_speaksAs_J10 (rc : Int32 → Int32 → Mem → Option (Int32 × Mem)) (v2 : Int32) (m : Mem) : Option (Int32 × Mem) := (f_X9_begins (41 : Int32) m).bind (fun q1 => (rc (2 : Int32) (v2 + (1 : Int32)) q1).bind (fun q2 => some (q2.1, q2.2)))
theorem k_X9_speaksAs_J10 {g : Gx} {d0 : Nat} {rc : Int32 → Int32 → Mem → Option (Int32 × Mem)} (hrc : ∀ p1 p2 m t, rc p1 p2 m = some t → MxM g d0 mi_X9_speaksAs [.ref 85, .int p1, .int p2] m (qI t)) {v2 : Int32}  {Q : Qy} {m : Mem} {t : Int32 × Mem} (h : f_X9_speaksAs_J10 rc v2 m = some t) (hP : pI Q t) : WpM g (d0 + 37) mi_X9_speaksAs 10 [some (.ref 85), none, some (.int v2), none] [] m (zM g mi_X9_speaksAs Q) := by
  refine wp_aload_n dX9_speaksAs_10 rfl rfl ?_
  refine wp_bipush (41 : Int32) dX9_speaksAs_11 ib_41 rfl ?_
  refine wm_callVN (As := [.int (41 : Int32)]) (rest := []) dX9_speaksAs_13 ok_X9_452 (by omega) rfl s_85 ⟨_, rfl⟩ (Nat.le_of_ble_eq_true rfl) ⟨rfl, rfl⟩ rfl (fun t h => o_X9_begins h) h (fun q1 h => ?_)
  refine wp_aload_n dX9_speaksAs_16 rfl rfl ?_
  refine wp_iconst (2 : Int32) dX9_speaksAs_17 ic_2 rfl ?_
  refine wp_iload_n dX9_speaksAs_18 rfl rfl ?_
  refine wp_iconst (1 : Int32) dX9_speaksAs_19 ic_1 rfl ?_
  refine wp_iadd dX9_speaksAs_20 rfl ?_
  refine wm_callVI (As := [.int (2 : Int32), .int (v2 + (1 : Int32))]) (rest := []) dX9_speaksAs_21 ok_X9_461 (by omega) rfl s_85 ⟨_, rfl⟩ (Nat.le_of_ble_eq_true rfl) ⟨rfl, rfl⟩ rfl (hrc _ _ _) h (fun q2 h => ?_)
  exact wm_iret dX9_speaksAs_24 rfl ⟨rfl, rfl⟩ h hP
noncomputable def f_X9_speaksAs_B (rc : Int32 → Int32 → Mem → Option (Int32 × Mem)) (p1 : Int32) (p2 : Int32) (m : Mem) : Option (Int32 × Mem) := if p1 = (3 : Int32) then f_X9_speaksAs_J10 rc p2 m else if ¬ p1 = (5 : Int32) then if ¬ p1 = (2 : Int32) then if ¬ p1 = (7 : Int32) then (f_X9_begins (10 : Int32) m).bind (fun q3 => (f_X9_knowsAs 4 (gI q3 85 70) p2 q3).bind (fun q4 => some ((q4.1 * (2 : Int32)), q4.2))) else (f_X9_begins (80 : Int32) m).bind (fun q5 => (rc (4 : Int32) p2 q5).bind (fun q6 => (f_X9_stopsAs 4 (gI q6.2 85 70) (2 : Int32) q6.2).bind (fun q7 => some ((q6.1 + q7.1), q7.2)))) else (f_X9_begins (30 : Int32) m).bind (fun q8 => (rc (0 : Int32) p2 q8).bind (fun q9 => some ((-q9.1), q9.2))) else f_X9_speaksAs_J10 rc p2 m
theorem k_X9_speaksAs_E {g : Gx} {d0 : Nat} {rc : Int32 → Int32 → Mem → Option (Int32 × Mem)} (hrc : ∀ p1 p2 m t, rc p1 p2 m = some t → MxM g d0 mi_X9_speaksAs [.ref 85, .int p1, .int p2] m (qI t)) {p1 : Int32} {p2 : Int32} {Q : Qy} {m : Mem} {t : Int32 × Mem} (h : f_X9_speaksAs_B rc p1 p2 m = some t) (hP : pI Q t) : WpM g (d0 + 37) mi_X9_speaksAs 0 [some (.ref 85), some (.int p1), some (.int p2), none] [] m (zM g mi_X9_speaksAs Q) := by
  refine wp_iload_n dX9_speaksAs_0 rfl rfl ?_
  refine wp_iconst (3 : Int32) dX9_speaksAs_1 ic_3 rfl ?_
  refine wm_icmp_eq 10 dX9_speaksAs_2 rfl rfl h (fun h => ?_) (fun h => ?_)
  · exact wm_mask [true, false, true, false] rfl (k_X9_speaksAs_J10 hrc h hP)
  · refine wp_iload_n dX9_speaksAs_5 rfl rfl ?_
    refine wp_iconst (5 : Int32) dX9_speaksAs_6 ic_5 rfl ?_
    refine wm_icmp_ne 25 dX9_speaksAs_7 rfl rfl h (fun h => ?_) (fun h => ?_)
    · refine wp_iload_n dX9_speaksAs_25 rfl rfl ?_
      refine wp_iconst (2 : Int32) dX9_speaksAs_26 ic_2 rfl ?_
      refine wm_icmp_ne 44 dX9_speaksAs_27 rfl rfl h (fun h => ?_) (fun h => ?_)
      · refine wp_iload_n dX9_speaksAs_44 rfl rfl ?_
        refine wp_bipush (7 : Int32) dX9_speaksAs_45 ib_7 rfl ?_
        refine wm_icmp_ne 75 dX9_speaksAs_47 rfl rfl h (fun h => ?_) (fun h => ?_)
        · refine wp_aload_n dX9_speaksAs_75 rfl rfl ?_
          refine wp_bipush (10 : Int32) dX9_speaksAs_76 ib_10 rfl ?_
          refine wm_callVN (As := [.int (10 : Int32)]) (rest := []) dX9_speaksAs_78 ok_X9_452 (by omega) rfl s_85 ⟨_, rfl⟩ (Nat.le_of_ble_eq_true rfl) ⟨rfl, rfl⟩ rfl (fun t h => o_X9_begins h) h (fun q3 h => ?_)
          refine wp_aload_n dX9_speaksAs_81 rfl rfl ?_
          refine wp_aload_n dX9_speaksAs_82 rfl rfl ?_
          refine wm_getI dX9_speaksAs_83 s_85 fk_X9_464 rfl rfl ?_
          refine wp_iload_n dX9_speaksAs_86 rfl rfl ?_
          refine wm_callVI (As := [.int (gI q3 85 70), .int p2]) (rest := []) dX9_speaksAs_87 ok_X9_455 (by omega) rfl s_85 ⟨_, rfl⟩ (Nat.le_of_ble_eq_true rfl) ⟨rfl, rfl⟩ rfl (fun t h => o_X9_knowsAs 4 h) h (fun q4 h => ?_)
          refine wp_iconst (2 : Int32) dX9_speaksAs_90 ic_2 rfl ?_
          refine wp_imul dX9_speaksAs_91 rfl ?_
          exact wm_iret dX9_speaksAs_92 rfl ⟨rfl, rfl⟩ h hP
        · refine wp_aload_n dX9_speaksAs_50 rfl rfl ?_
          refine wp_bipush (80 : Int32) dX9_speaksAs_51 ib_80 rfl ?_
          refine wm_callVN (As := [.int (80 : Int32)]) (rest := []) dX9_speaksAs_53 ok_X9_452 (by omega) rfl s_85 ⟨_, rfl⟩ (Nat.le_of_ble_eq_true rfl) ⟨rfl, rfl⟩ rfl (fun t h => o_X9_begins h) h (fun q5 h => ?_)
          refine wp_aload_n dX9_speaksAs_56 rfl rfl ?_
          refine wp_iconst (4 : Int32) dX9_speaksAs_57 ic_4 rfl ?_
          refine wp_iload_n dX9_speaksAs_58 rfl rfl ?_
          refine wm_callVI (As := [.int (4 : Int32), .int p2]) (rest := []) dX9_speaksAs_59 ok_X9_461 (by omega) rfl s_85 ⟨_, rfl⟩ (Nat.le_of_ble_eq_true rfl) ⟨rfl, rfl⟩ rfl (hrc _ _ _) h (fun q6 h => ?_)
          refine wp_istore_n dX9_speaksAs_62 (by decide) rfl rfl rfl ?_
          refine wp_iload_n dX9_speaksAs_63 rfl rfl ?_
          refine wp_aload_n dX9_speaksAs_64 rfl rfl ?_
          refine wp_aload_n dX9_speaksAs_65 rfl rfl ?_
          refine wm_getI dX9_speaksAs_66 s_85 fk_X9_464 rfl rfl ?_
          refine wp_iconst (2 : Int32) dX9_speaksAs_69 ic_2 rfl ?_
          refine wm_callVI (As := [.int (gI q6.2 85 70), .int (2 : Int32)]) (rest := [.int q6.1]) dX9_speaksAs_70 ok_X9_467 (by omega) rfl s_85 ⟨_, rfl⟩ (Nat.le_of_ble_eq_true rfl) ⟨rfl, rfl⟩ rfl (fun t h => o_X9_stopsAs 4 h) h (fun q7 h => ?_)
          refine wp_iadd dX9_speaksAs_73 rfl ?_
          exact wm_iret dX9_speaksAs_74 rfl ⟨rfl, rfl⟩ h hP
      · refine wp_aload_n dX9_speaksAs_30 rfl rfl ?_
        refine wp_bipush (30 : Int32) dX9_speaksAs_31 ib_30 rfl ?_
        refine wm_callVN (As := [.int (30 : Int32)]) (rest := []) dX9_speaksAs_33 ok_X9_452 (by omega) rfl s_85 ⟨_, rfl⟩ (Nat.le_of_ble_eq_true rfl) ⟨rfl, rfl⟩ rfl (fun t h => o_X9_begins h) h (fun q8 h => ?_)
        refine wp_aload_n dX9_speaksAs_36 rfl rfl ?_
        refine wp_iconst (0 : Int32) dX9_speaksAs_37 ic_0 rfl ?_
        refine wp_iload_n dX9_speaksAs_38 rfl rfl ?_
        refine wm_callVI (As := [.int (0 : Int32), .int p2]) (rest := []) dX9_speaksAs_39 ok_X9_461 (by omega) rfl s_85 ⟨_, rfl⟩ (Nat.le_of_ble_eq_true rfl) ⟨rfl, rfl⟩ rfl (hrc _ _ _) h (fun q9 h => ?_)
        refine wp_ineg dX9_speaksAs_42 rfl ?_
        exact wm_iret dX9_speaksAs_43 rfl ⟨rfl, rfl⟩ h hP
    · exact wm_mask [true, false, true, false] rfl (k_X9_speaksAs_J10 hrc h hP)
theorem o_X9_speaksAs_B {g : Gx} {d0 : Nat} {rc : Int32 → Int32 → Mem → Option (Int32 × Mem)} (hrc : ∀ p1 p2 m t, rc p1 p2 m = some t → MxM g d0 mi_X9_speaksAs [.ref 85, .int p1, .int p2] m (qI t)) {p1 : Int32} {p2 : Int32} {m : Mem} {t : Int32 × Mem} (h : f_X9_speaksAs_B rc p1 p2 m = some t) : MxM g (d0 + 37) mi_X9_speaksAs [.ref 85, .int p1, .int p2] m (qI t) := mx_of pn_X9 (Nat.le_of_ble_eq_true rfl) (k_X9_speaksAs_E hrc h ⟨rfl, rfl, rfl, rfl, rfl⟩)
noncomputable def f_X9_speaksAs : Nat → Int32 → Int32 → Mem → Option (Int32 × Mem)
  | 0, _, _, _ => none
  | n + 1, p1, p2, m => f_X9_speaksAs_B (f_X9_speaksAs n) p1 p2 m
theorem o_X9_speaksAs {g : Gx} (n : Nat) : ∀ {p1 : Int32} {p2 : Int32} {m : Mem} {t : Int32 × Mem}, f_X9_speaksAs n p1 p2 m = some t → MxM g (37 * n) mi_X9_speaksAs [.ref 85, .int p1, .int p2] m (qI t) := by
  induction n with
  | zero => intro _ _ _ _ h; cases h
  | succ n ih => intro p1 p2 m t h; exact o_X9_speaksAs_B (d0 := 37 * n) (fun _ _ _ _ h => ih h) h
noncomputable def f_X9_decidesAs_B (rc : Int32 → Int32 → Mem → Option (Int32 × Mem)) (p1 : Int32) (p2 : Int32) (m : Mem) : Option (Int32 × Mem) := if ¬ p1 = (5 : Int32) then if ¬ p1 = (7 : Int32) then (f_X9_begins (2 : Int32) m).bind (fun q1 => (f_X9_speaksAs 6 (gI q1 85 70) p2 q1).bind (fun q2 => (f_X9_stopsAs 4 (gI q2.2 85 70) (1 : Int32) q2.2).bind (fun q3 => some ((q2.1 - q3.1), q3.2)))) else (f_X9_begins (81 : Int32) m).bind (fun q4 => (rc (4 : Int32) p2 q4).bind (fun q5 => some ((q5.1 - (1 : Int32)), q5.2))) else (f_X9_begins (60 : Int32) m).bind (fun q6 => (rc (3 : Int32) p2 q6).bind (fun q7 => some ((q7.1 ^^^ (5 : Int32)), q7.2)))
theorem k_X9_decidesAs_E {g : Gx} {d0 : Nat} {rc : Int32 → Int32 → Mem → Option (Int32 × Mem)} (hrc : ∀ p1 p2 m t, rc p1 p2 m = some t → MxM g d0 mi_X9_decidesAs [.ref 85, .int p1, .int p2] m (qI t)) {p1 : Int32} {p2 : Int32} {Q : Qy} {m : Mem} {t : Int32 × Mem} (h : f_X9_decidesAs_B rc p1 p2 m = some t) (hP : pI Q t) : WpM g (d0 + 223) mi_X9_decidesAs 0 [some (.ref 85), some (.int p1), some (.int p2), none] [] m (zM g mi_X9_decidesAs Q) := by
  refine wp_iload_n dX9_decidesAs_0 rfl rfl ?_
  refine wp_iconst (5 : Int32) dX9_decidesAs_1 ic_5 rfl ?_
  refine wm_icmp_ne 20 dX9_decidesAs_2 rfl rfl h (fun h => ?_) (fun h => ?_)
  · refine wp_iload_n dX9_decidesAs_20 rfl rfl ?_
    refine wp_bipush (7 : Int32) dX9_decidesAs_21 ib_7 rfl ?_
    refine wm_icmp_ne 41 dX9_decidesAs_23 rfl rfl h (fun h => ?_) (fun h => ?_)
    · refine wp_aload_n dX9_decidesAs_41 rfl rfl ?_
      refine wp_iconst (2 : Int32) dX9_decidesAs_42 ic_2 rfl ?_
      refine wm_callVN (As := [.int (2 : Int32)]) (rest := []) dX9_decidesAs_43 ok_X9_452 (by omega) rfl s_85 ⟨_, rfl⟩ (Nat.le_of_ble_eq_true rfl) ⟨rfl, rfl⟩ rfl (fun t h => o_X9_begins h) h (fun q1 h => ?_)
      refine wp_aload_n dX9_decidesAs_46 rfl rfl ?_
      refine wp_aload_n dX9_decidesAs_47 rfl rfl ?_
      refine wm_getI dX9_decidesAs_48 s_85 fk_X9_464 rfl rfl ?_
      refine wp_iload_n dX9_decidesAs_51 rfl rfl ?_
      refine wm_callVI (As := [.int (gI q1 85 70), .int p2]) (rest := []) dX9_decidesAs_52 ok_X9_461 (by omega) rfl s_85 ⟨_, rfl⟩ (Nat.le_of_ble_eq_true rfl) ⟨rfl, rfl⟩ rfl (fun t h => o_X9_speaksAs 6 h) h (fun q2 h => ?_)
      refine wp_istore_n dX9_decidesAs_55 (by decide) rfl rfl rfl ?_
      refine wp_iload_n dX9_decidesAs_56 rfl rfl ?_
      refine wp_aload_n dX9_decidesAs_57 rfl rfl ?_
      refine wp_aload_n dX9_decidesAs_58 rfl rfl ?_
      refine wm_getI dX9_decidesAs_59 s_85 fk_X9_464 rfl rfl ?_
      refine wp_iconst (1 : Int32) dX9_decidesAs_62 ic_1 rfl ?_
      refine wm_callVI (As := [.int (gI q2.2 85 70), .int (1 : Int32)]) (rest := [.int q2.1]) dX9_decidesAs_63 ok_X9_467 (by omega) rfl s_85 ⟨_, rfl⟩ (Nat.le_of_ble_eq_true rfl) ⟨rfl, rfl⟩ rfl (fun t h => o_X9_stopsAs 4 h) h (fun q3 h => ?_)
      refine wp_isub dX9_decidesAs_66 rfl ?_
      exact wm_iret dX9_decidesAs_67 rfl ⟨rfl, rfl⟩ h hP
    · refine wp_aload_n dX9_decidesAs_26 rfl rfl ?_
      refine wp_bipush (81 : Int32) dX9_decidesAs_27 ib_81 rfl ?_
      refine wm_callVN (As := [.int (81 : Int32)]) (rest := []) dX9_decidesAs_29 ok_X9_452 (by omega) rfl s_85 ⟨_, rfl⟩ (Nat.le_of_ble_eq_true rfl) ⟨rfl, rfl⟩ rfl (fun t h => o_X9_begins h) h (fun q4 h => ?_)
      refine wp_aload_n dX9_decidesAs_32 rfl rfl ?_
      refine wp_iconst (4 : Int32) dX9_decidesAs_33 ic_4 rfl ?_
      refine wp_iload_n dX9_decidesAs_34 rfl rfl ?_
      refine wm_callVI (As := [.int (4 : Int32), .int p2]) (rest := []) dX9_decidesAs_35 ok_X9_470 (by omega) rfl s_85 ⟨_, rfl⟩ (Nat.le_of_ble_eq_true rfl) ⟨rfl, rfl⟩ rfl (hrc _ _ _) h (fun q5 h => ?_)
      refine wp_iconst (1 : Int32) dX9_decidesAs_38 ic_1 rfl ?_
      refine wp_isub dX9_decidesAs_39 rfl ?_
      exact wm_iret dX9_decidesAs_40 rfl ⟨rfl, rfl⟩ h hP
  · refine wp_aload_n dX9_decidesAs_5 rfl rfl ?_
    refine wp_bipush (60 : Int32) dX9_decidesAs_6 ib_60 rfl ?_
    refine wm_callVN (As := [.int (60 : Int32)]) (rest := []) dX9_decidesAs_8 ok_X9_452 (by omega) rfl s_85 ⟨_, rfl⟩ (Nat.le_of_ble_eq_true rfl) ⟨rfl, rfl⟩ rfl (fun t h => o_X9_begins h) h (fun q6 h => ?_)
    refine wp_aload_n dX9_decidesAs_11 rfl rfl ?_
    refine wp_iconst (3 : Int32) dX9_decidesAs_12 ic_3 rfl ?_
    refine wp_iload_n dX9_decidesAs_13 rfl rfl ?_
    refine wm_callVI (As := [.int (3 : Int32), .int p2]) (rest := []) dX9_decidesAs_14 ok_X9_470 (by omega) rfl s_85 ⟨_, rfl⟩ (Nat.le_of_ble_eq_true rfl) ⟨rfl, rfl⟩ rfl (hrc _ _ _) h (fun q7 h => ?_)
    refine wp_iconst (5 : Int32) dX9_decidesAs_17 ic_5 rfl ?_
    refine wp_ixor dX9_decidesAs_18 rfl ?_
    exact wm_iret dX9_decidesAs_19 rfl ⟨rfl, rfl⟩ h hP
theorem o_X9_decidesAs_B {g : Gx} {d0 : Nat} {rc : Int32 → Int32 → Mem → Option (Int32 × Mem)} (hrc : ∀ p1 p2 m t, rc p1 p2 m = some t → MxM g d0 mi_X9_decidesAs [.ref 85, .int p1, .int p2] m (qI t)) {p1 : Int32} {p2 : Int32} {m : Mem} {t : Int32 × Mem} (h : f_X9_decidesAs_B rc p1 p2 m = some t) : MxM g (d0 + 223) mi_X9_decidesAs [.ref 85, .int p1, .int p2] m (qI t) := mx_of pn_X9 (Nat.le_of_ble_eq_true rfl) (k_X9_decidesAs_E hrc h ⟨rfl, rfl, rfl, rfl, rfl⟩)
noncomputable def f_X9_decidesAs : Nat → Int32 → Int32 → Mem → Option (Int32 × Mem)
  | 0, _, _, _ => none
  | n + 1, p1, p2, m => f_X9_decidesAs_B (f_X9_decidesAs n) p1 p2 m
theorem o_X9_decidesAs {g : Gx} (n : Nat) : ∀ {p1 : Int32} {p2 : Int32} {m : Mem} {t : Int32 × Mem}, f_X9_decidesAs n p1 p2 m = some t → MxM g (223 * n) mi_X9_decidesAs [.ref 85, .int p1, .int p2] m (qI t) := by
  induction n with
  | zero => intro _ _ _ _ h; cases h
  | succ n ih => intro p1 p2 m t h; exact o_X9_decidesAs_B (d0 := 223 * n) (fun _ _ _ _ h => ih h) h
