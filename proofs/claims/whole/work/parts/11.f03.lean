abbrev A_X4_hold_70 (g : Gx)  (Q : Qy) (s : Int32 × Mem) : Prop := WpM g 7 mi_X4_hold 70 [some (.ref 24), some (.int s.1)] [] s.2 (zM g mi_X4_hold Q)
abbrev P_X4_hold_70 (g : Gx)  (Q : Qy) : ((Int32 × Mem) ⊕ (Int32 × Mem)) → Prop := pS (A_X4_hold_70 g Q) (pI Q)
abbrev A_X4_hold_107 (g : Gx)  (Q : Qy) (s : Int32 × Mem) : Prop := WpM g 7 mi_X4_hold 107 [some (.ref 24), some (.int s.1)] [] s.2 (zM g mi_X4_hold Q)
abbrev P_X4_hold_107 (g : Gx)  (Q : Qy) : ((Int32 × Mem) ⊕ (Int32 × Mem)) → Prop := pS (A_X4_hold_107 g Q) (pI Q)
noncomputable def f_X4_hold_L107  (s : Int32 × Mem) : Option ((Int32 × Mem) ⊕ (Int32 × Mem)) := if (gI s.2 24 8) ≤ s.1 then up ((f_X4_summarize s.2).bind (fun q6 => (f_X4_needed q6).bind (fun q7 => ck (9 : Int32) 10 (bnd (sI q7.2 25 (ix (9 : Int32)) q7.1) (fun m8 => some ((gI m8 29 8), m8)))))) else (f_X3_minutesThere 29 s.1 s.2).bind (fun q9 => ck s.1 10 (bnd (sI q9.2 28 (ix s.1) q9.1) (fun m10 => bnd (s.1 + (1 : Int32)) (fun y11 => some (Sum.inl (y11, m10))))))
theorem k_X4_hold_L107 {g : Gx}  {Q : Qy} {s : Int32 × Mem} {t : (Int32 × Mem) ⊕ (Int32 × Mem)} (h : f_X4_hold_L107 s = some t) (hP : P_X4_hold_107 g Q t) : A_X4_hold_107 g Q s := by
  refine wp_iload_n dX4_hold_107 rfl rfl ?_
  refine wp_aload_n dX4_hold_108 rfl rfl ?_
  refine wm_getI dX4_hold_109 s_24 fk_X4_64 rfl rfl ?_
  refine wm_icmp_ge 135 dX4_hold_112 rfl rfl h (fun h => ?_) (fun h => ?_)
  · refine wm_up h hP (fun r h hP => ?_)
    refine wp_aload_n dX4_hold_135 rfl rfl ?_
    refine wm_callVN (As := []) (rest := []) dX4_hold_136 ok_X4_81 (by decide) rfl s_24 ⟨_, rfl⟩ (Nat.le_of_ble_eq_true rfl) ⟨rfl, rfl⟩ rfl (fun t h => o_X4_summarize h) h (fun q6 h => ?_)
    refine wp_aload_n dX4_hold_139 rfl rfl ?_
    refine wm_getR dX4_hold_140 s_24 fk_X4_9 rfl r_24_1 rfl ?_
    refine wp_bipush (9 : Int32) dX4_hold_143 ib_9 rfl ?_
    refine wp_aload_n dX4_hold_145 rfl rfl ?_
    refine wm_callVI (As := []) (rest := [.int (9 : Int32), .ref 25]) dX4_hold_146 ok_X4_84 (by decide) rfl s_24 ⟨_, rfl⟩ (Nat.le_of_ble_eq_true rfl) ⟨rfl, rfl⟩ rfl (fun t h => o_X4_needed h) h (fun q7 h => ?_)
    refine wm_iast dX4_hold_149 s_25 rfl h (fun m8 h => ?_)
    refine wp_aload_n dX4_hold_150 rfl rfl ?_
    refine wm_getR dX4_hold_151 s_24 fk_X4_33 rfl r_24_0 rfl ?_
    refine wm_getI dX4_hold_154 (sM_0 (by unfold MA; omega)) fk_X4_88 rfl rfl ?_
    exact wm_iret dX4_hold_157 rfl ⟨rfl, rfl⟩ h hP
  · refine wp_aload_n dX4_hold_115 rfl rfl ?_
    refine wm_getR dX4_hold_116 s_24 fk_X4_21 rfl r_24_7 rfl ?_
    refine wp_iload_n dX4_hold_119 rfl rfl ?_
    refine wp_aload_n dX4_hold_120 rfl rfl ?_
    refine wm_getR dX4_hold_121 s_24 fk_X4_33 rfl r_24_0 rfl ?_
    refine wp_iload_n dX4_hold_124 rfl rfl ?_
    refine wm_callVI (As := [.int s.1]) (rest := [.int s.1, .ref 28]) dX4_hold_125 ok_X4_77 (by decide) rfl (sM_0 (by unfold MA; omega)) ⟨_, rfl⟩ (Nat.le_of_ble_eq_true rfl) ⟨rfl, rfl⟩ rfl (fun t h => o_X3_minutesThere (by unfold MA; omega) h) h (fun q9 h => ?_)
    refine wm_iast dX4_hold_128 s_28 rfl h (fun m10 h => ?_)
    refine wm_inc dX4_hold_129 rfl ii_1 (by decide) rfl rfl h (fun y11 h => ?_)
    refine wm_list (L' := [some (.ref 24), some (.int y11)]) rfl ?_
    refine wp_goto 107 dX4_hold_132 rfl ?_
    have hB := wm_back h hP
    exact wm_mask (L' := [some (.ref 24), some (.int y11)]) [true, true] rfl (hB)
noncomputable def f_X4_hold_L70  (s : Int32 × Mem) : Option ((Int32 × Mem) ⊕ (Int32 × Mem)) := if (gI s.2 24 9) ≤ s.1 then up (wh (f_X4_hold_L107) ((0 : Int32), s.2)) else (f_X6_sum s.1 (gI s.2 29 9) s.2).bind (fun q12 => ck s.1 6 (bnd (sI q12.2 26 (ix s.1) q12.1) (fun m13 => bnd (s.1 + (1 : Int32)) (fun y14 => some (Sum.inl (y14, m13))))))
theorem k_X4_hold_L70 {g : Gx}  {Q : Qy} {s : Int32 × Mem} {t : (Int32 × Mem) ⊕ (Int32 × Mem)} (h : f_X4_hold_L70 s = some t) (hP : P_X4_hold_70 g Q t) : A_X4_hold_70 g Q s := by
  refine wp_iload_n dX4_hold_70 rfl rfl ?_
  refine wp_aload_n dX4_hold_71 rfl rfl ?_
  refine wm_getI dX4_hold_72 s_24 fk_X4_65 rfl rfl ?_
  refine wm_icmp_ge 105 dX4_hold_75 rfl rfl h (fun h => ?_) (fun h => ?_)
  · refine wm_up h hP (fun r h hP => ?_)
    refine wp_iconst (0 : Int32) dX4_hold_105 ic_0 rfl ?_
    refine wp_istore_n (L' := [some (.ref 24), some (.int (0 : Int32))]) dX4_hold_106 (by decide) rfl rfl rfl ?_
    have hB := wh_ok (A := A_X4_hold_107 g Q) (B := pI Q) (fun s t h hP => k_X4_hold_L107  h hP) h hP
    exact wm_mask (L' := [some (.ref 24), some (.int (0 : Int32))]) [true, true] rfl (hB)
  · refine wp_aload_n dX4_hold_78 rfl rfl ?_
    refine wm_getR dX4_hold_79 s_24 fk_X4_15 rfl r_24_2 rfl ?_
    refine wp_iload_n dX4_hold_82 rfl rfl ?_
    refine wp_aload_n dX4_hold_83 rfl rfl ?_
    refine wm_getR dX4_hold_84 s_24 fk_X4_24 rfl r_24_4 rfl ?_
    refine wp_iload_n dX4_hold_87 rfl rfl ?_
    refine wp_aload_n dX4_hold_88 rfl rfl ?_
    refine wm_getR dX4_hold_89 s_24 fk_X4_33 rfl r_24_0 rfl ?_
    refine wm_getI dX4_hold_92 (sM_0 (by unfold MA; omega)) fk_X4_70 rfl rfl ?_
    refine wm_callVI (As := [.int s.1, .int (gI s.2 29 9)]) (rest := [.int s.1, .ref 26]) dX4_hold_95 ok_X4_73 (by decide) rfl s_1 ⟨_, rfl⟩ (Nat.le_of_ble_eq_true rfl) ⟨rfl, rfl⟩ rfl (fun t h => o_X6_sum h) h (fun q12 h => ?_)
    refine wm_iast dX4_hold_98 s_26 rfl h (fun m13 h => ?_)
    refine wm_inc dX4_hold_99 rfl ii_1 (by decide) rfl rfl h (fun y14 h => ?_)
    refine wm_list (L' := [some (.ref 24), some (.int y14)]) rfl ?_
    refine wp_goto 70 dX4_hold_102 rfl ?_
    have hB := wm_back h hP
    exact wm_mask (L' := [some (.ref 24), some (.int y14)]) [true, true] rfl (hB)
noncomputable def f_X4_hold   (m : Mem) : Option (Int32 × Mem) := ck (0 : Int32) 3 (ck (2 : Int32) 3 ((f_X3_hold 29 27 (gI m 11 (ix (0 : Int32))) (gI m 11 (ix (2 : Int32))) (-1 : Int32) m).bind (fun q1 => bnd (sI q1 24 3 (1 : Int32)) (fun m2 => bnd (sI m2 24 8 (gI m2 1 13)) (fun m3 => bnd (sI m3 24 9 (gI m3 1 14)) (fun m4 => bnd (sI m4 24 10 (gI m4 1 15)) (fun m5 => wh (f_X4_hold_L70) ((0 : Int32), m5))))))))
theorem k_X4_hold_E {g : Gx}   {Q : Qy} {m : Mem} {t : Int32 × Mem} (h : f_X4_hold m = some t) (hP : pI Q t) : WpM g 7 mi_X4_hold 0 [some (.ref 24), none] [] m (zM g mi_X4_hold Q) := by
  refine wp_aload_n dX4_hold_0 rfl rfl ?_
  refine wm_getR dX4_hold_1 s_24 fk_X4_33 rfl r_24_0 rfl ?_
  refine wp_aload_n dX4_hold_4 rfl rfl ?_
  refine wm_getR dX4_hold_5 s_24 fk_X4_18 rfl r_24_6 rfl ?_
  refine wp_aload_n dX4_hold_8 rfl rfl ?_
  refine wm_getR dX4_hold_9 s_24 fk_X4_24 rfl r_24_4 rfl ?_
  refine wm_getR dX4_hold_12 s_1 fk_X4_50 rfl r_1_9 rfl ?_
  refine wp_iconst (0 : Int32) dX4_hold_15 ic_0 rfl ?_
  refine wm_iald dX4_hold_16 s_11 rfl h (fun h => ?_)
  refine wp_aload_n dX4_hold_17 rfl rfl ?_
  refine wm_getR dX4_hold_18 s_24 fk_X4_24 rfl r_24_4 rfl ?_
  refine wm_getR dX4_hold_21 s_1 fk_X4_50 rfl r_1_9 rfl ?_
  refine wp_iconst (2 : Int32) dX4_hold_24 ic_2 rfl ?_
  refine wm_iald dX4_hold_25 s_11 rfl h (fun h => ?_)
  refine wp_iconst (-1 : Int32) dX4_hold_26 ic_m1 rfl ?_
  refine wm_callVN (As := [.ref 27, .int (gI m 11 (ix (0 : Int32))), .int (gI m 11 (ix (2 : Int32))), .int (-1 : Int32)]) (rest := []) dX4_hold_27 ok_X4_53 (by decide) rfl (sM_0 (by unfold MA; omega)) ⟨_, rfl⟩ (Nat.le_of_ble_eq_true rfl) ⟨rfl, rfl⟩ rfl (fun t h => o_X3_hold (by unfold MA; omega) s_27 h) h (fun q1 h => ?_)
  refine wp_aload_n dX4_hold_30 rfl rfl ?_
  refine wp_iconst (1 : Int32) dX4_hold_31 ic_1 rfl ?_
  refine wm_putZ dX4_hold_32 s_24 fk_X4_57 rfl ⟨rfl, rfl⟩ rfl h (fun m2 h => ?_)
  refine wp_aload_n dX4_hold_35 rfl rfl ?_
  refine wp_aload_n dX4_hold_36 rfl rfl ?_
  refine wm_getR dX4_hold_37 s_24 fk_X4_24 rfl r_24_4 rfl ?_
  refine wm_getI dX4_hold_40 s_1 fk_X4_61 rfl rfl ?_
  refine wm_putI dX4_hold_43 s_24 fk_X4_64 rfl rfl h (fun m3 h => ?_)
  refine wp_aload_n dX4_hold_46 rfl rfl ?_
  refine wp_aload_n dX4_hold_47 rfl rfl ?_
  refine wm_getR dX4_hold_48 s_24 fk_X4_24 rfl r_24_4 rfl ?_
  refine wm_getI dX4_hold_51 s_1 fk_X4_44 rfl rfl ?_
  refine wm_putI dX4_hold_54 s_24 fk_X4_65 rfl rfl h (fun m4 h => ?_)
  refine wp_aload_n dX4_hold_57 rfl rfl ?_
  refine wp_aload_n dX4_hold_58 rfl rfl ?_
  refine wm_getR dX4_hold_59 s_24 fk_X4_24 rfl r_24_4 rfl ?_
  refine wm_getI dX4_hold_62 s_1 fk_X4_66 rfl rfl ?_
  refine wm_putI dX4_hold_65 s_24 fk_X4_69 rfl rfl h (fun m5 h => ?_)
  refine wp_iconst (0 : Int32) dX4_hold_68 ic_0 rfl ?_
  refine wp_istore_n (L' := [some (.ref 24), some (.int (0 : Int32))]) dX4_hold_69 (by decide) rfl rfl rfl ?_
  have hB := wh_ok (A := A_X4_hold_70 g Q) (B := pI Q) (fun s t h hP => k_X4_hold_L70  h hP) h hP
  exact wm_mask (L' := [some (.ref 24), some (.int (0 : Int32))]) [true, true] rfl (hB)
theorem o_X4_hold {g : Gx}   {m : Mem} {t : Int32 × Mem} (h : f_X4_hold m = some t) : MxM g 7 mi_X4_hold [.ref 24] m (qI t) := mx_of pn_X4 (Nat.le_of_ble_eq_true rfl) (k_X4_hold_E h ⟨rfl, rfl, rfl, rfl, rfl⟩)
noncomputable def f_X4_ofPerson  (p1 : Int32) (p2 : Int32) (m : Mem) : Option (Int32 × Mem) := sw p2 [((0 : Int32), if ¬ (gI m 29 8) = 0 then ck p1 10 (dv (gI m 29 8) (some ((((1000 : Int32) * (gI m (29 + 7) (ix p1))) / (gI m 29 8)), m))) else some ((0 : Int32), m)), ((1 : Int32), ck p1 10 (some ((gI m (29 + 5) (ix p1)), m))), ((2 : Int32), ck p1 10 (some ((gI m (29 + 6) (ix p1)), m)))] (ck p1 10 (some ((gI m 28 (ix p1)), m)))
theorem k_X4_ofPerson_E {g : Gx}  {p1 : Int32} {p2 : Int32} {Q : Qy} {m : Mem} {t : Int32 × Mem} (h : f_X4_ofPerson p1 p2 m = some t) (hP : pI Q t) : WpM g 1 mi_X4_ofPerson 0 [some (.ref 24), some (.int p1), some (.int p2)] [] m (zM g mi_X4_ofPerson Q) := by
  refine wp_iload_n dX4_ofPerson_0 rfl rfl ?_
  refine wm_tsw [((0 : Int32), 28), ((1 : Int32), 64), ((2 : Int32), 74)] 84 dX4_ofPerson_1 rfl (by decide) (by decide +kernel) (by decide +kernel) (by decide +kernel) h rfl ⟨fun h => ?_, fun h => ?_, fun h => ?_, trivial⟩ (fun h => ?_)
  · refine wp_aload_n dX4_ofPerson_28 rfl rfl ?_
    refine wm_getR dX4_ofPerson_29 s_24 fk_X4_33 rfl r_24_0 rfl ?_
    refine wm_getI dX4_ofPerson_32 (sM_0 (by unfold MA; omega)) fk_X4_88 rfl rfl ?_
    refine wm_if_ne 42 dX4_ofPerson_35 rfl rfl h (fun h => ?_) (fun h => ?_)
    · refine wp_sipush (1000 : Int32) dX4_ofPerson_42 is_1000 rfl ?_
      refine wp_aload_n dX4_ofPerson_45 rfl rfl ?_
      refine wm_getR dX4_ofPerson_46 s_24 fk_X4_33 rfl r_24_0 rfl ?_
      refine wm_getR dX4_ofPerson_49 (sM_0 (by unfold MA; omega)) fk_X4_131 rfl (rM_6 (by unfold MA; omega)) rfl ?_
      refine wp_iload_n dX4_ofPerson_52 rfl rfl ?_
      refine wm_iald dX4_ofPerson_53 (sM_7 (by unfold MA; omega)) rfl h (fun h => ?_)
      refine wp_imul dX4_ofPerson_54 rfl ?_
      refine wp_aload_n dX4_ofPerson_55 rfl rfl ?_
      refine wm_getR dX4_ofPerson_56 s_24 fk_X4_33 rfl r_24_0 rfl ?_
      refine wm_getI dX4_ofPerson_59 (sM_0 (by unfold MA; omega)) fk_X4_88 rfl rfl ?_
      refine wm_idiv dX4_ofPerson_62 rfl h (fun h => ?_)
      exact wm_iret dX4_ofPerson_63 rfl ⟨rfl, rfl⟩ h hP
    · refine wp_iconst (0 : Int32) dX4_ofPerson_38 ic_0 rfl ?_
      refine wp_goto 63 dX4_ofPerson_39 rfl ?_
      exact wm_iret dX4_ofPerson_63 rfl ⟨rfl, rfl⟩ h hP
  · refine wp_aload_n dX4_ofPerson_64 rfl rfl ?_
    refine wm_getR dX4_ofPerson_65 s_24 fk_X4_33 rfl r_24_0 rfl ?_
    refine wm_getR dX4_ofPerson_68 (sM_0 (by unfold MA; omega)) fk_X4_134 rfl (rM_4 (by unfold MA; omega)) rfl ?_
    refine wp_iload_n dX4_ofPerson_71 rfl rfl ?_
    refine wm_iald dX4_ofPerson_72 (sM_5 (by unfold MA; omega)) rfl h (fun h => ?_)
    exact wm_iret dX4_ofPerson_73 rfl ⟨rfl, rfl⟩ h hP
  · refine wp_aload_n dX4_ofPerson_74 rfl rfl ?_
    refine wm_getR dX4_ofPerson_75 s_24 fk_X4_33 rfl r_24_0 rfl ?_
    refine wm_getR dX4_ofPerson_78 (sM_0 (by unfold MA; omega)) fk_X4_137 rfl (rM_5 (by unfold MA; omega)) rfl ?_
    refine wp_iload_n dX4_ofPerson_81 rfl rfl ?_
    refine wm_iald dX4_ofPerson_82 (sM_6 (by unfold MA; omega)) rfl h (fun h => ?_)
    exact wm_iret dX4_ofPerson_83 rfl ⟨rfl, rfl⟩ h hP
  · refine wp_aload_n dX4_ofPerson_84 rfl rfl ?_
    refine wm_getR dX4_ofPerson_85 s_24 fk_X4_21 rfl r_24_7 rfl ?_
    refine wp_iload_n dX4_ofPerson_88 rfl rfl ?_
    refine wm_iald dX4_ofPerson_89 s_28 rfl h (fun h => ?_)
    exact wm_iret dX4_ofPerson_90 rfl ⟨rfl, rfl⟩ h hP
theorem o_X4_ofPerson {g : Gx}  {p1 : Int32} {p2 : Int32} {m : Mem} {t : Int32 × Mem} (h : f_X4_ofPerson p1 p2 m = some t) : MxM g 1 mi_X4_ofPerson [.ref 24, .int p1, .int p2] m (qI t) := mx_of pn_X4 (Nat.le_of_ble_eq_true rfl) (k_X4_ofPerson_E h ⟨rfl, rfl, rfl, rfl, rfl⟩)
abbrev A_X8_asTheyCame_2 (g : Gx) (ag : Nat) (Q : Qy) (s : Int32 × Mem) : Prop := WpM g 1 mi_X8_asTheyCame 2 [some (.ref ag), some (.int s.1)] [] s.2 (zM g mi_X8_asTheyCame Q)
abbrev P_X8_asTheyCame_2 (g : Gx) (ag : Nat) (Q : Qy) : ((Int32 × Mem) ⊕ Mem) → Prop := pS (A_X8_asTheyCame_2 g ag Q) (pV Q)
noncomputable def f_X8_asTheyCame_L2 (ag : Nat) (s : Int32 × Mem) : Option ((Int32 × Mem) ⊕ Mem) := if (nI 6) ≤ s.1 then up (some s.2) else ck s.1 6 (bnd (sI s.2 ag (ix s.1) s.1) (fun m1 => bnd (s.1 + (1 : Int32)) (fun y2 => some (Sum.inl (y2, m1)))))
theorem k_X8_asTheyCame_L2 {g : Gx} {ag : Nat} (hag : shF[ag]? = some (0, 6)) {Q : Qy} {s : Int32 × Mem} {t : (Int32 × Mem) ⊕ Mem} (h : f_X8_asTheyCame_L2 ag s = some t) (hP : P_X8_asTheyCame_2 g ag Q t) : A_X8_asTheyCame_2 g ag Q s := by
  refine wp_iload_n dX8_asTheyCame_2 rfl rfl ?_
  refine wp_aload_n dX8_asTheyCame_3 rfl rfl ?_
  refine wp_alen (nI 6) dX8_asTheyCame_4 hag (by decide) rfl rfl ?_
  refine wm_icmp_ge 18 dX8_asTheyCame_5 rfl rfl h (fun h => ?_) (fun h => ?_)
  · refine wm_up h hP (fun r h hP => ?_)
    exact wm_vret dX8_asTheyCame_18 rfl ⟨rfl, rfl⟩ h hP
  · refine wp_aload_n dX8_asTheyCame_8 rfl rfl ?_
    refine wp_iload_n dX8_asTheyCame_9 rfl rfl ?_
    refine wp_iload_n dX8_asTheyCame_10 rfl rfl ?_
    refine wm_iast dX8_asTheyCame_11 hag rfl h (fun m1 h => ?_)
    refine wm_inc dX8_asTheyCame_12 rfl ii_1 (by decide) rfl rfl h (fun y2 h => ?_)
    refine wm_list (L' := [some (.ref ag), some (.int y2)]) rfl ?_
    refine wp_goto 2 dX8_asTheyCame_15 rfl ?_
    have hB := wm_back h hP
    exact wm_mask (L' := [some (.ref ag), some (.int y2)]) [true, true] rfl (hB)
noncomputable def f_X8_asTheyCame (ag : Nat)  (m : Mem) : Option Mem := wh (f_X8_asTheyCame_L2 ag) ((0 : Int32), m)
theorem k_X8_asTheyCame_E {g : Gx} {ag : Nat} (hag : shF[ag]? = some (0, 6))  {Q : Qy} {m : Mem} {t : Mem} (h : f_X8_asTheyCame ag m = some t) (hP : pV Q t) : WpM g 1 mi_X8_asTheyCame 0 [some (.ref ag), none] [] m (zM g mi_X8_asTheyCame Q) := by
  refine wp_iconst (0 : Int32) dX8_asTheyCame_0 ic_0 rfl ?_
  refine wp_istore_n (L' := [some (.ref ag), some (.int (0 : Int32))]) dX8_asTheyCame_1 (by decide) rfl rfl rfl ?_
  have hB := wh_ok (A := A_X8_asTheyCame_2 g ag Q) (B := pV Q) (fun s t h hP => k_X8_asTheyCame_L2 hag h hP) h hP
  exact wm_mask (L' := [some (.ref ag), some (.int (0 : Int32))]) [true, true] rfl (hB)
theorem o_X8_asTheyCame {g : Gx} {ag : Nat} (hag : shF[ag]? = some (0, 6))  {m : Mem} {t : Mem} (h : f_X8_asTheyCame ag m = some t) : MxM g 1 mi_X8_asTheyCame [.ref ag] m (qV t) := mx_of pn_X8 (Nat.le_of_ble_eq_true rfl) (k_X8_asTheyCame_E hag h ⟨rfl, rfl, rfl, rfl, rfl⟩)
abbrev A_X4_takesOrder_28 (g : Gx)  (Q : Qy) (s : Int32 × Int32 × Int32 × Mem) : Prop := WpM g 2 mi_X4_takesOrder 28 [some (.ref 24), none, some (.int s.1), some (.int s.2.1), some (.int s.2.2.1), none] [] s.2.2.2 (zM g mi_X4_takesOrder Q)
abbrev P_X4_takesOrder_28 (g : Gx)  (Q : Qy) : ((Int32 × Int32 × Int32 × Mem) ⊕ (Int32 × Mem)) → Prop := pS (A_X4_takesOrder_28 g Q) (pI Q)
noncomputable def f_X4_takesOrder_L28  (s : Int32 × Int32 × Int32 × Mem) : Option ((Int32 × Int32 × Int32 × Mem) ⊕ (Int32 × Mem)) := if s.2.2.1 < 0 then up (if ¬ s.1 = 0 then bz (0 : Int32) (some ((0 : Int32), s.2.2.2)) else bz (1 : Int32) (some ((1 : Int32), s.2.2.2))) else bnd ((s.1 - s.1 / (10 : Int32) * (10 : Int32)) - (1 : Int32)) (fun y2 => if y2 < 0 then up (bz (0 : Int32) (some ((0 : Int32), s.2.2.2))) else if (gI s.2.2.2 1 14) ≤ y2 then up (bz (0 : Int32) (some ((0 : Int32), s.2.2.2))) else if (s.2.1 &&& ((1 : Int32) <<< (y2 &&& 31))) = 0 then bnd (s.2.1 ||| ((1 : Int32) <<< (y2 &&& 31))) (fun y3 => ck s.2.2.1 6 (bnd (sI s.2.2.2 27 (ix s.2.2.1) y2) (fun m4 => bnd (s.1 / (10 : Int32)) (fun y5 => bnd (s.2.2.1 + (-1 : Int32)) (fun y6 => some (Sum.inl (y5, y3, y6, m4))))))) else up (bz (0 : Int32) (some ((0 : Int32), s.2.2.2))))
theorem k_X4_takesOrder_L28 {g : Gx}  {Q : Qy} {s : Int32 × Int32 × Int32 × Mem} {t : (Int32 × Int32 × Int32 × Mem) ⊕ (Int32 × Mem)} (h : f_X4_takesOrder_L28 s = some t) (hP : P_X4_takesOrder_28 g Q t) : A_X4_takesOrder_28 g Q s := by
  refine wp_iload dX4_takesOrder_28 rfl rfl ?_
  refine wm_if_lt 96 dX4_takesOrder_30 rfl rfl h (fun h => ?_) (fun h => ?_)
  · refine wm_up h hP (fun r h hP => ?_)
    refine wp_iload_n dX4_takesOrder_96 rfl rfl ?_
    refine wm_if_ne 104 dX4_takesOrder_97 rfl rfl h (fun h => ?_) (fun h => ?_)
    · refine wp_iconst (0 : Int32) dX4_takesOrder_104 ic_0 rfl ?_
      exact wm_zret dX4_takesOrder_105 rfl ⟨rfl, rfl⟩ h hP
    · refine wp_iconst (1 : Int32) dX4_takesOrder_100 ic_1 rfl ?_
      refine wp_goto 105 dX4_takesOrder_101 rfl ?_
      exact wm_zret dX4_takesOrder_105 rfl ⟨rfl, rfl⟩ h hP
  · refine wp_iload_n dX4_takesOrder_33 rfl rfl ?_
    refine wp_bipush (10 : Int32) dX4_takesOrder_34 ib_10 rfl ?_
    refine wp_irem dX4_takesOrder_36 (by decide) rfl ?_
    refine wp_iconst (1 : Int32) dX4_takesOrder_37 ic_1 rfl ?_
    refine wp_isub dX4_takesOrder_38 rfl ?_
    refine wm_nm h (fun y2 h => ?_)
    refine wp_istore (L' := [some (.ref 24), none, some (.int s.1), some (.int s.2.1), some (.int s.2.2.1), some (.int y2)]) dX4_takesOrder_39 (by decide) rfl rfl rfl ?_
    refine wp_iload dX4_takesOrder_41 rfl rfl ?_
    refine wm_if_lt 67 dX4_takesOrder_43 rfl rfl h (fun h => ?_) (fun h => ?_)
    · refine wm_up h hP (fun r h hP => ?_)
      refine wp_iconst (0 : Int32) dX4_takesOrder_67 ic_0 rfl ?_
      exact wm_zret dX4_takesOrder_68 rfl ⟨rfl, rfl⟩ h hP
    · refine wp_iload dX4_takesOrder_46 rfl rfl ?_
      refine wp_aload_n dX4_takesOrder_48 rfl rfl ?_
      refine wm_getR dX4_takesOrder_49 s_24 fk_X4_24 rfl r_24_4 rfl ?_
      refine wm_getI dX4_takesOrder_52 s_1 fk_X4_44 rfl rfl ?_
      refine wm_icmp_ge 67 dX4_takesOrder_55 rfl rfl h (fun h => ?_) (fun h => ?_)
      · refine wm_up h hP (fun r h hP => ?_)
        refine wp_iconst (0 : Int32) dX4_takesOrder_67 ic_0 rfl ?_
        exact wm_zret dX4_takesOrder_68 rfl ⟨rfl, rfl⟩ h hP
      · refine wp_iload_n dX4_takesOrder_58 rfl rfl ?_
        refine wp_iconst (1 : Int32) dX4_takesOrder_59 ic_1 rfl ?_
        refine wp_iload dX4_takesOrder_60 rfl rfl ?_
        refine wp_ishl dX4_takesOrder_62 rfl ?_
        refine wp_iand dX4_takesOrder_63 rfl ?_
        refine wm_if_eq 69 dX4_takesOrder_64 rfl rfl h (fun h => ?_) (fun h => ?_)
        · refine wp_iload_n dX4_takesOrder_69 rfl rfl ?_
          refine wp_iconst (1 : Int32) dX4_takesOrder_70 ic_1 rfl ?_
          refine wp_iload dX4_takesOrder_71 rfl rfl ?_
          refine wp_ishl dX4_takesOrder_73 rfl ?_
          refine wp_ior dX4_takesOrder_74 rfl ?_
          refine wm_nm h (fun y3 h => ?_)
          refine wp_istore_n (L' := [some (.ref 24), none, some (.int s.1), some (.int y3), some (.int s.2.2.1), some (.int y2)]) dX4_takesOrder_75 (by decide) rfl rfl rfl ?_
          refine wp_aload_n dX4_takesOrder_76 rfl rfl ?_
          refine wm_getR dX4_takesOrder_77 s_24 fk_X4_18 rfl r_24_6 rfl ?_
          refine wp_iload dX4_takesOrder_80 rfl rfl ?_
          refine wp_iload dX4_takesOrder_82 rfl rfl ?_
          refine wm_iast dX4_takesOrder_84 s_27 rfl h (fun m4 h => ?_)
          refine wp_iload_n dX4_takesOrder_85 rfl rfl ?_
          refine wp_bipush (10 : Int32) dX4_takesOrder_86 ib_10 rfl ?_
          refine wp_idiv dX4_takesOrder_88 (by decide) rfl ?_
          refine wm_nm h (fun y5 h => ?_)
          refine wp_istore_n (L' := [some (.ref 24), none, some (.int y5), some (.int y3), some (.int s.2.2.1), some (.int y2)]) dX4_takesOrder_89 (by decide) rfl rfl rfl ?_
          refine wm_inc dX4_takesOrder_90 rfl ii_m1 (by decide) rfl rfl h (fun y6 h => ?_)
          refine wm_list (L' := [some (.ref 24), none, some (.int y5), some (.int y3), some (.int y6), some (.int y2)]) rfl ?_
          refine wp_goto 28 dX4_takesOrder_93 rfl ?_
          have hB := wm_back h hP
          exact wm_mask (L' := [some (.ref 24), none, some (.int y5), some (.int y3), some (.int y6), none]) [true, false, true, true, true, false] rfl (hB)
        · refine wm_up h hP (fun r h hP => ?_)
          refine wp_iconst (0 : Int32) dX4_takesOrder_67 ic_0 rfl ?_
          exact wm_zret dX4_takesOrder_68 rfl ⟨rfl, rfl⟩ h hP
noncomputable def f_X4_takesOrder  (p1 : Int32) (m : Mem) : Option (Int32 × Mem) := if ¬ p1 = 0 then bnd ((gI m 1 14) - (1 : Int32)) (fun y1 => wh (f_X4_takesOrder_L28) (p1, (0 : Int32), y1, m)) else (f_X8_asTheyCame 27 m).bind (fun q7 => bz (1 : Int32) (some ((1 : Int32), q7)))
theorem k_X4_takesOrder_E {g : Gx}  {p1 : Int32} {Q : Qy} {m : Mem} {t : Int32 × Mem} (h : f_X4_takesOrder p1 m = some t) (hP : pI Q t) : WpM g 2 mi_X4_takesOrder 0 [some (.ref 24), some (.int p1), none, none, none, none] [] m (zM g mi_X4_takesOrder Q) := by
  refine wp_iload_n dX4_takesOrder_0 rfl rfl ?_
  refine wm_if_ne 13 dX4_takesOrder_1 rfl rfl h (fun h => ?_) (fun h => ?_)
  · refine wp_iload_n dX4_takesOrder_13 rfl rfl ?_
    refine wp_istore_n (L' := [some (.ref 24), some (.int p1), some (.int p1), none, none, none]) dX4_takesOrder_14 (by decide) rfl rfl rfl ?_
    refine wp_iconst (0 : Int32) dX4_takesOrder_15 ic_0 rfl ?_
    refine wp_istore_n (L' := [some (.ref 24), some (.int p1), some (.int p1), some (.int (0 : Int32)), none, none]) dX4_takesOrder_16 (by decide) rfl rfl rfl ?_
    refine wp_aload_n dX4_takesOrder_17 rfl rfl ?_
    refine wm_getR dX4_takesOrder_18 s_24 fk_X4_24 rfl r_24_4 rfl ?_
    refine wm_getI dX4_takesOrder_21 s_1 fk_X4_44 rfl rfl ?_
    refine wp_iconst (1 : Int32) dX4_takesOrder_24 ic_1 rfl ?_
    refine wp_isub dX4_takesOrder_25 rfl ?_
    refine wm_nm h (fun y1 h => ?_)
    refine wp_istore (L' := [some (.ref 24), some (.int p1), some (.int p1), some (.int (0 : Int32)), some (.int y1), none]) dX4_takesOrder_26 (by decide) rfl rfl rfl ?_
    have hB := wh_ok (A := A_X4_takesOrder_28 g Q) (B := pI Q) (fun s t h hP => k_X4_takesOrder_L28  h hP) h hP
    exact wm_mask (L' := [some (.ref 24), none, some (.int p1), some (.int (0 : Int32)), some (.int y1), none]) [true, false, true, true, true, false] rfl (hB)
  · refine wp_aload_n dX4_takesOrder_4 rfl rfl ?_
    refine wm_getR dX4_takesOrder_5 s_24 fk_X4_18 rfl r_24_6 rfl ?_
    refine wm_callSNN (As := [.ref 27]) (rest := []) dX4_takesOrder_8 ok_X4_40 (by decide) rfl (Nat.le_of_ble_eq_true rfl) ⟨rfl, rfl⟩ rfl (fun t h => o_X8_asTheyCame s_27 h) h (fun q7 h => ?_)
    refine wp_iconst (1 : Int32) dX4_takesOrder_11 ic_1 rfl ?_
    exact wm_zret dX4_takesOrder_12 rfl ⟨rfl, rfl⟩ h hP
theorem o_X4_takesOrder {g : Gx}  {p1 : Int32} {m : Mem} {t : Int32 × Mem} (h : f_X4_takesOrder p1 m = some t) : MxM g 2 mi_X4_takesOrder [.ref 24, .int p1] m (qI t) := mx_of pn_X4 (Nat.le_of_ble_eq_true rfl) (k_X4_takesOrder_E h ⟨rfl, rfl, rfl, rfl, rfl⟩)
noncomputable def f_X5_hasRun (sf : Nat) (p1 : Int32) (p2 : Int32) (m : Mem) : Option (Int32 × Mem) := if p2 < 0 then bz (0 : Int32) (some ((0 : Int32), m)) else if (gI m sf 2) < p2 then bz (0 : Int32) (some ((0 : Int32), m)) else if p1 < 0 then bz (0 : Int32) (some ((0 : Int32), m)) else if ((gI m sf 2) - p2) < p1 then bz (0 : Int32) (some ((0 : Int32), m)) else bz (1 : Int32) (some ((1 : Int32), m))
theorem k_X5_hasRun_E {g : Gx} {sf : Nat} (hsf : SA sf) {p1 : Int32} {p2 : Int32} {Q : Qy} {m : Mem} {t : Int32 × Mem} (h : f_X5_hasRun sf p1 p2 m = some t) (hP : pI Q t) : WpM g 1 mi_X5_hasRun 0 [some (.ref sf), some (.int p1), some (.int p2)] [] m (zM g mi_X5_hasRun Q) := by
  refine wp_iload_n dX5_hasRun_0 rfl rfl ?_
  refine wm_if_lt 30 dX5_hasRun_1 rfl rfl h (fun h => ?_) (fun h => ?_)
  · refine wp_iconst (0 : Int32) dX5_hasRun_30 ic_0 rfl ?_
    exact wm_zret dX5_hasRun_31 rfl ⟨rfl, rfl⟩ h hP
  · refine wp_iload_n dX5_hasRun_4 rfl rfl ?_
    refine wp_aload_n dX5_hasRun_5 rfl rfl ?_
    refine wm_getI dX5_hasRun_6 (sS_0 hsf) fk_X5_22 rfl rfl ?_
    refine wm_icmp_gt 30 dX5_hasRun_9 rfl rfl h (fun h => ?_) (fun h => ?_)
    · refine wp_iconst (0 : Int32) dX5_hasRun_30 ic_0 rfl ?_
      exact wm_zret dX5_hasRun_31 rfl ⟨rfl, rfl⟩ h hP
    · refine wp_iload_n dX5_hasRun_12 rfl rfl ?_
      refine wm_if_lt 30 dX5_hasRun_13 rfl rfl h (fun h => ?_) (fun h => ?_)
      · refine wp_iconst (0 : Int32) dX5_hasRun_30 ic_0 rfl ?_
        exact wm_zret dX5_hasRun_31 rfl ⟨rfl, rfl⟩ h hP
      · refine wp_iload_n dX5_hasRun_16 rfl rfl ?_
        refine wp_aload_n dX5_hasRun_17 rfl rfl ?_
        refine wm_getI dX5_hasRun_18 (sS_0 hsf) fk_X5_22 rfl rfl ?_
        refine wp_iload_n dX5_hasRun_21 rfl rfl ?_
        refine wp_isub dX5_hasRun_22 rfl ?_
        refine wm_icmp_gt 30 dX5_hasRun_23 rfl rfl h (fun h => ?_) (fun h => ?_)
        · refine wp_iconst (0 : Int32) dX5_hasRun_30 ic_0 rfl ?_
          exact wm_zret dX5_hasRun_31 rfl ⟨rfl, rfl⟩ h hP
        · refine wp_iconst (1 : Int32) dX5_hasRun_26 ic_1 rfl ?_
          refine wp_goto 31 dX5_hasRun_27 rfl ?_
          exact wm_zret dX5_hasRun_31 rfl ⟨rfl, rfl⟩ h hP
theorem o_X5_hasRun {g : Gx} {sf : Nat} (hsf : SA sf) {p1 : Int32} {p2 : Int32} {m : Mem} {t : Int32 × Mem} (h : f_X5_hasRun sf p1 p2 m = some t) : MxM g 1 mi_X5_hasRun [.ref sf, .int p1, .int p2] m (qI t) := mx_of pn_X5 (Nat.le_of_ble_eq_true rfl) (k_X5_hasRun_E hsf h ⟨rfl, rfl, rfl, rfl, rfl⟩)
noncomputable def f_X5_holdBody (sf : Nat) (p1 : Int32) (m : Mem) : Option Mem := if 0 ≤ p1 then bnd (sI m sf 0 (-1 : Int32)) (fun m1 => bnd (sI m1 sf 1 p1) (fun m2 => bnd (sI m2 sf 2 (0 : Int32)) (fun m3 => some m3))) else bnd (sI m sf 0 (-2 : Int32)) (fun m4 => bnd (sI m4 sf 1 p1) (fun m5 => bnd (sI m5 sf 2 (0 : Int32)) (fun m6 => some m6)))
theorem k_X5_holdBody_E {g : Gx} {sf : Nat} (hsf : SA sf) {p1 : Int32} {Q : Qy} {m : Mem} {t : Mem} (h : f_X5_holdBody sf p1 m = some t) (hP : pV Q t) : WpM g 1 mi_X5_holdBody 0 [some (.ref sf), some (.int p1)] [] m (zM g mi_X5_holdBody Q) := by
  refine wp_aload_n dX5_holdBody_0 rfl rfl ?_
  refine wp_iload_n dX5_holdBody_1 rfl rfl ?_
  refine wm_if_ge 10 dX5_holdBody_2 rfl rfl h (fun h => ?_) (fun h => ?_)
  · refine wp_iconst (-1 : Int32) dX5_holdBody_10 ic_m1 rfl ?_
    refine wm_putI dX5_holdBody_11 (sS_0 hsf) fk_X5_9 rfl rfl h (fun m1 h => ?_)
    refine wp_aload_n dX5_holdBody_14 rfl rfl ?_
    refine wp_iload_n dX5_holdBody_15 rfl rfl ?_
    refine wm_putI dX5_holdBody_16 (sS_0 hsf) fk_X5_15 rfl rfl h (fun m2 h => ?_)
    refine wp_aload_n dX5_holdBody_19 rfl rfl ?_
    refine wp_iconst (0 : Int32) dX5_holdBody_20 ic_0 rfl ?_
    refine wm_putI dX5_holdBody_21 (sS_0 hsf) fk_X5_22 rfl rfl h (fun m3 h => ?_)
    exact wm_vret dX5_holdBody_24 rfl ⟨rfl, rfl⟩ h hP
  · refine wp_bipush (-2 : Int32) dX5_holdBody_5 ib_m2 rfl ?_
    refine wp_goto 11 dX5_holdBody_7 rfl ?_
    refine wm_putI dX5_holdBody_11 (sS_0 hsf) fk_X5_9 rfl rfl h (fun m4 h => ?_)
    refine wp_aload_n dX5_holdBody_14 rfl rfl ?_
    refine wp_iload_n dX5_holdBody_15 rfl rfl ?_
    refine wm_putI dX5_holdBody_16 (sS_0 hsf) fk_X5_15 rfl rfl h (fun m5 h => ?_)
    refine wp_aload_n dX5_holdBody_19 rfl rfl ?_
    refine wp_iconst (0 : Int32) dX5_holdBody_20 ic_0 rfl ?_
    refine wm_putI dX5_holdBody_21 (sS_0 hsf) fk_X5_22 rfl rfl h (fun m6 h => ?_)
    exact wm_vret dX5_holdBody_24 rfl ⟨rfl, rfl⟩ h hP
theorem o_X5_holdBody {g : Gx} {sf : Nat} (hsf : SA sf) {p1 : Int32} {m : Mem} {t : Mem} (h : f_X5_holdBody sf p1 m = some t) : MxM g 1 mi_X5_holdBody [.ref sf, .int p1] m (qV t) := mx_of pn_X5 (Nat.le_of_ble_eq_true rfl) (k_X5_holdBody_E hsf h ⟨rfl, rfl, rfl, rfl, rfl⟩)
noncomputable def f_X5_holdRow (sf : Nat) (p1 : Int32) (p2 : Int32) (m : Mem) : Option Mem := bnd (sI m sf 0 p1) (fun m1 => bnd (sI m1 sf 1 (-1 : Int32)) (fun m2 => bnd (sI m2 sf 2 p2) (fun m3 => (f_J7_fill_d0a16 (sf + 1) 60 (0 : Int64) m3).bind (fun q4 => some q4))))
theorem k_X5_holdRow_E {g : Gx} {sf : Nat} (hsf : SA sf) {p1 : Int32} {p2 : Int32} {Q : Qy} {m : Mem} {t : Mem} (h : f_X5_holdRow sf p1 p2 m = some t) (hP : pV Q t) : WpM g 2 mi_X5_holdRow 0 [some (.ref sf), some (.int p1), some (.int p2)] [] m (zM g mi_X5_holdRow Q) := by
  refine wp_aload_n dX5_holdRow_0 rfl rfl ?_
  refine wp_iload_n dX5_holdRow_1 rfl rfl ?_
  refine wm_putI dX5_holdRow_2 (sS_0 hsf) fk_X5_9 rfl rfl h (fun m1 h => ?_)
  refine wp_aload_n dX5_holdRow_5 rfl rfl ?_
  refine wp_iconst (-1 : Int32) dX5_holdRow_6 ic_m1 rfl ?_
  refine wm_putI dX5_holdRow_7 (sS_0 hsf) fk_X5_15 rfl rfl h (fun m2 h => ?_)
  refine wp_aload_n dX5_holdRow_10 rfl rfl ?_
  refine wp_iload_n dX5_holdRow_11 rfl rfl ?_
  refine wm_putI dX5_holdRow_12 (sS_0 hsf) fk_X5_22 rfl rfl h (fun m3 h => ?_)
  refine wp_aload_n dX5_holdRow_15 rfl rfl ?_
  refine wm_getR dX5_holdRow_16 (sS_0 hsf) fk_X5_18 rfl (rS_3 hsf) rfl ?_
  refine wp_lconst (0 : Int64) dX5_holdRow_19 rfl rfl ?_
  refine wm_callSN (As := [.ref (sf + 1), .long (0 : Int64)]) (rest := []) dX5_holdRow_20 ok_X5_25 (by decide) rfl (Nat.le_of_ble_eq_true rfl) ⟨rfl, rfl⟩ rfl (fun t h => o_J7_fill_d0a16 (sS_1 hsf) h) h (fun q4 h => ?_)
  exact wm_vret dX5_holdRow_23 rfl ⟨rfl, rfl⟩ h hP
theorem o_X5_holdRow {g : Gx} {sf : Nat} (hsf : SA sf) {p1 : Int32} {p2 : Int32} {m : Mem} {t : Mem} (h : f_X5_holdRow sf p1 p2 m = some t) : MxM g 2 mi_X5_holdRow [.ref sf, .int p1, .int p2] m (qV t) := mx_of pn_X5 (Nat.le_of_ble_eq_true rfl) (k_X5_holdRow_E hsf h ⟨rfl, rfl, rfl, rfl, rfl⟩)
noncomputable def f_X5_refusalAt (sf : Nat) (p1 : Int32) (m : Mem) : Option (Int32 × Mem) := if ¬ (gI m sf 0) = (-2 : Int32) then if ¬ (gI m sf 0) = (-1 : Int32) then if p1 < 0 then some ((-13 : Int32), m) else if p1 < (gI m sf 2) then some ((0 : Int32), m) else some ((-13 : Int32), m) else some ((-12 : Int32), m) else some ((-11 : Int32), m)
theorem k_X5_refusalAt_E {g : Gx} {sf : Nat} (hsf : SA sf) {p1 : Int32} {Q : Qy} {m : Mem} {t : Int32 × Mem} (h : f_X5_refusalAt sf p1 m = some t) (hP : pI Q t) : WpM g 1 mi_X5_refusalAt 0 [some (.ref sf), some (.int p1)] [] m (zM g mi_X5_refusalAt Q) := by
  refine wp_aload_n dX5_refusalAt_0 rfl rfl ?_
  refine wm_getI dX5_refusalAt_1 (sS_0 hsf) fk_X5_9 rfl rfl ?_
  refine wp_bipush (-2 : Int32) dX5_refusalAt_4 ib_m2 rfl ?_
  refine wm_icmp_ne 12 dX5_refusalAt_6 rfl rfl h (fun h => ?_) (fun h => ?_)
  · refine wp_aload_n dX5_refusalAt_12 rfl rfl ?_
    refine wm_getI dX5_refusalAt_13 (sS_0 hsf) fk_X5_9 rfl rfl ?_
    refine wp_iconst (-1 : Int32) dX5_refusalAt_16 ic_m1 rfl ?_
    refine wm_icmp_ne 23 dX5_refusalAt_17 rfl rfl h (fun h => ?_) (fun h => ?_)
    · refine wp_iload_n dX5_refusalAt_23 rfl rfl ?_
      refine wm_if_lt 35 dX5_refusalAt_24 rfl rfl h (fun h => ?_) (fun h => ?_)
      · refine wp_bipush (-13 : Int32) dX5_refusalAt_35 ib_m13 rfl ?_
        refine wp_goto 41 dX5_refusalAt_37 rfl ?_
        exact wm_iret dX5_refusalAt_41 rfl ⟨rfl, rfl⟩ h hP
      · refine wp_iload_n dX5_refusalAt_27 rfl rfl ?_
        refine wp_aload_n dX5_refusalAt_28 rfl rfl ?_
        refine wm_getI dX5_refusalAt_29 (sS_0 hsf) fk_X5_22 rfl rfl ?_
        refine wm_icmp_lt 40 dX5_refusalAt_32 rfl rfl h (fun h => ?_) (fun h => ?_)
        · refine wp_iconst (0 : Int32) dX5_refusalAt_40 ic_0 rfl ?_
          exact wm_iret dX5_refusalAt_41 rfl ⟨rfl, rfl⟩ h hP
        · refine wp_bipush (-13 : Int32) dX5_refusalAt_35 ib_m13 rfl ?_
          refine wp_goto 41 dX5_refusalAt_37 rfl ?_
          exact wm_iret dX5_refusalAt_41 rfl ⟨rfl, rfl⟩ h hP
    · refine wp_bipush (-12 : Int32) dX5_refusalAt_20 ib_m12 rfl ?_
      exact wm_iret dX5_refusalAt_22 rfl ⟨rfl, rfl⟩ h hP
  · refine wp_bipush (-11 : Int32) dX5_refusalAt_9 ib_m11 rfl ?_
    exact wm_iret dX5_refusalAt_11 rfl ⟨rfl, rfl⟩ h hP
theorem o_X5_refusalAt {g : Gx} {sf : Nat} (hsf : SA sf) {p1 : Int32} {m : Mem} {t : Int32 × Mem} (h : f_X5_refusalAt sf p1 m = some t) : MxM g 1 mi_X5_refusalAt [.ref sf, .int p1] m (qI t) := mx_of pn_X5 (Nat.le_of_ble_eq_true rfl) (k_X5_refusalAt_E hsf h ⟨rfl, rfl, rfl, rfl, rfl⟩)
noncomputable def f_X5_store (sf : Nat) (p1 : Int32) (p2 : Int64) (m : Mem) : Option Mem := sw (gI m sf 0) [((0 : Int32), ck p1 60 (bnd (sJ m (sf + 1) (ix p1) p2.toInt32.toInt8.toInt32.toInt64) (fun m1 => some m1))), ((1 : Int32), ck p1 60 (bnd (sJ m (sf + 1) (ix p1) p2.toInt32.toInt16.toInt32.toInt64) (fun m2 => some m2))), ((2 : Int32), ck p1 60 (bnd (sJ m (sf + 1) (ix p1) p2.toInt32.toInt64) (fun m3 => some m3))), ((3 : Int32), ck p1 60 (bnd (sJ m (sf + 1) (ix p1) p2) (fun m4 => some m4)))] (if (lg_cmp p2 (0 : Int64)) = 0 then ck p1 60 (bnd (sJ m (sf + 1) (ix p1) (0 : Int64)) (fun m5 => some m5)) else ck p1 60 (bnd (sJ m (sf + 1) (ix p1) (1 : Int64)) (fun m6 => some m6)))
theorem k_X5_store_E {g : Gx} {sf : Nat} (hsf : SA sf) {p1 : Int32} {p2 : Int64} {Q : Qy} {m : Mem} {t : Mem} (h : f_X5_store sf p1 p2 m = some t) (hP : pV Q t) : WpM g 1 mi_X5_store 0 [some (.ref sf), some (.int p1), some (.long p2), none] [] m (zM g mi_X5_store Q) := by
  refine wp_aload_n dX5_store_0 rfl rfl ?_
  refine wm_getI dX5_store_1 (sS_0 hsf) fk_X5_9 rfl rfl ?_
  refine wm_tsw [((0 : Int32), 36), ((1 : Int32), 49), ((2 : Int32), 62), ((3 : Int32), 74)] 84 dX5_store_4 rfl (by decide) (by decide +kernel) (by decide +kernel) (by decide +kernel) h rfl ⟨fun h => ?_, fun h => ?_, fun h => ?_, fun h => ?_, trivial⟩ (fun h => ?_)
  · refine wp_aload_n dX5_store_36 rfl rfl ?_
    refine wm_getR dX5_store_37 (sS_0 hsf) fk_X5_18 rfl (rS_3 hsf) rfl ?_
    refine wp_iload_n dX5_store_40 rfl rfl ?_
    refine wp_lload_n dX5_store_41 rfl rfl ?_
    refine wp_l2i dX5_store_42 rfl ?_
    refine wp_i2b dX5_store_43 rfl ?_
    refine wp_i2l dX5_store_44 rfl ?_
    refine wm_last dX5_store_45 (sS_1 hsf) rfl h (fun m1 h => ?_)
    refine wp_goto 101 dX5_store_46 rfl ?_
    exact wm_vret dX5_store_101 rfl ⟨rfl, rfl⟩ h hP
  · refine wp_aload_n dX5_store_49 rfl rfl ?_
    refine wm_getR dX5_store_50 (sS_0 hsf) fk_X5_18 rfl (rS_3 hsf) rfl ?_
    refine wp_iload_n dX5_store_53 rfl rfl ?_
    refine wp_lload_n dX5_store_54 rfl rfl ?_
    refine wp_l2i dX5_store_55 rfl ?_
    refine wp_i2s dX5_store_56 rfl ?_
    refine wp_i2l dX5_store_57 rfl ?_
    refine wm_last dX5_store_58 (sS_1 hsf) rfl h (fun m2 h => ?_)
    refine wp_goto 101 dX5_store_59 rfl ?_
    exact wm_vret dX5_store_101 rfl ⟨rfl, rfl⟩ h hP
  · refine wp_aload_n dX5_store_62 rfl rfl ?_
    refine wm_getR dX5_store_63 (sS_0 hsf) fk_X5_18 rfl (rS_3 hsf) rfl ?_
    refine wp_iload_n dX5_store_66 rfl rfl ?_
    refine wp_lload_n dX5_store_67 rfl rfl ?_
    refine wp_l2i dX5_store_68 rfl ?_
    refine wp_i2l dX5_store_69 rfl ?_
    refine wm_last dX5_store_70 (sS_1 hsf) rfl h (fun m3 h => ?_)
    refine wp_goto 101 dX5_store_71 rfl ?_
    exact wm_vret dX5_store_101 rfl ⟨rfl, rfl⟩ h hP
  · refine wp_aload_n dX5_store_74 rfl rfl ?_
    refine wm_getR dX5_store_75 (sS_0 hsf) fk_X5_18 rfl (rS_3 hsf) rfl ?_
    refine wp_iload_n dX5_store_78 rfl rfl ?_
    refine wp_lload_n dX5_store_79 rfl rfl ?_
    refine wm_last dX5_store_80 (sS_1 hsf) rfl h (fun m4 h => ?_)
    refine wp_goto 101 dX5_store_81 rfl ?_
    exact wm_vret dX5_store_101 rfl ⟨rfl, rfl⟩ h hP
  · refine wp_aload_n dX5_store_84 rfl rfl ?_
    refine wm_getR dX5_store_85 (sS_0 hsf) fk_X5_18 rfl (rS_3 hsf) rfl ?_
    refine wp_iload_n dX5_store_88 rfl rfl ?_
    refine wp_lload_n dX5_store_89 rfl rfl ?_
    refine wp_lconst (0 : Int64) dX5_store_90 rfl rfl ?_
    refine wp_lcmp dX5_store_91 rfl ?_
    refine wm_if_eq 99 dX5_store_92 rfl rfl h (fun h => ?_) (fun h => ?_)
    · refine wp_lconst (0 : Int64) dX5_store_99 rfl rfl ?_
      refine wm_last dX5_store_100 (sS_1 hsf) rfl h (fun m5 h => ?_)
      exact wm_vret dX5_store_101 rfl ⟨rfl, rfl⟩ h hP
    · refine wp_lconst (1 : Int64) dX5_store_95 rfl rfl ?_
      refine wp_goto 100 dX5_store_96 rfl ?_
      refine wm_last dX5_store_100 (sS_1 hsf) rfl h (fun m6 h => ?_)
      exact wm_vret dX5_store_101 rfl ⟨rfl, rfl⟩ h hP
theorem o_X5_store {g : Gx} {sf : Nat} (hsf : SA sf) {p1 : Int32} {p2 : Int64} {m : Mem} {t : Mem} (h : f_X5_store sf p1 p2 m = some t) : MxM g 1 mi_X5_store [.ref sf, .int p1, .long p2] m (qV t) := mx_of pn_X5 (Nat.le_of_ble_eq_true rfl) (k_X5_store_E hsf h ⟨rfl, rfl, rfl, rfl, rfl⟩)
abbrev A_X6_addCard_48 (g : Gx)  (Q : Qy) (s : Int32 × Int32 × Mem) : Prop := WpM g 1 mi_X6_addCard 48 [some (.ref 1), none, none, some (.int s.1), some (.int s.2.1)] [] s.2.2 (zM g mi_X6_addCard Q)
abbrev P_X6_addCard_48 (g : Gx)  (Q : Qy) : ((Int32 × Int32 × Mem) ⊕ (Int32 × Mem)) → Prop := pS (A_X6_addCard_48 g Q) (pI Q)
noncomputable def f_X6_addCard_L48  (s : Int32 × Int32 × Mem) : Option ((Int32 × Int32 × Mem) ⊕ (Int32 × Mem)) := if (10 : Int32) ≤ s.2.1 then up (bnd (sI s.2.2 1 16 ((gI s.2.2 1 16) + (1 : Int32))) (fun m5 => bnd (sI m5 1 15 ((gI m5 1 15) + (1 : Int32))) (fun m6 => some ((gI m5 1 15), m6)))) else ck s.2.1 10 (ck s.2.1 10 (bnd (sI s.2.2 12 (ix s.2.1) ((gI s.2.2 12 (ix s.2.1)) ||| (((s.1 >>> (s.2.1 &&& 31)) &&& (1 : Int32)) <<< ((gI s.2.2 1 15) &&& 31)))) (fun m7 => bnd (s.2.1 + (1 : Int32)) (fun y8 => some (Sum.inl (s.1, y8, m7))))))
theorem k_X6_addCard_L48 {g : Gx}  {Q : Qy} {s : Int32 × Int32 × Mem} {t : (Int32 × Int32 × Mem) ⊕ (Int32 × Mem)} (h : f_X6_addCard_L48 s = some t) (hP : P_X6_addCard_48 g Q t) : A_X6_addCard_48 g Q s := by
  refine wp_iload dX6_addCard_48 rfl rfl ?_
  refine wp_bipush (10 : Int32) dX6_addCard_50 ib_10 rfl ?_
  refine wm_icmp_ge 82 dX6_addCard_52 rfl rfl h (fun h => ?_) (fun h => ?_)
  · refine wm_up h hP (fun r h hP => ?_)
    refine wp_aload_n dX6_addCard_82 rfl rfl ?_
    refine wp_dup dX6_addCard_83 rfl rfl ?_
    refine wm_getI dX6_addCard_84 s_1 fk_X6_62 rfl rfl ?_
    refine wp_iconst (1 : Int32) dX6_addCard_87 ic_1 rfl ?_
    refine wp_iadd dX6_addCard_88 rfl ?_
    refine wm_putI dX6_addCard_89 s_1 fk_X6_62 rfl rfl h (fun m5 h => ?_)
    refine wp_aload_n dX6_addCard_92 rfl rfl ?_
    refine wp_dup dX6_addCard_93 rfl rfl ?_
    refine wm_getI dX6_addCard_94 s_1 fk_X6_65 rfl rfl ?_
    refine wp_dup_x1 dX6_addCard_97 rfl rfl rfl ?_
    refine wp_iconst (1 : Int32) dX6_addCard_98 ic_1 rfl ?_
    refine wp_iadd dX6_addCard_99 rfl ?_
    refine wm_putI dX6_addCard_100 s_1 fk_X6_65 rfl rfl h (fun m6 h => ?_)
    exact wm_iret dX6_addCard_103 rfl ⟨rfl, rfl⟩ h hP
  · refine wp_aload_n dX6_addCard_55 rfl rfl ?_
    refine wm_getR dX6_addCard_56 s_1 fk_X6_42 rfl r_1_10 rfl ?_
    refine wp_iload dX6_addCard_59 rfl rfl ?_
    refine wp_dup2 dX6_addCard_61 rfl rfl rfl ?_
    refine wm_iald dX6_addCard_62 s_12 rfl h (fun h => ?_)
    refine wp_iload_n dX6_addCard_63 rfl rfl ?_
    refine wp_iload dX6_addCard_64 rfl rfl ?_
    refine wp_ishr dX6_addCard_66 rfl ?_
    refine wp_iconst (1 : Int32) dX6_addCard_67 ic_1 rfl ?_
    refine wp_iand dX6_addCard_68 rfl ?_
    refine wp_aload_n dX6_addCard_69 rfl rfl ?_
    refine wm_getI dX6_addCard_70 s_1 fk_X6_65 rfl rfl ?_
    refine wp_ishl dX6_addCard_73 rfl ?_
    refine wp_ior dX6_addCard_74 rfl ?_
    refine wm_iast dX6_addCard_75 s_12 rfl h (fun m7 h => ?_)
    refine wm_inc dX6_addCard_76 rfl ii_1 (by decide) rfl rfl h (fun y8 h => ?_)
    refine wm_list (L' := [some (.ref 1), none, none, some (.int s.1), some (.int y8)]) rfl ?_
    refine wp_goto 48 dX6_addCard_79 rfl ?_
    have hB := wm_back h hP
    exact wm_mask (L' := [some (.ref 1), none, none, some (.int s.1), some (.int y8)]) [true, false, false, true, true] rfl (hB)
noncomputable def f_X6_addCard  (p1 : Int32) (p2 : Int32) (p3 : Int32) (m : Mem) : Option (Int32 × Mem) := ck (gI m 1 15) 20 (bnd (sI m 8 (ix (gI m 1 15)) p1) (fun m1 => ck (gI m1 1 15) 20 (bnd (sI m1 9 (ix (gI m1 1 15)) p2) (fun m2 => ck (gI m2 1 15) 20 (bnd (sI m2 10 (ix (gI m2 1 15)) p3) (fun m3 => ck p1 6 (ck p1 6 (bnd (sI m3 13 (ix p1) ((gI m3 13 (ix p1)) ||| ((1 : Int32) <<< ((gI m3 1 15) &&& 31)))) (fun m4 => wh (f_X6_addCard_L48) (p3, (0 : Int32), m4))))))))))
theorem k_X6_addCard_E {g : Gx}  {p1 : Int32} {p2 : Int32} {p3 : Int32} {Q : Qy} {m : Mem} {t : Int32 × Mem} (h : f_X6_addCard p1 p2 p3 m = some t) (hP : pI Q t) : WpM g 1 mi_X6_addCard 0 [some (.ref 1), some (.int p1), some (.int p2), some (.int p3), none] [] m (zM g mi_X6_addCard Q) := by
  refine wp_aload_n dX6_addCard_0 rfl rfl ?_
  refine wm_getR dX6_addCard_1 s_1 fk_X6_30 rfl r_1_6 rfl ?_
  refine wp_aload_n dX6_addCard_4 rfl rfl ?_
  refine wm_getI dX6_addCard_5 s_1 fk_X6_65 rfl rfl ?_
  refine wp_iload_n dX6_addCard_8 rfl rfl ?_
  refine wm_iast dX6_addCard_9 s_8 rfl h (fun m1 h => ?_)
  refine wp_aload_n dX6_addCard_10 rfl rfl ?_
  refine wm_getR dX6_addCard_11 s_1 fk_X6_33 rfl r_1_7 rfl ?_
  refine wp_aload_n dX6_addCard_14 rfl rfl ?_
  refine wm_getI dX6_addCard_15 s_1 fk_X6_65 rfl rfl ?_
  refine wp_iload_n dX6_addCard_18 rfl rfl ?_
  refine wm_iast dX6_addCard_19 s_9 rfl h (fun m2 h => ?_)
  refine wp_aload_n dX6_addCard_20 rfl rfl ?_
  refine wm_getR dX6_addCard_21 s_1 fk_X6_36 rfl r_1_8 rfl ?_
  refine wp_aload_n dX6_addCard_24 rfl rfl ?_
  refine wm_getI dX6_addCard_25 s_1 fk_X6_65 rfl rfl ?_
  refine wp_iload_n dX6_addCard_28 rfl rfl ?_
  refine wm_iast dX6_addCard_29 s_10 rfl h (fun m3 h => ?_)
  refine wp_aload_n dX6_addCard_30 rfl rfl ?_
  refine wm_getR dX6_addCard_31 s_1 fk_X6_45 rfl r_1_11 rfl ?_
  refine wp_iload_n dX6_addCard_34 rfl rfl ?_
  refine wp_dup2 dX6_addCard_35 rfl rfl rfl ?_
  refine wm_iald dX6_addCard_36 s_13 rfl h (fun h => ?_)
  refine wp_iconst (1 : Int32) dX6_addCard_37 ic_1 rfl ?_
  refine wp_aload_n dX6_addCard_38 rfl rfl ?_
  refine wm_getI dX6_addCard_39 s_1 fk_X6_65 rfl rfl ?_
  refine wp_ishl dX6_addCard_42 rfl ?_
  refine wp_ior dX6_addCard_43 rfl ?_
  refine wm_iast dX6_addCard_44 s_13 rfl h (fun m4 h => ?_)
  refine wp_iconst (0 : Int32) dX6_addCard_45 ic_0 rfl ?_
  refine wp_istore (L' := [some (.ref 1), some (.int p1), some (.int p2), some (.int p3), some (.int (0 : Int32))]) dX6_addCard_46 (by decide) rfl rfl rfl ?_
  have hB := wh_ok (A := A_X6_addCard_48 g Q) (B := pI Q) (fun s t h hP => k_X6_addCard_L48  h hP) h hP
  exact wm_mask (L' := [some (.ref 1), none, none, some (.int p3), some (.int (0 : Int32))]) [true, false, false, true, true] rfl (hB)
theorem o_X6_addCard {g : Gx}  {p1 : Int32} {p2 : Int32} {p3 : Int32} {m : Mem} {t : Int32 × Mem} (h : f_X6_addCard p1 p2 p3 m = some t) : MxM g 1 mi_X6_addCard [.ref 1, .int p1, .int p2, .int p3] m (qI t) := mx_of pn_X6 (Nat.le_of_ble_eq_true rfl) (k_X6_addCard_E h ⟨rfl, rfl, rfl, rfl, rfl⟩)
noncomputable def f_X6_isCard  (p1 : Int32) (p2 : Int32) (p3 : Int32) (m : Mem) : Option (Int32 × Mem) := if p1 < 0 then bz (0 : Int32) (some ((0 : Int32), m)) else if (gI m 1 14) ≤ p1 then bz (0 : Int32) (some ((0 : Int32), m)) else if p2 < (-9 : Int32) then bz (0 : Int32) (some ((0 : Int32), m)) else if (9 : Int32) < p2 then bz (0 : Int32) (some ((0 : Int32), m)) else if p3 < 0 then bz (0 : Int32) (some ((0 : Int32), m)) else if (1023 : Int32) < p3 then bz (0 : Int32) (some ((0 : Int32), m)) else bz (1 : Int32) (some ((1 : Int32), m))
theorem k_X6_isCard_E {g : Gx}  {p1 : Int32} {p2 : Int32} {p3 : Int32} {Q : Qy} {m : Mem} {t : Int32 × Mem} (h : f_X6_isCard p1 p2 p3 m = some t) (hP : pI Q t) : WpM g 1 mi_X6_isCard 0 [some (.ref 1), some (.int p1), some (.int p2), some (.int p3)] [] m (zM g mi_X6_isCard Q) := by
  refine wp_iload_n dX6_isCard_0 rfl rfl ?_
  refine wm_if_lt 39 dX6_isCard_1 rfl rfl h (fun h => ?_) (fun h => ?_)
  · refine wp_iconst (0 : Int32) dX6_isCard_39 ic_0 rfl ?_
    exact wm_zret dX6_isCard_40 rfl ⟨rfl, rfl⟩ h hP
  · refine wp_iload_n dX6_isCard_4 rfl rfl ?_
    refine wp_aload_n dX6_isCard_5 rfl rfl ?_
    refine wm_getI dX6_isCard_6 s_1 fk_X6_59 rfl rfl ?_
    refine wm_icmp_ge 39 dX6_isCard_9 rfl rfl h (fun h => ?_) (fun h => ?_)
    · refine wp_iconst (0 : Int32) dX6_isCard_39 ic_0 rfl ?_
      exact wm_zret dX6_isCard_40 rfl ⟨rfl, rfl⟩ h hP
    · refine wp_iload_n dX6_isCard_12 rfl rfl ?_
      refine wp_bipush (-9 : Int32) dX6_isCard_13 ib_m9 rfl ?_
      refine wm_icmp_lt 39 dX6_isCard_15 rfl rfl h (fun h => ?_) (fun h => ?_)
      · refine wp_iconst (0 : Int32) dX6_isCard_39 ic_0 rfl ?_
        exact wm_zret dX6_isCard_40 rfl ⟨rfl, rfl⟩ h hP
      · refine wp_iload_n dX6_isCard_18 rfl rfl ?_
        refine wp_bipush (9 : Int32) dX6_isCard_19 ib_9 rfl ?_
        refine wm_icmp_gt 39 dX6_isCard_21 rfl rfl h (fun h => ?_) (fun h => ?_)
        · refine wp_iconst (0 : Int32) dX6_isCard_39 ic_0 rfl ?_
          exact wm_zret dX6_isCard_40 rfl ⟨rfl, rfl⟩ h hP
        · refine wp_iload_n dX6_isCard_24 rfl rfl ?_
          refine wm_if_lt 39 dX6_isCard_25 rfl rfl h (fun h => ?_) (fun h => ?_)
          · refine wp_iconst (0 : Int32) dX6_isCard_39 ic_0 rfl ?_
            exact wm_zret dX6_isCard_40 rfl ⟨rfl, rfl⟩ h hP
          · refine wp_iload_n dX6_isCard_28 rfl rfl ?_
            refine wp_sipush (1023 : Int32) dX6_isCard_29 is_1023 rfl ?_
            refine wm_icmp_gt 39 dX6_isCard_32 rfl rfl h (fun h => ?_) (fun h => ?_)
            · refine wp_iconst (0 : Int32) dX6_isCard_39 ic_0 rfl ?_
              exact wm_zret dX6_isCard_40 rfl ⟨rfl, rfl⟩ h hP
            · refine wp_iconst (1 : Int32) dX6_isCard_35 ic_1 rfl ?_
              refine wp_goto 40 dX6_isCard_36 rfl ?_
              exact wm_zret dX6_isCard_40 rfl ⟨rfl, rfl⟩ h hP
theorem o_X6_isCard {g : Gx}  {p1 : Int32} {p2 : Int32} {p3 : Int32} {m : Mem} {t : Int32 × Mem} (h : f_X6_isCard p1 p2 p3 m = some t) : MxM g 1 mi_X6_isCard [.ref 1, .int p1, .int p2, .int p3] m (qI t) := mx_of pn_X6 (Nat.le_of_ble_eq_true rfl) (k_X6_isCard_E h ⟨rfl, rfl, rfl, rfl, rfl⟩)
abbrev A_X6_addCards_3 (g : Gx) (sf : Nat) (Q : Qy) (s : Int32 × Int32 × Int32 × Mem) : Prop := WpM g 2 mi_X6_addCards 3 [some (.ref 1), some (.ref sf), some (.int s.1), some (.int s.2.1), some (.int s.2.2.1), none, none, none, none] [] s.2.2.2 (zM g mi_X6_addCards Q)
abbrev P_X6_addCards_3 (g : Gx) (sf : Nat) (Q : Qy) : ((Int32 × Int32 × Int32 × Mem) ⊕ (Int32 × Mem)) → Prop := pS (A_X6_addCards_3 g sf Q) (pI Q)
noncomputable def f_X6_addCards_L3 (sf : Nat) (s : Int32 × Int32 × Int32 × Mem) : Option ((Int32 × Int32 × Int32 × Mem) ⊕ (Int32 × Mem)) := if s.2.1 ≤ s.2.2.1 then up (some (s.2.2.1, s.2.2.2)) else if (20 : Int32) ≤ (gI s.2.2.2 1 15) then up (some (s.2.2.1, s.2.2.2)) else (f_X5_hasRun sf s.1 (((3 : Int32) * s.2.2.1) + (3 : Int32)) s.2.2.2).bind (fun q1 => if q1.1 = 0 then up (some (s.2.2.1, q1.2)) else bnd (s.1 + ((3 : Int32) * s.2.2.1)) (fun y2 => ck y2 60 (bnd (gJ q1.2 (sf + 1) (ix y2)).toInt32 (fun y3 => ck (y2 + (1 : Int32)) 60 (bnd (gJ q1.2 (sf + 1) (ix (y2 + (1 : Int32)))).toInt32 (fun y4 => ck (y2 + (2 : Int32)) 60 (bnd (gJ q1.2 (sf + 1) (ix (y2 + (2 : Int32)))).toInt32 (fun y5 => (f_X6_isCard y3 y4 y5 q1.2).bind (fun q6 => if ¬ q6.1 = 0 then (f_X6_addCard y3 y4 y5 q6.2).bind (fun q7 => bnd (s.2.2.1 + (1 : Int32)) (fun y8 => some (Sum.inl (s.1, s.2.1, y8, q7.2)))) else up (some (s.2.2.1, q6.2)))))))))))
theorem k_X6_addCards_L3 {g : Gx} {sf : Nat} (hsf : SA sf) {Q : Qy} {s : Int32 × Int32 × Int32 × Mem} {t : (Int32 × Int32 × Int32 × Mem) ⊕ (Int32 × Mem)} (h : f_X6_addCards_L3 sf s = some t) (hP : P_X6_addCards_3 g sf Q t) : A_X6_addCards_3 g sf Q s := by
  refine wp_iload dX6_addCards_3 rfl rfl ?_
  refine wp_iload_n dX6_addCards_5 rfl rfl ?_
  refine wm_icmp_ge 107 dX6_addCards_6 rfl rfl h (fun h => ?_) (fun h => ?_)
  · refine wm_up h hP (fun r h hP => ?_)
    refine wp_iload dX6_addCards_107 rfl rfl ?_
    exact wm_iret dX6_addCards_109 rfl ⟨rfl, rfl⟩ h hP
  · refine wp_aload_n dX6_addCards_9 rfl rfl ?_
    refine wm_getI dX6_addCards_10 s_1 fk_X6_65 rfl rfl ?_
    refine wp_bipush (20 : Int32) dX6_addCards_13 ib_20 rfl ?_
    refine wm_icmp_ge 107 dX6_addCards_15 rfl rfl h (fun h => ?_) (fun h => ?_)
    · refine wm_up h hP (fun r h hP => ?_)
      refine wp_iload dX6_addCards_107 rfl rfl ?_
      exact wm_iret dX6_addCards_109 rfl ⟨rfl, rfl⟩ h hP
    · refine wp_aload_n dX6_addCards_18 rfl rfl ?_
      refine wp_iload_n dX6_addCards_19 rfl rfl ?_
      refine wp_iconst (3 : Int32) dX6_addCards_20 ic_3 rfl ?_
      refine wp_iload dX6_addCards_21 rfl rfl ?_
      refine wp_imul dX6_addCards_23 rfl ?_
      refine wp_iconst (3 : Int32) dX6_addCards_24 ic_3 rfl ?_
      refine wp_iadd dX6_addCards_25 rfl ?_
      refine wm_callVI (As := [.int s.1, .int (((3 : Int32) * s.2.2.1) + (3 : Int32))]) (rest := []) dX6_addCards_26 ok_X6_68 (by decide) rfl (sS_0 hsf) ⟨_, rfl⟩ (Nat.le_of_ble_eq_true rfl) ⟨rfl, rfl⟩ rfl (fun t h => o_X5_hasRun hsf h) h (fun q1 h => ?_)
      refine wm_if_eq 107 dX6_addCards_29 rfl rfl h (fun h => ?_) (fun h => ?_)
      · refine wm_up h hP (fun r h hP => ?_)
        refine wp_iload dX6_addCards_107 rfl rfl ?_
        exact wm_iret dX6_addCards_109 rfl ⟨rfl, rfl⟩ h hP
      · refine wp_iload_n dX6_addCards_32 rfl rfl ?_
        refine wp_iconst (3 : Int32) dX6_addCards_33 ic_3 rfl ?_
        refine wp_iload dX6_addCards_34 rfl rfl ?_
        refine wp_imul dX6_addCards_36 rfl ?_
        refine wp_iadd dX6_addCards_37 rfl ?_
        refine wm_nm h (fun y2 h => ?_)
        refine wp_istore (L' := [some (.ref 1), some (.ref sf), some (.int s.1), some (.int s.2.1), some (.int s.2.2.1), some (.int y2), none, none, none]) dX6_addCards_38 (by decide) rfl rfl rfl ?_
        refine wp_aload_n dX6_addCards_40 rfl rfl ?_
        refine wm_getR dX6_addCards_41 (sS_0 hsf) fk_X6_74 rfl (rS_3 hsf) rfl ?_
        refine wp_iload dX6_addCards_44 rfl rfl ?_
        refine wm_lald dX6_addCards_46 (sS_1 hsf) rfl h (fun h => ?_)
        refine wp_l2i dX6_addCards_47 rfl ?_
        refine wm_nm h (fun y3 h => ?_)
        refine wp_istore (L' := [some (.ref 1), some (.ref sf), some (.int s.1), some (.int s.2.1), some (.int s.2.2.1), some (.int y2), some (.int y3), none, none]) dX6_addCards_48 (by decide) rfl rfl rfl ?_
        refine wp_aload_n dX6_addCards_50 rfl rfl ?_
        refine wm_getR dX6_addCards_51 (sS_0 hsf) fk_X6_74 rfl (rS_3 hsf) rfl ?_
        refine wp_iload dX6_addCards_54 rfl rfl ?_
        refine wp_iconst (1 : Int32) dX6_addCards_56 ic_1 rfl ?_
        refine wp_iadd dX6_addCards_57 rfl ?_
        refine wm_lald dX6_addCards_58 (sS_1 hsf) rfl h (fun h => ?_)
        refine wp_l2i dX6_addCards_59 rfl ?_
        refine wm_nm h (fun y4 h => ?_)
        refine wp_istore (L' := [some (.ref 1), some (.ref sf), some (.int s.1), some (.int s.2.1), some (.int s.2.2.1), some (.int y2), some (.int y3), some (.int y4), none]) dX6_addCards_60 (by decide) rfl rfl rfl ?_
        refine wp_aload_n dX6_addCards_62 rfl rfl ?_
        refine wm_getR dX6_addCards_63 (sS_0 hsf) fk_X6_74 rfl (rS_3 hsf) rfl ?_
        refine wp_iload dX6_addCards_66 rfl rfl ?_
        refine wp_iconst (2 : Int32) dX6_addCards_68 ic_2 rfl ?_
        refine wp_iadd dX6_addCards_69 rfl ?_
        refine wm_lald dX6_addCards_70 (sS_1 hsf) rfl h (fun h => ?_)
        refine wp_l2i dX6_addCards_71 rfl ?_
        refine wm_nm h (fun y5 h => ?_)
        refine wp_istore (L' := [some (.ref 1), some (.ref sf), some (.int s.1), some (.int s.2.1), some (.int s.2.2.1), some (.int y2), some (.int y3), some (.int y4), some (.int y5)]) dX6_addCards_72 (by decide) rfl rfl rfl ?_
        refine wp_aload_n dX6_addCards_74 rfl rfl ?_
        refine wp_iload dX6_addCards_75 rfl rfl ?_
        refine wp_iload dX6_addCards_77 rfl rfl ?_
        refine wp_iload dX6_addCards_79 rfl rfl ?_
        refine wm_callVI (As := [.int y3, .int y4, .int y5]) (rest := []) dX6_addCards_81 ok_X6_78 (by decide) rfl s_1 ⟨_, rfl⟩ (Nat.le_of_ble_eq_true rfl) ⟨rfl, rfl⟩ rfl (fun t h => o_X6_isCard h) h (fun q6 h => ?_)
        refine wm_if_ne 90 dX6_addCards_84 rfl rfl h (fun h => ?_) (fun h => ?_)
        · refine wp_aload_n dX6_addCards_90 rfl rfl ?_
          refine wp_iload dX6_addCards_91 rfl rfl ?_
          refine wp_iload dX6_addCards_93 rfl rfl ?_
          refine wp_iload dX6_addCards_95 rfl rfl ?_
          refine wm_callVI (As := [.int y3, .int y4, .int y5]) (rest := []) dX6_addCards_97 ok_X6_82 (by decide) rfl s_1 ⟨_, rfl⟩ (Nat.le_of_ble_eq_true rfl) ⟨rfl, rfl⟩ rfl (fun t h => o_X6_addCard h) h (fun q7 h => ?_)
          refine wp_pop dX6_addCards_100 rfl rfl ?_
          refine wm_inc dX6_addCards_101 rfl ii_1 (by decide) rfl rfl h (fun y8 h => ?_)
          refine wm_list (L' := [some (.ref 1), some (.ref sf), some (.int s.1), some (.int s.2.1), some (.int y8), some (.int y2), some (.int y3), some (.int y4), some (.int y5)]) rfl ?_
          refine wp_goto 3 dX6_addCards_104 rfl ?_
          have hB := wm_back h hP
          exact wm_mask (L' := [some (.ref 1), some (.ref sf), some (.int s.1), some (.int s.2.1), some (.int y8), none, none, none, none]) [true, true, true, true, true, false, false, false, false] rfl (hB)
        · refine wm_up h hP (fun r h hP => ?_)
          refine wp_goto 107 dX6_addCards_87 rfl ?_
          refine wp_iload dX6_addCards_107 rfl rfl ?_
          exact wm_iret dX6_addCards_109 rfl ⟨rfl, rfl⟩ h hP
noncomputable def f_X6_addCards (sf : Nat) (p2 : Int32) (p3 : Int32) (m : Mem) : Option (Int32 × Mem) := wh (f_X6_addCards_L3 sf) (p2, p3, (0 : Int32), m)
theorem k_X6_addCards_E {g : Gx} {sf : Nat} (hsf : SA sf) {p2 : Int32} {p3 : Int32} {Q : Qy} {m : Mem} {t : Int32 × Mem} (h : f_X6_addCards sf p2 p3 m = some t) (hP : pI Q t) : WpM g 2 mi_X6_addCards 0 [some (.ref 1), some (.ref sf), some (.int p2), some (.int p3), none, none, none, none, none] [] m (zM g mi_X6_addCards Q) := by
  refine wp_iconst (0 : Int32) dX6_addCards_0 ic_0 rfl ?_
  refine wp_istore (L' := [some (.ref 1), some (.ref sf), some (.int p2), some (.int p3), some (.int (0 : Int32)), none, none, none, none]) dX6_addCards_1 (by decide) rfl rfl rfl ?_
  have hB := wh_ok (A := A_X6_addCards_3 g sf Q) (B := pI Q) (fun s t h hP => k_X6_addCards_L3 hsf h hP) h hP
  exact wm_mask (L' := [some (.ref 1), some (.ref sf), some (.int p2), some (.int p3), some (.int (0 : Int32)), none, none, none, none]) [true, true, true, true, true, false, false, false, false] rfl (hB)
theorem o_X6_addCards {g : Gx} {sf : Nat} (hsf : SA sf) {p2 : Int32} {p3 : Int32} {m : Mem} {t : Int32 × Mem} (h : f_X6_addCards sf p2 p3 m = some t) : MxM g 2 mi_X6_addCards [.ref 1, .ref sf, .int p2, .int p3] m (qI t) := mx_of pn_X6 (Nat.le_of_ble_eq_true rfl) (k_X6_addCards_E hsf h ⟨rfl, rfl, rfl, rfl, rfl⟩)
noncomputable def f_X6_addPerson  (p1 : Int32) (p2 : Int32) (m : Mem) : Option (Int32 × Mem) := ck (gI m 1 13) 10 (bnd (sI m 2 (ix (gI m 1 13)) (p1 / (10 : Int32))) (fun m1 => ck (gI m1 1 13) 10 (bnd (sI m1 3 (ix (gI m1 1 13)) (p1 - p1 / (10 : Int32) * (10 : Int32))) (fun m2 => ck (gI m2 1 13) 10 (bnd (sI m2 4 (ix (gI m2 1 13)) (p2 / (100 : Int32))) (fun m3 => ck (gI m3 1 13) 10 (bnd (sI m3 5 (ix (gI m3 1 13)) (p2 - p2 / (100 : Int32) * (100 : Int32))) (fun m4 => bnd (sI m4 1 16 ((gI m4 1 16) + (1 : Int32))) (fun m5 => bnd (sI m5 1 13 ((gI m5 1 13) + (1 : Int32))) (fun m6 => some ((gI m5 1 13), m6)))))))))))
theorem k_X6_addPerson_E {g : Gx}  {p1 : Int32} {p2 : Int32} {Q : Qy} {m : Mem} {t : Int32 × Mem} (h : f_X6_addPerson p1 p2 m = some t) (hP : pI Q t) : WpM g 1 mi_X6_addPerson 0 [some (.ref 1), some (.int p1), some (.int p2)] [] m (zM g mi_X6_addPerson Q) := by
  refine wp_aload_n dX6_addPerson_0 rfl rfl ?_
  refine wm_getR dX6_addPerson_1 s_1 fk_X6_9 rfl r_1_0 rfl ?_
  refine wp_aload_n dX6_addPerson_4 rfl rfl ?_
  refine wm_getI dX6_addPerson_5 s_1 fk_X6_55 rfl rfl ?_
  refine wp_iload_n dX6_addPerson_8 rfl rfl ?_
  refine wp_bipush (10 : Int32) dX6_addPerson_9 ib_10 rfl ?_
  refine wp_idiv dX6_addPerson_11 (by decide) rfl ?_
  refine wm_iast dX6_addPerson_12 s_2 rfl h (fun m1 h => ?_)
  refine wp_aload_n dX6_addPerson_13 rfl rfl ?_
  refine wm_getR dX6_addPerson_14 s_1 fk_X6_15 rfl r_1_1 rfl ?_
  refine wp_aload_n dX6_addPerson_17 rfl rfl ?_
  refine wm_getI dX6_addPerson_18 s_1 fk_X6_55 rfl rfl ?_
  refine wp_iload_n dX6_addPerson_21 rfl rfl ?_
  refine wp_bipush (10 : Int32) dX6_addPerson_22 ib_10 rfl ?_
  refine wp_irem dX6_addPerson_24 (by decide) rfl ?_
  refine wm_iast dX6_addPerson_25 s_3 rfl h (fun m2 h => ?_)
  refine wp_aload_n dX6_addPerson_26 rfl rfl ?_
  refine wm_getR dX6_addPerson_27 s_1 fk_X6_18 rfl r_1_2 rfl ?_
  refine wp_aload_n dX6_addPerson_30 rfl rfl ?_
  refine wm_getI dX6_addPerson_31 s_1 fk_X6_55 rfl rfl ?_
  refine wp_iload_n dX6_addPerson_34 rfl rfl ?_
  refine wp_bipush (100 : Int32) dX6_addPerson_35 ib_100 rfl ?_
  refine wp_idiv dX6_addPerson_37 (by decide) rfl ?_
  refine wm_iast dX6_addPerson_38 s_4 rfl h (fun m3 h => ?_)
  refine wp_aload_n dX6_addPerson_39 rfl rfl ?_
  refine wm_getR dX6_addPerson_40 s_1 fk_X6_21 rfl r_1_3 rfl ?_
  refine wp_aload_n dX6_addPerson_43 rfl rfl ?_
  refine wm_getI dX6_addPerson_44 s_1 fk_X6_55 rfl rfl ?_
  refine wp_iload_n dX6_addPerson_47 rfl rfl ?_
  refine wp_bipush (100 : Int32) dX6_addPerson_48 ib_100 rfl ?_
  refine wp_irem dX6_addPerson_50 (by decide) rfl ?_
  refine wm_iast dX6_addPerson_51 s_5 rfl h (fun m4 h => ?_)
  refine wp_aload_n dX6_addPerson_52 rfl rfl ?_
  refine wp_dup dX6_addPerson_53 rfl rfl ?_
  refine wm_getI dX6_addPerson_54 s_1 fk_X6_62 rfl rfl ?_
  refine wp_iconst (1 : Int32) dX6_addPerson_57 ic_1 rfl ?_
  refine wp_iadd dX6_addPerson_58 rfl ?_
  refine wm_putI dX6_addPerson_59 s_1 fk_X6_62 rfl rfl h (fun m5 h => ?_)
  refine wp_aload_n dX6_addPerson_62 rfl rfl ?_
  refine wp_dup dX6_addPerson_63 rfl rfl ?_
  refine wm_getI dX6_addPerson_64 s_1 fk_X6_55 rfl rfl ?_
  refine wp_dup_x1 dX6_addPerson_67 rfl rfl rfl ?_
  refine wp_iconst (1 : Int32) dX6_addPerson_68 ic_1 rfl ?_
  refine wp_iadd dX6_addPerson_69 rfl ?_
  refine wm_putI dX6_addPerson_70 s_1 fk_X6_55 rfl rfl h (fun m6 h => ?_)
  exact wm_iret dX6_addPerson_73 rfl ⟨rfl, rfl⟩ h hP
theorem o_X6_addPerson {g : Gx}  {p1 : Int32} {p2 : Int32} {m : Mem} {t : Int32 × Mem} (h : f_X6_addPerson p1 p2 m = some t) : MxM g 1 mi_X6_addPerson [.ref 1, .int p1, .int p2] m (qI t) := mx_of pn_X6 (Nat.le_of_ble_eq_true rfl) (k_X6_addPerson_E h ⟨rfl, rfl, rfl, rfl, rfl⟩)
noncomputable def f_X6_addThing  (p1 : Int32) (p2 : Int32) (m : Mem) : Option (Int32 × Mem) := ck (gI m 1 14) 6 (bnd (sI m 6 (ix (gI m 1 14)) p1) (fun m1 => ck (gI m1 1 14) 6 (bnd (sI m1 7 (ix (gI m1 1 14)) p2) (fun m2 => bnd (sI m2 1 16 ((gI m2 1 16) + (1 : Int32))) (fun m3 => bnd (sI m3 1 14 ((gI m3 1 14) + (1 : Int32))) (fun m4 => some ((gI m3 1 14), m4)))))))
theorem k_X6_addThing_E {g : Gx}  {p1 : Int32} {p2 : Int32} {Q : Qy} {m : Mem} {t : Int32 × Mem} (h : f_X6_addThing p1 p2 m = some t) (hP : pI Q t) : WpM g 1 mi_X6_addThing 0 [some (.ref 1), some (.int p1), some (.int p2)] [] m (zM g mi_X6_addThing Q) := by
  refine wp_aload_n dX6_addThing_0 rfl rfl ?_
  refine wm_getR dX6_addThing_1 s_1 fk_X6_24 rfl r_1_4 rfl ?_
  refine wp_aload_n dX6_addThing_4 rfl rfl ?_
  refine wm_getI dX6_addThing_5 s_1 fk_X6_59 rfl rfl ?_
  refine wp_iload_n dX6_addThing_8 rfl rfl ?_
  refine wm_iast dX6_addThing_9 s_6 rfl h (fun m1 h => ?_)
  refine wp_aload_n dX6_addThing_10 rfl rfl ?_
  refine wm_getR dX6_addThing_11 s_1 fk_X6_27 rfl r_1_5 rfl ?_
  refine wp_aload_n dX6_addThing_14 rfl rfl ?_
  refine wm_getI dX6_addThing_15 s_1 fk_X6_59 rfl rfl ?_
  refine wp_iload_n dX6_addThing_18 rfl rfl ?_
  refine wm_iast dX6_addThing_19 s_7 rfl h (fun m2 h => ?_)
  refine wp_aload_n dX6_addThing_20 rfl rfl ?_
  refine wp_dup dX6_addThing_21 rfl rfl ?_
  refine wm_getI dX6_addThing_22 s_1 fk_X6_62 rfl rfl ?_
  refine wp_iconst (1 : Int32) dX6_addThing_25 ic_1 rfl ?_
  refine wp_iadd dX6_addThing_26 rfl ?_
  refine wm_putI dX6_addThing_27 s_1 fk_X6_62 rfl rfl h (fun m3 h => ?_)
  refine wp_aload_n dX6_addThing_30 rfl rfl ?_
  refine wp_dup dX6_addThing_31 rfl rfl ?_
  refine wm_getI dX6_addThing_32 s_1 fk_X6_59 rfl rfl ?_
  refine wp_dup_x1 dX6_addThing_35 rfl rfl rfl ?_
  refine wp_iconst (1 : Int32) dX6_addThing_36 ic_1 rfl ?_
  refine wp_iadd dX6_addThing_37 rfl ?_
  refine wm_putI dX6_addThing_38 s_1 fk_X6_59 rfl rfl h (fun m4 h => ?_)
  exact wm_iret dX6_addThing_41 rfl ⟨rfl, rfl⟩ h hP
theorem o_X6_addThing {g : Gx}  {p1 : Int32} {p2 : Int32} {m : Mem} {t : Int32 × Mem} (h : f_X6_addThing p1 p2 m = some t) : MxM g 1 mi_X6_addThing [.ref 1, .int p1, .int p2] m (qI t) := mx_of pn_X6 (Nat.le_of_ble_eq_true rfl) (k_X6_addThing_E h ⟨rfl, rfl, rfl, rfl, rfl⟩)
noncomputable def f_X6_mendable  (p1 : Int32) (m : Mem) : Option (Nat × Mem) := sw p1 [((0 : Int32), some (2, m)), ((1 : Int32), some (3, m)), ((2 : Int32), some (5, m)), ((3 : Int32), some (6, m))] (some (7, m))
theorem k_X6_mendable_E {g : Gx}  {p1 : Int32} {Q : Qy} {m : Mem} {t : Nat × Mem} (h : f_X6_mendable p1 m = some t) (hP : pR Q t) : WpM g 1 mi_X6_mendable 0 [some (.ref 1), some (.int p1)] [] m (zM g mi_X6_mendable Q) := by
  refine wp_iload_n dX6_mendable_0 rfl rfl ?_
  refine wm_tsw [((0 : Int32), 32), ((1 : Int32), 37), ((2 : Int32), 42), ((3 : Int32), 47)] 52 dX6_mendable_1 rfl (by decide) (by decide +kernel) (by decide +kernel) (by decide +kernel) h rfl ⟨fun h => ?_, fun h => ?_, fun h => ?_, fun h => ?_, trivial⟩ (fun h => ?_)
  · refine wp_aload_n dX6_mendable_32 rfl rfl ?_
    refine wm_getR dX6_mendable_33 s_1 fk_X6_9 rfl r_1_0 rfl ?_
    exact wm_aret dX6_mendable_36 rfl ⟨rfl, rfl⟩ h hP
  · refine wp_aload_n dX6_mendable_37 rfl rfl ?_
    refine wm_getR dX6_mendable_38 s_1 fk_X6_15 rfl r_1_1 rfl ?_
    exact wm_aret dX6_mendable_41 rfl ⟨rfl, rfl⟩ h hP
  · refine wp_aload_n dX6_mendable_42 rfl rfl ?_
    refine wm_getR dX6_mendable_43 s_1 fk_X6_21 rfl r_1_3 rfl ?_
    exact wm_aret dX6_mendable_46 rfl ⟨rfl, rfl⟩ h hP
  · refine wp_aload_n dX6_mendable_47 rfl rfl ?_
    refine wm_getR dX6_mendable_48 s_1 fk_X6_24 rfl r_1_4 rfl ?_
    exact wm_aret dX6_mendable_51 rfl ⟨rfl, rfl⟩ h hP
  · refine wp_aload_n dX6_mendable_52 rfl rfl ?_
    refine wm_getR dX6_mendable_53 s_1 fk_X6_27 rfl r_1_5 rfl ?_
    exact wm_aret dX6_mendable_56 rfl ⟨rfl, rfl⟩ h hP
theorem o_X6_mendable {g : Gx}  {p1 : Int32} {m : Mem} {t : Nat × Mem} (h : f_X6_mendable p1 m = some t) : MxM g 1 mi_X6_mendable [.ref 1, .int p1] m (qR t) := mx_of pn_X6 (Nat.le_of_ble_eq_true rfl) (k_X6_mendable_E h ⟨rfl, rfl, rfl, rfl, rfl⟩)
noncomputable def f_X6_change  (p1 : Int32) (p2 : Int32) (p3 : Int32) (m : Mem) : Option Mem := (f_X6_mendable p2 m).bind (fun q1 => ckS q1.1 p1 (bnd (sI q1.2 q1.1 (ix p1) p3) (fun m2 => bnd (sI m2 1 16 ((gI m2 1 16) + (1 : Int32))) (fun m3 => some m3))))
theorem k_X6_change_E {g : Gx}  {p1 : Int32} {p2 : Int32} {p3 : Int32} {Q : Qy} {m : Mem} {t : Mem} (h : f_X6_change p1 p2 p3 m = some t) (hP : pV Q t) : WpM g 2 mi_X6_change 0 [some (.ref 1), some (.int p1), some (.int p2), some (.int p3)] [] m (zM g mi_X6_change Q) := by
  refine wp_aload_n dX6_change_0 rfl rfl ?_
  refine wp_iload_n dX6_change_1 rfl rfl ?_
  refine wm_callVR (As := [.int p2]) (rest := []) dX6_change_2 ok_X6_86 (by decide) rfl s_1 ⟨_, rfl⟩ (Nat.le_of_ble_eq_true rfl) ⟨rfl, rfl⟩ rfl (fun t h => o_X6_mendable h) h (fun q1 h => ?_)
  refine wp_iload_n dX6_change_5 rfl rfl ?_
  refine wp_iload_n dX6_change_6 rfl rfl ?_
  refine wm_iastS dX6_change_7 rfl h (fun m2 h => ?_)
  refine wp_aload_n dX6_change_8 rfl rfl ?_
  refine wp_dup dX6_change_9 rfl rfl ?_
  refine wm_getI dX6_change_10 s_1 fk_X6_62 rfl rfl ?_
  refine wp_iconst (1 : Int32) dX6_change_13 ic_1 rfl ?_
  refine wp_iadd dX6_change_14 rfl ?_
  refine wm_putI dX6_change_15 s_1 fk_X6_62 rfl rfl h (fun m3 h => ?_)
  exact wm_vret dX6_change_18 rfl ⟨rfl, rfl⟩ h hP
theorem o_X6_change {g : Gx}  {p1 : Int32} {p2 : Int32} {p3 : Int32} {m : Mem} {t : Mem} (h : f_X6_change p1 p2 p3 m = some t) : MxM g 2 mi_X6_change [.ref 1, .int p1, .int p2, .int p3] m (qV t) := mx_of pn_X6 (Nat.le_of_ble_eq_true rfl) (k_X6_change_E h ⟨rfl, rfl, rfl, rfl, rfl⟩)
noncomputable def f_X6_isBare   (m : Mem) : Option (Int32 × Mem) := if (gI m 1 13) = 0 then bz (1 : Int32) (some ((1 : Int32), m)) else if ¬ (gI m 1 14) = 0 then bz (0 : Int32) (some ((0 : Int32), m)) else bz (1 : Int32) (some ((1 : Int32), m))
theorem k_X6_isBare_E {g : Gx}   {Q : Qy} {m : Mem} {t : Int32 × Mem} (h : f_X6_isBare m = some t) (hP : pI Q t) : WpM g 1 mi_X6_isBare 0 [some (.ref 1)] [] m (zM g mi_X6_isBare Q) := by
  refine wp_aload_n dX6_isBare_0 rfl rfl ?_
  refine wm_getI dX6_isBare_1 s_1 fk_X6_55 rfl rfl ?_
  refine wm_if_eq 14 dX6_isBare_4 rfl rfl h (fun h => ?_) (fun h => ?_)
  · refine wp_iconst (1 : Int32) dX6_isBare_14 ic_1 rfl ?_
    refine wp_goto 19 dX6_isBare_15 rfl ?_
    exact wm_zret dX6_isBare_19 rfl ⟨rfl, rfl⟩ h hP
  · refine wp_aload_n dX6_isBare_7 rfl rfl ?_
    refine wm_getI dX6_isBare_8 s_1 fk_X6_59 rfl rfl ?_
    refine wm_if_ne 18 dX6_isBare_11 rfl rfl h (fun h => ?_) (fun h => ?_)
    · refine wp_iconst (0 : Int32) dX6_isBare_18 ic_0 rfl ?_
      exact wm_zret dX6_isBare_19 rfl ⟨rfl, rfl⟩ h hP
    · refine wp_iconst (1 : Int32) dX6_isBare_14 ic_1 rfl ?_
      refine wp_goto 19 dX6_isBare_15 rfl ?_
      exact wm_zret dX6_isBare_19 rfl ⟨rfl, rfl⟩ h hP
theorem o_X6_isBare {g : Gx}   {m : Mem} {t : Int32 × Mem} (h : f_X6_isBare m = some t) : MxM g 1 mi_X6_isBare [.ref 1] m (qI t) := mx_of pn_X6 (Nat.le_of_ble_eq_true rfl) (k_X6_isBare_E h ⟨rfl, rfl, rfl, rfl, rfl⟩)
noncomputable def f_X6_ofCard  (p1 : Int32) (p2 : Int32) (m : Mem) : Option (Int32 × Mem) := sw p2 [((20 : Int32), ck p1 20 (some ((gI m 8 (ix p1)), m))), ((21 : Int32), ck p1 20 (some ((gI m 9 (ix p1)), m)))] (ck p1 20 (some ((gI m 10 (ix p1)), m)))
theorem k_X6_ofCard_E {g : Gx}  {p1 : Int32} {p2 : Int32} {Q : Qy} {m : Mem} {t : Int32 × Mem} (h : f_X6_ofCard p1 p2 m = some t) (hP : pI Q t) : WpM g 1 mi_X6_ofCard 0 [some (.ref 1), some (.int p1), some (.int p2)] [] m (zM g mi_X6_ofCard Q) := by
  refine wp_iload_n dX6_ofCard_0 rfl rfl ?_
  refine wm_lsw [((20 : Int32), 28), ((21 : Int32), 35)] 42 dX6_ofCard_1 (by decide +kernel) rfl (by decide +kernel) (lsw_off (by decide +kernel)) (by decide +kernel) h rfl ⟨fun h => ?_, fun h => ?_, trivial⟩ (fun h => ?_)
  · refine wp_aload_n dX6_ofCard_28 rfl rfl ?_
    refine wm_getR dX6_ofCard_29 s_1 fk_X6_30 rfl r_1_6 rfl ?_
    refine wp_iload_n dX6_ofCard_32 rfl rfl ?_
    refine wm_iald dX6_ofCard_33 s_8 rfl h (fun h => ?_)
    exact wm_iret dX6_ofCard_34 rfl ⟨rfl, rfl⟩ h hP
  · refine wp_aload_n dX6_ofCard_35 rfl rfl ?_
    refine wm_getR dX6_ofCard_36 s_1 fk_X6_33 rfl r_1_7 rfl ?_
    refine wp_iload_n dX6_ofCard_39 rfl rfl ?_
    refine wm_iald dX6_ofCard_40 s_9 rfl h (fun h => ?_)
    exact wm_iret dX6_ofCard_41 rfl ⟨rfl, rfl⟩ h hP
  · refine wp_aload_n dX6_ofCard_42 rfl rfl ?_
    refine wm_getR dX6_ofCard_43 s_1 fk_X6_36 rfl r_1_8 rfl ?_
    refine wp_iload_n dX6_ofCard_46 rfl rfl ?_
    refine wm_iald dX6_ofCard_47 s_10 rfl h (fun h => ?_)
    exact wm_iret dX6_ofCard_48 rfl ⟨rfl, rfl⟩ h hP
theorem o_X6_ofCard {g : Gx}  {p1 : Int32} {p2 : Int32} {m : Mem} {t : Int32 × Mem} (h : f_X6_ofCard p1 p2 m = some t) : MxM g 1 mi_X6_ofCard [.ref 1, .int p1, .int p2] m (qI t) := mx_of pn_X6 (Nat.le_of_ble_eq_true rfl) (k_X6_ofCard_E h ⟨rfl, rfl, rfl, rfl, rfl⟩)
noncomputable def f_X6_ofPerson  (p1 : Int32) (p2 : Int32) (m : Mem) : Option (Int32 × Mem) := sw p2 [((0 : Int32), ck p1 10 (some ((gI m 2 (ix p1)), m))), ((1 : Int32), ck p1 10 (some ((gI m 3 (ix p1)), m))), ((2 : Int32), ck p1 10 (some ((gI m 4 (ix p1)), m)))] (ck p1 10 (some ((gI m 5 (ix p1)), m)))
theorem k_X6_ofPerson_E {g : Gx}  {p1 : Int32} {p2 : Int32} {Q : Qy} {m : Mem} {t : Int32 × Mem} (h : f_X6_ofPerson p1 p2 m = some t) (hP : pI Q t) : WpM g 1 mi_X6_ofPerson 0 [some (.ref 1), some (.int p1), some (.int p2)] [] m (zM g mi_X6_ofPerson Q) := by
  refine wp_iload_n dX6_ofPerson_0 rfl rfl ?_
  refine wm_tsw [((0 : Int32), 28), ((1 : Int32), 35), ((2 : Int32), 42)] 49 dX6_ofPerson_1 rfl (by decide) (by decide +kernel) (by decide +kernel) (by decide +kernel) h rfl ⟨fun h => ?_, fun h => ?_, fun h => ?_, trivial⟩ (fun h => ?_)
  · refine wp_aload_n dX6_ofPerson_28 rfl rfl ?_
    refine wm_getR dX6_ofPerson_29 s_1 fk_X6_9 rfl r_1_0 rfl ?_
    refine wp_iload_n dX6_ofPerson_32 rfl rfl ?_
    refine wm_iald dX6_ofPerson_33 s_2 rfl h (fun h => ?_)
    exact wm_iret dX6_ofPerson_34 rfl ⟨rfl, rfl⟩ h hP
  · refine wp_aload_n dX6_ofPerson_35 rfl rfl ?_
    refine wm_getR dX6_ofPerson_36 s_1 fk_X6_15 rfl r_1_1 rfl ?_
    refine wp_iload_n dX6_ofPerson_39 rfl rfl ?_
    refine wm_iald dX6_ofPerson_40 s_3 rfl h (fun h => ?_)
    exact wm_iret dX6_ofPerson_41 rfl ⟨rfl, rfl⟩ h hP
  · refine wp_aload_n dX6_ofPerson_42 rfl rfl ?_
    refine wm_getR dX6_ofPerson_43 s_1 fk_X6_18 rfl r_1_2 rfl ?_
    refine wp_iload_n dX6_ofPerson_46 rfl rfl ?_
    refine wm_iald dX6_ofPerson_47 s_4 rfl h (fun h => ?_)
    exact wm_iret dX6_ofPerson_48 rfl ⟨rfl, rfl⟩ h hP
  · refine wp_aload_n dX6_ofPerson_49 rfl rfl ?_
    refine wm_getR dX6_ofPerson_50 s_1 fk_X6_21 rfl r_1_3 rfl ?_
    refine wp_iload_n dX6_ofPerson_53 rfl rfl ?_
    refine wm_iald dX6_ofPerson_54 s_5 rfl h (fun h => ?_)
    exact wm_iret dX6_ofPerson_55 rfl ⟨rfl, rfl⟩ h hP
theorem o_X6_ofPerson {g : Gx}  {p1 : Int32} {p2 : Int32} {m : Mem} {t : Int32 × Mem} (h : f_X6_ofPerson p1 p2 m = some t) : MxM g 1 mi_X6_ofPerson [.ref 1, .int p1, .int p2] m (qI t) := mx_of pn_X6 (Nat.le_of_ble_eq_true rfl) (k_X6_ofPerson_E h ⟨rfl, rfl, rfl, rfl, rfl⟩)
noncomputable def f_X7_compare_J75  (v2 : Int32) (v3 : Int32) (v4 : Int32) (v5 : Int32) (m : Mem) : Option Mem := ck v3 9 (bnd (sI m 55 (ix v3) v2) (fun m5 => ck (v3 + (1 : Int32)) 9 (bnd (sI m5 55 (ix (v3 + (1 : Int32))) v4) (fun m6 => ck (v3 + (2 : Int32)) 9 (bnd (sI m6 55 (ix (v3 + (2 : Int32))) v5) (fun m7 => some m7))))))
theorem k_X7_compare_J75 {g : Gx}  {v2 : Int32} {v3 : Int32} {v4 : Int32} {v5 : Int32}  {Q : Qy} {m : Mem} {t : Mem} (h : f_X7_compare_J75 v2 v3 v4 v5 m = some t) (hP : pV Q t) : WpM g 5 mi_X7_compare 75 [some (.ref 53), none, some (.int v2), some (.int v3), some (.int v4), some (.int v5)] [] m (zM g mi_X7_compare Q) := by
  refine wp_aload_n dX7_compare_75 rfl rfl ?_
  refine wm_getR dX7_compare_76 s_53 fk_X7_15 rfl r_53_3 rfl ?_
  refine wp_iload_n dX7_compare_79 rfl rfl ?_
  refine wp_iload_n dX7_compare_80 rfl rfl ?_
  refine wm_iast dX7_compare_81 s_55 rfl h (fun m5 h => ?_)
  refine wp_aload_n dX7_compare_82 rfl rfl ?_
  refine wm_getR dX7_compare_83 s_53 fk_X7_15 rfl r_53_3 rfl ?_
  refine wp_iload_n dX7_compare_86 rfl rfl ?_
  refine wp_iconst (1 : Int32) dX7_compare_87 ic_1 rfl ?_
  refine wp_iadd dX7_compare_88 rfl ?_
  refine wp_iload dX7_compare_89 rfl rfl ?_
  refine wm_iast dX7_compare_91 s_55 rfl h (fun m6 h => ?_)
  refine wp_aload_n dX7_compare_92 rfl rfl ?_
  refine wm_getR dX7_compare_93 s_53 fk_X7_15 rfl r_53_3 rfl ?_
  refine wp_iload_n dX7_compare_96 rfl rfl ?_
  refine wp_iconst (2 : Int32) dX7_compare_97 ic_2 rfl ?_
  refine wp_iadd dX7_compare_98 rfl ?_
  refine wp_iload dX7_compare_99 rfl rfl ?_
  refine wm_iast dX7_compare_101 s_55 rfl h (fun m7 h => ?_)
  exact wm_vret dX7_compare_102 rfl ⟨rfl, rfl⟩ h hP
noncomputable def f_X7_compare  (p1 : Int32) (p2 : Int32) (m : Mem) : Option Mem := bnd (p1 * (3 : Int32)) (fun y1 => (f_X3_wrong 57 m).bind (fun q2 => (f_J6_bitCount_0f7a4 q2.1 q2.2).bind (fun q3 => (f_X3_cost 57 q3.2).bind (fun q4 => ck y1 9 (if (gI q4.2 55 (ix y1)) = (-2 : Int32) then f_X7_compare_J75 p2 y1 q3.1 q4.1 q4.2 else ck (y1 + (1 : Int32)) 9 (if q3.1 < (gI q4.2 55 (ix (y1 + (1 : Int32)))) then f_X7_compare_J75 p2 y1 q3.1 q4.1 q4.2 else ck (y1 + (1 : Int32)) 9 (if ¬ q3.1 = (gI q4.2 55 (ix (y1 + (1 : Int32)))) then some q4.2 else ck (y1 + (2 : Int32)) 9 (if (gI q4.2 55 (ix (y1 + (2 : Int32)))) ≤ q4.1 then some q4.2 else f_X7_compare_J75 p2 y1 q3.1 q4.1 q4.2))))))))
theorem k_X7_compare_E {g : Gx}  {p1 : Int32} {p2 : Int32} {Q : Qy} {m : Mem} {t : Mem} (h : f_X7_compare p1 p2 m = some t) (hP : pV Q t) : WpM g 5 mi_X7_compare 0 [some (.ref 53), some (.int p1), some (.int p2), none, none, none] [] m (zM g mi_X7_compare Q) := by
  refine wp_iload_n dX7_compare_0 rfl rfl ?_
  refine wp_iconst (3 : Int32) dX7_compare_1 ic_3 rfl ?_
  refine wp_imul dX7_compare_2 rfl ?_
  refine wm_nm h (fun y1 h => ?_)
  refine wp_istore_n (L' := [some (.ref 53), some (.int p1), some (.int p2), some (.int y1), none, none]) dX7_compare_3 (by decide) rfl rfl rfl ?_
  refine wp_aload_n dX7_compare_4 rfl rfl ?_
  refine wm_getR dX7_compare_5 s_53 fk_X7_30 rfl r_53_1 rfl ?_
  refine wm_callVI (As := []) (rest := []) dX7_compare_8 ok_X7_77 (by decide) rfl (sM_0 (by unfold MA; omega)) ⟨_, rfl⟩ (Nat.le_of_ble_eq_true rfl) ⟨rfl, rfl⟩ rfl (fun t h => o_X3_wrong (by unfold MA; omega) h) h (fun q2 h => ?_)
  refine wm_callSI (As := [.int q2.1]) (rest := []) dX7_compare_11 ok_X7_80 (by decide) rfl (Nat.le_of_ble_eq_true rfl) ⟨rfl, rfl⟩ rfl (fun t h => o_J6_bitCount_0f7a4 h) h (fun q3 h => ?_)
  refine wp_istore (L' := [some (.ref 53), some (.int p1), some (.int p2), some (.int y1), some (.int q3.1), none]) dX7_compare_14 (by decide) rfl rfl rfl ?_
  refine wp_aload_n dX7_compare_16 rfl rfl ?_
  refine wm_getR dX7_compare_17 s_53 fk_X7_30 rfl r_53_1 rfl ?_
  refine wm_callVI (As := []) (rest := []) dX7_compare_20 ok_X7_86 (by decide) rfl (sM_0 (by unfold MA; omega)) ⟨_, rfl⟩ (Nat.le_of_ble_eq_true rfl) ⟨rfl, rfl⟩ rfl (fun t h => o_X3_cost (by unfold MA; omega) h) h (fun q4 h => ?_)
  refine wp_istore (L' := [some (.ref 53), some (.int p1), some (.int p2), some (.int y1), some (.int q3.1), some (.int q4.1)]) dX7_compare_23 (by decide) rfl rfl rfl ?_
  refine wp_aload_n dX7_compare_25 rfl rfl ?_
  refine wm_getR dX7_compare_26 s_53 fk_X7_15 rfl r_53_3 rfl ?_
  refine wp_iload_n dX7_compare_29 rfl rfl ?_
  refine wm_iald dX7_compare_30 s_55 rfl h (fun h => ?_)
  refine wp_bipush (-2 : Int32) dX7_compare_31 ib_m2 rfl ?_
  refine wm_icmp_eq 75 dX7_compare_33 rfl rfl h (fun h => ?_) (fun h => ?_)
  · exact wm_mask (L' := [some (.ref 53), none, some (.int p2), some (.int y1), some (.int q3.1), some (.int q4.1)]) [true, false, true, true, true, true] rfl (k_X7_compare_J75  h hP)
  · refine wp_iload dX7_compare_36 rfl rfl ?_
    refine wp_aload_n dX7_compare_38 rfl rfl ?_
    refine wm_getR dX7_compare_39 s_53 fk_X7_15 rfl r_53_3 rfl ?_
    refine wp_iload_n dX7_compare_42 rfl rfl ?_
    refine wp_iconst (1 : Int32) dX7_compare_43 ic_1 rfl ?_
    refine wp_iadd dX7_compare_44 rfl ?_
    refine wm_iald dX7_compare_45 s_55 rfl h (fun h => ?_)
    refine wm_icmp_lt 75 dX7_compare_46 rfl rfl h (fun h => ?_) (fun h => ?_)
    · exact wm_mask (L' := [some (.ref 53), none, some (.int p2), some (.int y1), some (.int q3.1), some (.int q4.1)]) [true, false, true, true, true, true] rfl (k_X7_compare_J75  h hP)
    · refine wp_iload dX7_compare_49 rfl rfl ?_
      refine wp_aload_n dX7_compare_51 rfl rfl ?_
      refine wm_getR dX7_compare_52 s_53 fk_X7_15 rfl r_53_3 rfl ?_
      refine wp_iload_n dX7_compare_55 rfl rfl ?_
      refine wp_iconst (1 : Int32) dX7_compare_56 ic_1 rfl ?_
      refine wp_iadd dX7_compare_57 rfl ?_
      refine wm_iald dX7_compare_58 s_55 rfl h (fun h => ?_)
      refine wm_icmp_ne 102 dX7_compare_59 rfl rfl h (fun h => ?_) (fun h => ?_)
      · exact wm_vret dX7_compare_102 rfl ⟨rfl, rfl⟩ h hP
      · refine wp_iload dX7_compare_62 rfl rfl ?_
        refine wp_aload_n dX7_compare_64 rfl rfl ?_
        refine wm_getR dX7_compare_65 s_53 fk_X7_15 rfl r_53_3 rfl ?_
        refine wp_iload_n dX7_compare_68 rfl rfl ?_
        refine wp_iconst (2 : Int32) dX7_compare_69 ic_2 rfl ?_
        refine wp_iadd dX7_compare_70 rfl ?_
        refine wm_iald dX7_compare_71 s_55 rfl h (fun h => ?_)
        refine wm_icmp_ge 102 dX7_compare_72 rfl rfl h (fun h => ?_) (fun h => ?_)
        · exact wm_vret dX7_compare_102 rfl ⟨rfl, rfl⟩ h hP
        · exact wm_mask (L' := [some (.ref 53), none, some (.int p2), some (.int y1), some (.int q3.1), some (.int q4.1)]) [true, false, true, true, true, true] rfl (k_X7_compare_J75  h hP)
theorem o_X7_compare {g : Gx}  {p1 : Int32} {p2 : Int32} {m : Mem} {t : Mem} (h : f_X7_compare p1 p2 m = some t) : MxM g 5 mi_X7_compare [.ref 53, .int p1, .int p2] m (qV t) := mx_of pn_X7 (Nat.le_of_ble_eq_true rfl) (k_X7_compare_E h ⟨rfl, rfl, rfl, rfl, rfl⟩)
abbrev A_X7_tryRules_2 (g : Gx)  (Q : Qy) (s : Int32 × Mem) : Prop := WpM g 6 mi_X7_tryRules 2 [some (.ref 53), some (.int s.1)] [] s.2 (zM g mi_X7_tryRules Q)
abbrev P_X7_tryRules_2 (g : Gx)  (Q : Qy) : ((Int32 × Mem) ⊕ Mem) → Prop := pS (A_X7_tryRules_2 g Q) (pV Q)
noncomputable def f_X7_tryRules_L2  (s : Int32 × Mem) : Option ((Int32 × Mem) ⊕ Mem) := if (6 : Int32) ≤ s.1 then up (some s.2) else ck (2 : Int32) 3 ((f_X3_hold 57 54 s.1 (gI s.2 11 (ix (2 : Int32))) (-1 : Int32) s.2).bind (fun q1 => (f_X7_compare (0 : Int32) s.1 q1).bind (fun q2 => bnd (s.1 + (1 : Int32)) (fun y3 => some (Sum.inl (y3, q2))))))
theorem k_X7_tryRules_L2 {g : Gx}  {Q : Qy} {s : Int32 × Mem} {t : (Int32 × Mem) ⊕ Mem} (h : f_X7_tryRules_L2 s = some t) (hP : P_X7_tryRules_2 g Q t) : A_X7_tryRules_2 g Q s := by
  refine wp_iload_n dX7_tryRules_2 rfl rfl ?_
  refine wp_bipush (6 : Int32) dX7_tryRules_3 ib_6 rfl ?_
  refine wm_icmp_ge 42 dX7_tryRules_5 rfl rfl h (fun h => ?_) (fun h => ?_)
  · refine wm_up h hP (fun r h hP => ?_)
    exact wm_vret dX7_tryRules_42 rfl ⟨rfl, rfl⟩ h hP
  · refine wp_aload_n dX7_tryRules_8 rfl rfl ?_
    refine wm_getR dX7_tryRules_9 s_53 fk_X7_30 rfl r_53_1 rfl ?_
    refine wp_aload_n dX7_tryRules_12 rfl rfl ?_
    refine wm_getR dX7_tryRules_13 s_53 fk_X7_9 rfl r_53_2 rfl ?_
    refine wp_iload_n dX7_tryRules_16 rfl rfl ?_
    refine wp_aload_n dX7_tryRules_17 rfl rfl ?_
    refine wm_getR dX7_tryRules_18 s_53 fk_X7_21 rfl r_53_0 rfl ?_
    refine wm_getR dX7_tryRules_21 s_1 fk_X7_59 rfl r_1_9 rfl ?_
    refine wp_iconst (2 : Int32) dX7_tryRules_24 ic_2 rfl ?_
    refine wm_iald dX7_tryRules_25 s_11 rfl h (fun h => ?_)
    refine wp_iconst (-1 : Int32) dX7_tryRules_26 ic_m1 rfl ?_
    refine wm_callVN (As := [.ref 54, .int s.1, .int (gI s.2 11 (ix (2 : Int32))), .int (-1 : Int32)]) (rest := []) dX7_tryRules_27 ok_X7_62 (by decide) rfl (sM_0 (by unfold MA; omega)) ⟨_, rfl⟩ (Nat.le_of_ble_eq_true rfl) ⟨rfl, rfl⟩ rfl (fun t h => o_X3_hold (by unfold MA; omega) s_54 h) h (fun q1 h => ?_)
    refine wp_aload_n dX7_tryRules_30 rfl rfl ?_
    refine wp_iconst (0 : Int32) dX7_tryRules_31 ic_0 rfl ?_
    refine wp_iload_n dX7_tryRules_32 rfl rfl ?_
    refine wm_callVN (As := [.int (0 : Int32), .int s.1]) (rest := []) dX7_tryRules_33 ok_X7_66 (by decide) rfl s_53 ⟨_, rfl⟩ (Nat.le_of_ble_eq_true rfl) ⟨rfl, rfl⟩ rfl (fun t h => o_X7_compare h) h (fun q2 h => ?_)
    refine wm_inc dX7_tryRules_36 rfl ii_1 (by decide) rfl rfl h (fun y3 h => ?_)
    refine wm_list (L' := [some (.ref 53), some (.int y3)]) rfl ?_
    refine wp_goto 2 dX7_tryRules_39 rfl ?_
    have hB := wm_back h hP
    exact wm_mask (L' := [some (.ref 53), some (.int y3)]) [true, true] rfl (hB)
noncomputable def f_X7_tryRules   (m : Mem) : Option Mem := wh (f_X7_tryRules_L2) ((0 : Int32), m)
theorem k_X7_tryRules_E {g : Gx}   {Q : Qy} {m : Mem} {t : Mem} (h : f_X7_tryRules m = some t) (hP : pV Q t) : WpM g 6 mi_X7_tryRules 0 [some (.ref 53), none] [] m (zM g mi_X7_tryRules Q) := by
  refine wp_iconst (0 : Int32) dX7_tryRules_0 ic_0 rfl ?_
  refine wp_istore_n (L' := [some (.ref 53), some (.int (0 : Int32))]) dX7_tryRules_1 (by decide) rfl rfl rfl ?_
  have hB := wh_ok (A := A_X7_tryRules_2 g Q) (B := pV Q) (fun s t h hP => k_X7_tryRules_L2  h hP) h hP
  exact wm_mask (L' := [some (.ref 53), some (.int (0 : Int32))]) [true, true] rfl (hB)
theorem o_X7_tryRules {g : Gx}   {m : Mem} {t : Mem} (h : f_X7_tryRules m = some t) : MxM g 6 mi_X7_tryRules [.ref 53] m (qV t) := mx_of pn_X7 (Nat.le_of_ble_eq_true rfl) (k_X7_tryRules_E h ⟨rfl, rfl, rfl, rfl, rfl⟩)
abbrev A_X7_digits_4 (g : Gx)  (Q : Qy) (s : Int32 × Int32 × Mem) : Prop := WpM g 1 mi_X7_digits 4 [some (.ref 53), some (.int s.1), some (.int s.2.1)] [] s.2.2 (zM g mi_X7_digits Q)
abbrev P_X7_digits_4 (g : Gx)  (Q : Qy) : ((Int32 × Int32 × Mem) ⊕ (Int32 × Mem)) → Prop := pS (A_X7_digits_4 g Q) (pI Q)
noncomputable def f_X7_digits_L4  (s : Int32 × Int32 × Mem) : Option ((Int32 × Int32 × Mem) ⊕ (Int32 × Mem)) := if (gI s.2.2 1 14) ≤ s.2.1 then up (some (s.1, s.2.2)) else ck s.2.1 6 (bnd (((s.1 * (10 : Int32)) + (gI s.2.2 54 (ix s.2.1))) + (1 : Int32)) (fun y1 => bnd (s.2.1 + (1 : Int32)) (fun y2 => some (Sum.inl (y1, y2, s.2.2)))))
theorem k_X7_digits_L4 {g : Gx}  {Q : Qy} {s : Int32 × Int32 × Mem} {t : (Int32 × Int32 × Mem) ⊕ (Int32 × Mem)} (h : f_X7_digits_L4 s = some t) (hP : P_X7_digits_4 g Q t) : A_X7_digits_4 g Q s := by
  refine wp_iload_n dX7_digits_4 rfl rfl ?_
  refine wp_aload_n dX7_digits_5 rfl rfl ?_
  refine wm_getR dX7_digits_6 s_53 fk_X7_21 rfl r_53_0 rfl ?_
  refine wm_getI dX7_digits_9 s_1 fk_X7_40 rfl rfl ?_
  refine wm_icmp_ge 35 dX7_digits_12 rfl rfl h (fun h => ?_) (fun h => ?_)
  · refine wm_up h hP (fun r h hP => ?_)
    refine wp_iload_n dX7_digits_35 rfl rfl ?_
    exact wm_iret dX7_digits_36 rfl ⟨rfl, rfl⟩ h hP
  · refine wp_iload_n dX7_digits_15 rfl rfl ?_
    refine wp_bipush (10 : Int32) dX7_digits_16 ib_10 rfl ?_
    refine wp_imul dX7_digits_18 rfl ?_
    refine wp_aload_n dX7_digits_19 rfl rfl ?_
    refine wm_getR dX7_digits_20 s_53 fk_X7_9 rfl r_53_2 rfl ?_
    refine wp_iload_n dX7_digits_23 rfl rfl ?_
    refine wm_iald dX7_digits_24 s_54 rfl h (fun h => ?_)
    refine wp_iadd dX7_digits_25 rfl ?_
    refine wp_iconst (1 : Int32) dX7_digits_26 ic_1 rfl ?_
    refine wp_iadd dX7_digits_27 rfl ?_
    refine wm_nm h (fun y1 h => ?_)
    refine wp_istore_n (L' := [some (.ref 53), some (.int y1), some (.int s.2.1)]) dX7_digits_28 (by decide) rfl rfl rfl ?_
    refine wm_inc dX7_digits_29 rfl ii_1 (by decide) rfl rfl h (fun y2 h => ?_)
    refine wm_list (L' := [some (.ref 53), some (.int y1), some (.int y2)]) rfl ?_
    refine wp_goto 4 dX7_digits_32 rfl ?_
    have hB := wm_back h hP
    exact wm_mask (L' := [some (.ref 53), some (.int y1), some (.int y2)]) [true, true, true] rfl (hB)
noncomputable def f_X7_digits   (m : Mem) : Option (Int32 × Mem) := wh (f_X7_digits_L4) ((0 : Int32), (0 : Int32), m)
theorem k_X7_digits_E {g : Gx}   {Q : Qy} {m : Mem} {t : Int32 × Mem} (h : f_X7_digits m = some t) (hP : pI Q t) : WpM g 1 mi_X7_digits 0 [some (.ref 53), none, none] [] m (zM g mi_X7_digits Q) := by
  refine wp_iconst (0 : Int32) dX7_digits_0 ic_0 rfl ?_
  refine wp_istore_n (L' := [some (.ref 53), some (.int (0 : Int32)), none]) dX7_digits_1 (by decide) rfl rfl rfl ?_
  refine wp_iconst (0 : Int32) dX7_digits_2 ic_0 rfl ?_
  refine wp_istore_n (L' := [some (.ref 53), some (.int (0 : Int32)), some (.int (0 : Int32))]) dX7_digits_3 (by decide) rfl rfl rfl ?_
  have hB := wh_ok (A := A_X7_digits_4 g Q) (B := pI Q) (fun s t h hP => k_X7_digits_L4  h hP) h hP
  exact wm_mask (L' := [some (.ref 53), some (.int (0 : Int32)), some (.int (0 : Int32))]) [true, true, true] rfl (hB)
theorem o_X7_digits {g : Gx}   {m : Mem} {t : Int32 × Mem} (h : f_X7_digits m = some t) : MxM g 1 mi_X7_digits [.ref 53] m (qI t) := mx_of pn_X7 (Nat.le_of_ble_eq_true rfl) (k_X7_digits_E h ⟨rfl, rfl, rfl, rfl, rfl⟩)
noncomputable def f_X7_swap  (p1 : Int32) (p2 : Int32) (m : Mem) : Option Mem := ck p1 6 (bnd (gI m 54 (ix p1)) (fun y1 => ck p2 6 (ck p1 6 (bnd (sI m 54 (ix p1) (gI m 54 (ix p2))) (fun m2 => ck p2 6 (bnd (sI m2 54 (ix p2) y1) (fun m3 => some m3)))))))
theorem k_X7_swap_E {g : Gx}  {p1 : Int32} {p2 : Int32} {Q : Qy} {m : Mem} {t : Mem} (h : f_X7_swap p1 p2 m = some t) (hP : pV Q t) : WpM g 1 mi_X7_swap 0 [some (.ref 53), some (.int p1), some (.int p2), none] [] m (zM g mi_X7_swap Q) := by
  refine wp_aload_n dX7_swap_0 rfl rfl ?_
  refine wm_getR dX7_swap_1 s_53 fk_X7_9 rfl r_53_2 rfl ?_
  refine wp_iload_n dX7_swap_4 rfl rfl ?_
  refine wm_iald dX7_swap_5 s_54 rfl h (fun h => ?_)
  refine wm_nm h (fun y1 h => ?_)
  refine wp_istore_n (L' := [some (.ref 53), some (.int p1), some (.int p2), some (.int y1)]) dX7_swap_6 (by decide) rfl rfl rfl ?_
  refine wp_aload_n dX7_swap_7 rfl rfl ?_
  refine wm_getR dX7_swap_8 s_53 fk_X7_9 rfl r_53_2 rfl ?_
  refine wp_iload_n dX7_swap_11 rfl rfl ?_
  refine wp_aload_n dX7_swap_12 rfl rfl ?_
  refine wm_getR dX7_swap_13 s_53 fk_X7_9 rfl r_53_2 rfl ?_
  refine wp_iload_n dX7_swap_16 rfl rfl ?_
  refine wm_iald dX7_swap_17 s_54 rfl h (fun h => ?_)
  refine wm_iast dX7_swap_18 s_54 rfl h (fun m2 h => ?_)
  refine wp_aload_n dX7_swap_19 rfl rfl ?_
  refine wm_getR dX7_swap_20 s_53 fk_X7_9 rfl r_53_2 rfl ?_
  refine wp_iload_n dX7_swap_23 rfl rfl ?_
  refine wp_iload_n dX7_swap_24 rfl rfl ?_
  refine wm_iast dX7_swap_25 s_54 rfl h (fun m3 h => ?_)
  exact wm_vret dX7_swap_26 rfl ⟨rfl, rfl⟩ h hP
theorem o_X7_swap {g : Gx}  {p1 : Int32} {p2 : Int32} {m : Mem} {t : Mem} (h : f_X7_swap p1 p2 m = some t) : MxM g 1 mi_X7_swap [.ref 53, .int p1, .int p2] m (qV t) := mx_of pn_X7 (Nat.le_of_ble_eq_true rfl) (k_X7_swap_E h ⟨rfl, rfl, rfl, rfl, rfl⟩)
abbrev A_X7_nextOrder_10 (g : Gx)  (Q : Qy) (s : Int32 × Mem) : Prop := WpM g 2 mi_X7_nextOrder 10 [some (.ref 53), some (.int s.1), none, none, none] [] s.2 (zM g mi_X7_nextOrder Q)
abbrev P_X7_nextOrder_10 (g : Gx)  (Q : Qy) : ((Int32 × Mem) ⊕ (Int32 × Mem)) → Prop := pS (A_X7_nextOrder_10 g Q) (pI Q)
abbrev A_X7_nextOrder_53 (g : Gx)  (Q : Qy) (s : Int32 × Int32 × Mem) : Prop := WpM g 2 mi_X7_nextOrder 53 [some (.ref 53), some (.int s.1), some (.int s.2.1), none, none] [] s.2.2 (zM g mi_X7_nextOrder Q)
abbrev P_X7_nextOrder_53 (g : Gx)  (Q : Qy) : ((Int32 × Int32 × Mem) ⊕ (Int32 × Mem)) → Prop := pS (A_X7_nextOrder_53 g Q) (pI Q)
abbrev A_X7_nextOrder_100 (g : Gx)  (Q : Qy) (s : Int32 × Int32 × Mem) : Prop := WpM g 2 mi_X7_nextOrder 100 [some (.ref 53), none, none, some (.int s.1), some (.int s.2.1)] [] s.2.2 (zM g mi_X7_nextOrder Q)
abbrev P_X7_nextOrder_100 (g : Gx)  (Q : Qy) : ((Int32 × Int32 × Mem) ⊕ (Int32 × Mem)) → Prop := pS (A_X7_nextOrder_100 g Q) (pI Q)
noncomputable def f_X7_nextOrder_L100  (s : Int32 × Int32 × Mem) : Option ((Int32 × Int32 × Mem) ⊕ (Int32 × Mem)) := if s.2.1 ≤ s.1 then up (bz (1 : Int32) (some ((1 : Int32), s.2.2))) else (f_X7_swap s.1 s.2.1 s.2.2).bind (fun q6 => bnd (s.1 + (1 : Int32)) (fun y7 => bnd (s.2.1 + (-1 : Int32)) (fun y8 => some (Sum.inl (y7, y8, q6)))))
theorem k_X7_nextOrder_L100 {g : Gx}  {Q : Qy} {s : Int32 × Int32 × Mem} {t : (Int32 × Int32 × Mem) ⊕ (Int32 × Mem)} (h : f_X7_nextOrder_L100 s = some t) (hP : P_X7_nextOrder_100 g Q t) : A_X7_nextOrder_100 g Q s := by
  refine wp_iload_n dX7_nextOrder_100 rfl rfl ?_
  refine wp_iload dX7_nextOrder_101 rfl rfl ?_
  refine wm_icmp_ge 122 dX7_nextOrder_103 rfl rfl h (fun h => ?_) (fun h => ?_)
  · refine wm_up h hP (fun r h hP => ?_)
    refine wp_iconst (1 : Int32) dX7_nextOrder_122 ic_1 rfl ?_
    exact wm_zret dX7_nextOrder_123 rfl ⟨rfl, rfl⟩ h hP
  · refine wp_aload_n dX7_nextOrder_106 rfl rfl ?_
    refine wp_iload_n dX7_nextOrder_107 rfl rfl ?_
    refine wp_iload dX7_nextOrder_108 rfl rfl ?_
    refine wm_callVN (As := [.int s.1, .int s.2.1]) (rest := []) dX7_nextOrder_110 ok_X7_89 (by decide) rfl s_53 ⟨_, rfl⟩ (Nat.le_of_ble_eq_true rfl) ⟨rfl, rfl⟩ rfl (fun t h => o_X7_swap h) h (fun q6 h => ?_)
    refine wm_inc dX7_nextOrder_113 rfl ii_1 (by decide) rfl rfl h (fun y7 h => ?_)
    refine wm_list (L' := [some (.ref 53), none, none, some (.int y7), some (.int s.2.1)]) rfl ?_
    refine wm_inc dX7_nextOrder_116 rfl ii_m1 (by decide) rfl rfl h (fun y8 h => ?_)
    refine wm_list (L' := [some (.ref 53), none, none, some (.int y7), some (.int y8)]) rfl ?_
    refine wp_goto 100 dX7_nextOrder_119 rfl ?_
    have hB := wm_back h hP
    exact wm_mask (L' := [some (.ref 53), none, none, some (.int y7), some (.int y8)]) [true, false, false, true, true] rfl (hB)
noncomputable def f_X7_nextOrder_J79  (v1 : Int32) (v2 : Int32) (m : Mem) : Option (Int32 × Mem) := (f_X7_swap v1 v2 m).bind (fun q3 => bnd (v1 + (1 : Int32)) (fun y4 => bnd ((gI q3 1 14) - (1 : Int32)) (fun y5 => wh (f_X7_nextOrder_L100) (y4, y5, q3))))
theorem k_X7_nextOrder_J79 {g : Gx}  {v1 : Int32} {v2 : Int32}  {Q : Qy} {m : Mem} {t : Int32 × Mem} (h : f_X7_nextOrder_J79 v1 v2 m = some t) (hP : pI Q t) : WpM g 2 mi_X7_nextOrder 79 [some (.ref 53), some (.int v1), some (.int v2), none, none] [] m (zM g mi_X7_nextOrder Q) := by
  refine wp_aload_n dX7_nextOrder_79 rfl rfl ?_
  refine wp_iload_n dX7_nextOrder_80 rfl rfl ?_
  refine wp_iload_n dX7_nextOrder_81 rfl rfl ?_
  refine wm_callVN (As := [.int v1, .int v2]) (rest := []) dX7_nextOrder_82 ok_X7_89 (by decide) rfl s_53 ⟨_, rfl⟩ (Nat.le_of_ble_eq_true rfl) ⟨rfl, rfl⟩ rfl (fun t h => o_X7_swap h) h (fun q3 h => ?_)
  refine wp_iload_n dX7_nextOrder_85 rfl rfl ?_
  refine wp_iconst (1 : Int32) dX7_nextOrder_86 ic_1 rfl ?_
  refine wp_iadd dX7_nextOrder_87 rfl ?_
  refine wm_nm h (fun y4 h => ?_)
  refine wp_istore_n (L' := [some (.ref 53), some (.int v1), some (.int v2), some (.int y4), none]) dX7_nextOrder_88 (by decide) rfl rfl rfl ?_
  refine wp_aload_n dX7_nextOrder_89 rfl rfl ?_
  refine wm_getR dX7_nextOrder_90 s_53 fk_X7_21 rfl r_53_0 rfl ?_
  refine wm_getI dX7_nextOrder_93 s_1 fk_X7_40 rfl rfl ?_
  refine wp_iconst (1 : Int32) dX7_nextOrder_96 ic_1 rfl ?_
  refine wp_isub dX7_nextOrder_97 rfl ?_
  refine wm_nm h (fun y5 h => ?_)
  refine wp_istore (L' := [some (.ref 53), some (.int v1), some (.int v2), some (.int y4), some (.int y5)]) dX7_nextOrder_98 (by decide) rfl rfl rfl ?_
  have hB := wh_ok (A := A_X7_nextOrder_100 g Q) (B := pI Q) (fun s t h hP => k_X7_nextOrder_L100  h hP) h hP
  exact wm_mask (L' := [some (.ref 53), none, none, some (.int y4), some (.int y5)]) [true, false, false, true, true] rfl (hB)
noncomputable def f_X7_nextOrder_L53  (s : Int32 × Int32 × Mem) : Option ((Int32 × Int32 × Mem) ⊕ (Int32 × Mem)) := if s.2.1 ≤ s.1 then up (f_X7_nextOrder_J79 s.1 s.2.1 s.2.2) else ck s.2.1 6 (ck s.1 6 (if (gI s.2.2 54 (ix s.1)) ≤ (gI s.2.2 54 (ix s.2.1)) then up (f_X7_nextOrder_J79 s.1 s.2.1 s.2.2) else bnd (s.2.1 + (-1 : Int32)) (fun y9 => some (Sum.inl (s.1, y9, s.2.2)))))
theorem k_X7_nextOrder_L53 {g : Gx}  {Q : Qy} {s : Int32 × Int32 × Mem} {t : (Int32 × Int32 × Mem) ⊕ (Int32 × Mem)} (h : f_X7_nextOrder_L53 s = some t) (hP : P_X7_nextOrder_53 g Q t) : A_X7_nextOrder_53 g Q s := by
  refine wp_iload_n dX7_nextOrder_53 rfl rfl ?_
  refine wp_iload_n dX7_nextOrder_54 rfl rfl ?_
  refine wm_icmp_le 79 dX7_nextOrder_55 rfl rfl h (fun h => ?_) (fun h => ?_)
  · refine wm_up h hP (fun r h hP => ?_)
    exact wm_mask (L' := [some (.ref 53), some (.int s.1), some (.int s.2.1), none, none]) [true, true, true, false, false] rfl (k_X7_nextOrder_J79  h hP)
  · refine wp_aload_n dX7_nextOrder_58 rfl rfl ?_
    refine wm_getR dX7_nextOrder_59 s_53 fk_X7_9 rfl r_53_2 rfl ?_
    refine wp_iload_n dX7_nextOrder_62 rfl rfl ?_
    refine wm_iald dX7_nextOrder_63 s_54 rfl h (fun h => ?_)
    refine wp_aload_n dX7_nextOrder_64 rfl rfl ?_
    refine wm_getR dX7_nextOrder_65 s_53 fk_X7_9 rfl r_53_2 rfl ?_
    refine wp_iload_n dX7_nextOrder_68 rfl rfl ?_
    refine wm_iald dX7_nextOrder_69 s_54 rfl h (fun h => ?_)
    refine wm_icmp_ge 79 dX7_nextOrder_70 rfl rfl h (fun h => ?_) (fun h => ?_)
    · refine wm_up h hP (fun r h hP => ?_)
      exact wm_mask (L' := [some (.ref 53), some (.int s.1), some (.int s.2.1), none, none]) [true, true, true, false, false] rfl (k_X7_nextOrder_J79  h hP)
    · refine wm_inc dX7_nextOrder_73 rfl ii_m1 (by decide) rfl rfl h (fun y9 h => ?_)
      refine wm_list (L' := [some (.ref 53), some (.int s.1), some (.int y9), none, none]) rfl ?_
      refine wp_goto 53 dX7_nextOrder_76 rfl ?_
      have hB := wm_back h hP
      exact wm_mask (L' := [some (.ref 53), some (.int s.1), some (.int y9), none, none]) [true, true, true, false, false] rfl (hB)
noncomputable def f_X7_nextOrder_J37  (v1 : Int32) (m : Mem) : Option (Int32 × Mem) := if 0 ≤ v1 then bnd ((gI m 1 14) - (1 : Int32)) (fun y2 => wh (f_X7_nextOrder_L53) (v1, y2, m)) else bz (0 : Int32) (some ((0 : Int32), m))
theorem k_X7_nextOrder_J37 {g : Gx}  {v1 : Int32}  {Q : Qy} {m : Mem} {t : Int32 × Mem} (h : f_X7_nextOrder_J37 v1 m = some t) (hP : pI Q t) : WpM g 2 mi_X7_nextOrder 37 [some (.ref 53), some (.int v1), none, none, none] [] m (zM g mi_X7_nextOrder Q) := by
  refine wp_iload_n dX7_nextOrder_37 rfl rfl ?_
  refine wm_if_ge 43 dX7_nextOrder_38 rfl rfl h (fun h => ?_) (fun h => ?_)
  · refine wp_aload_n dX7_nextOrder_43 rfl rfl ?_
    refine wm_getR dX7_nextOrder_44 s_53 fk_X7_21 rfl r_53_0 rfl ?_
    refine wm_getI dX7_nextOrder_47 s_1 fk_X7_40 rfl rfl ?_
    refine wp_iconst (1 : Int32) dX7_nextOrder_50 ic_1 rfl ?_
    refine wp_isub dX7_nextOrder_51 rfl ?_
    refine wm_nm h (fun y2 h => ?_)
    refine wp_istore_n (L' := [some (.ref 53), some (.int v1), some (.int y2), none, none]) dX7_nextOrder_52 (by decide) rfl rfl rfl ?_
    have hB := wh_ok (A := A_X7_nextOrder_53 g Q) (B := pI Q) (fun s t h hP => k_X7_nextOrder_L53  h hP) h hP
    exact wm_mask (L' := [some (.ref 53), some (.int v1), some (.int y2), none, none]) [true, true, true, false, false] rfl (hB)
  · refine wp_iconst (0 : Int32) dX7_nextOrder_41 ic_0 rfl ?_
    exact wm_zret dX7_nextOrder_42 rfl ⟨rfl, rfl⟩ h hP
noncomputable def f_X7_nextOrder_L10  (s : Int32 × Mem) : Option ((Int32 × Mem) ⊕ (Int32 × Mem)) := if s.1 < 0 then up (f_X7_nextOrder_J37 s.1 s.2) else ck s.1 6 (ck (s.1 + (1 : Int32)) 6 (if (gI s.2 54 (ix s.1)) ≤ (gI s.2 54 (ix (s.1 + (1 : Int32)))) then up (f_X7_nextOrder_J37 s.1 s.2) else bnd (s.1 + (-1 : Int32)) (fun y10 => some (Sum.inl (y10, s.2)))))
theorem k_X7_nextOrder_L10 {g : Gx}  {Q : Qy} {s : Int32 × Mem} {t : (Int32 × Mem) ⊕ (Int32 × Mem)} (h : f_X7_nextOrder_L10 s = some t) (hP : P_X7_nextOrder_10 g Q t) : A_X7_nextOrder_10 g Q s := by
  refine wp_iload_n dX7_nextOrder_10 rfl rfl ?_
  refine wm_if_lt 37 dX7_nextOrder_11 rfl rfl h (fun h => ?_) (fun h => ?_)
  · refine wm_up h hP (fun r h hP => ?_)
    exact wm_mask (L' := [some (.ref 53), some (.int s.1), none, none, none]) [true, true, false, false, false] rfl (k_X7_nextOrder_J37  h hP)
  · refine wp_aload_n dX7_nextOrder_14 rfl rfl ?_
    refine wm_getR dX7_nextOrder_15 s_53 fk_X7_9 rfl r_53_2 rfl ?_
    refine wp_iload_n dX7_nextOrder_18 rfl rfl ?_
    refine wm_iald dX7_nextOrder_19 s_54 rfl h (fun h => ?_)
    refine wp_aload_n dX7_nextOrder_20 rfl rfl ?_
    refine wm_getR dX7_nextOrder_21 s_53 fk_X7_9 rfl r_53_2 rfl ?_
    refine wp_iload_n dX7_nextOrder_24 rfl rfl ?_
    refine wp_iconst (1 : Int32) dX7_nextOrder_25 ic_1 rfl ?_
    refine wp_iadd dX7_nextOrder_26 rfl ?_
    refine wm_iald dX7_nextOrder_27 s_54 rfl h (fun h => ?_)
    refine wm_icmp_le 37 dX7_nextOrder_28 rfl rfl h (fun h => ?_) (fun h => ?_)
    · refine wm_up h hP (fun r h hP => ?_)
      exact wm_mask (L' := [some (.ref 53), some (.int s.1), none, none, none]) [true, true, false, false, false] rfl (k_X7_nextOrder_J37  h hP)
    · refine wm_inc dX7_nextOrder_31 rfl ii_m1 (by decide) rfl rfl h (fun y10 h => ?_)
      refine wm_list (L' := [some (.ref 53), some (.int y10), none, none, none]) rfl ?_
      refine wp_goto 10 dX7_nextOrder_34 rfl ?_
      have hB := wm_back h hP
      exact wm_mask (L' := [some (.ref 53), some (.int y10), none, none, none]) [true, true, false, false, false] rfl (hB)
noncomputable def f_X7_nextOrder   (m : Mem) : Option (Int32 × Mem) := bnd ((gI m 1 14) - (2 : Int32)) (fun y1 => wh (f_X7_nextOrder_L10) (y1, m))
theorem k_X7_nextOrder_E {g : Gx}   {Q : Qy} {m : Mem} {t : Int32 × Mem} (h : f_X7_nextOrder m = some t) (hP : pI Q t) : WpM g 2 mi_X7_nextOrder 0 [some (.ref 53), none, none, none, none] [] m (zM g mi_X7_nextOrder Q) := by
  refine wp_aload_n dX7_nextOrder_0 rfl rfl ?_
  refine wm_getR dX7_nextOrder_1 s_53 fk_X7_21 rfl r_53_0 rfl ?_
  refine wm_getI dX7_nextOrder_4 s_1 fk_X7_40 rfl rfl ?_
  refine wp_iconst (2 : Int32) dX7_nextOrder_7 ic_2 rfl ?_
  refine wp_isub dX7_nextOrder_8 rfl ?_
  refine wm_nm h (fun y1 h => ?_)
  refine wp_istore_n (L' := [some (.ref 53), some (.int y1), none, none, none]) dX7_nextOrder_9 (by decide) rfl rfl rfl ?_
  have hB := wh_ok (A := A_X7_nextOrder_10 g Q) (B := pI Q) (fun s t h hP => k_X7_nextOrder_L10  h hP) h hP
  exact wm_mask (L' := [some (.ref 53), some (.int y1), none, none, none]) [true, true, false, false, false] rfl (hB)
theorem o_X7_nextOrder {g : Gx}   {m : Mem} {t : Int32 × Mem} (h : f_X7_nextOrder m = some t) : MxM g 2 mi_X7_nextOrder [.ref 53] m (qI t) := mx_of pn_X7 (Nat.le_of_ble_eq_true rfl) (k_X7_nextOrder_E h ⟨rfl, rfl, rfl, rfl, rfl⟩)
abbrev A_X7_tryOrders_4 (g : Gx)  (Q : Qy) (s : Int32 × Int32 × Mem) : Prop := WpM g 6 mi_X7_tryOrders 4 [some (.ref 53), some (.int s.1), some (.int s.2.1)] [] s.2.2 (zM g mi_X7_tryOrders Q)
abbrev P_X7_tryOrders_4 (g : Gx)  (Q : Qy) : ((Int32 × Int32 × Mem) ⊕ Mem) → Prop := pS (A_X7_tryOrders_4 g Q) (pV Q)
noncomputable def f_X7_tryOrders_L4  (s : Int32 × Int32 × Mem) : Option ((Int32 × Int32 × Mem) ⊕ Mem) := if (120 : Int32) ≤ s.2.1 then up (some s.2.2) else if s.1 = 0 then up (some s.2.2) else ck (0 : Int32) 3 (ck (2 : Int32) 3 ((f_X3_hold 57 54 (gI s.2.2 11 (ix (0 : Int32))) (gI s.2.2 11 (ix (2 : Int32))) (-1 : Int32) s.2.2).bind (fun q1 => (f_X7_digits q1).bind (fun q2 => (f_X7_compare (1 : Int32) q2.1 q2.2).bind (fun q3 => (f_X7_nextOrder q3).bind (fun q4 => bnd (s.2.1 + (1 : Int32)) (fun y5 => some (Sum.inl (q4.1, y5, q4.2)))))))))
theorem k_X7_tryOrders_L4 {g : Gx}  {Q : Qy} {s : Int32 × Int32 × Mem} {t : (Int32 × Int32 × Mem) ⊕ Mem} (h : f_X7_tryOrders_L4 s = some t) (hP : P_X7_tryOrders_4 g Q t) : A_X7_tryOrders_4 g Q s := by
  refine wp_iload_n dX7_tryOrders_4 rfl rfl ?_
  refine wp_bipush (120 : Int32) dX7_tryOrders_5 ib_120 rfl ?_
  refine wm_icmp_ge 64 dX7_tryOrders_7 rfl rfl h (fun h => ?_) (fun h => ?_)
  · refine wm_up h hP (fun r h hP => ?_)
    exact wm_vret dX7_tryOrders_64 rfl ⟨rfl, rfl⟩ h hP
  · refine wp_iload_n dX7_tryOrders_10 rfl rfl ?_
    refine wm_if_eq 64 dX7_tryOrders_11 rfl rfl h (fun h => ?_) (fun h => ?_)
    · refine wm_up h hP (fun r h hP => ?_)
      exact wm_vret dX7_tryOrders_64 rfl ⟨rfl, rfl⟩ h hP
    · refine wp_aload_n dX7_tryOrders_14 rfl rfl ?_
      refine wm_getR dX7_tryOrders_15 s_53 fk_X7_30 rfl r_53_1 rfl ?_
      refine wp_aload_n dX7_tryOrders_18 rfl rfl ?_
      refine wm_getR dX7_tryOrders_19 s_53 fk_X7_9 rfl r_53_2 rfl ?_
      refine wp_aload_n dX7_tryOrders_22 rfl rfl ?_
      refine wm_getR dX7_tryOrders_23 s_53 fk_X7_21 rfl r_53_0 rfl ?_
      refine wm_getR dX7_tryOrders_26 s_1 fk_X7_59 rfl r_1_9 rfl ?_
      refine wp_iconst (0 : Int32) dX7_tryOrders_29 ic_0 rfl ?_
      refine wm_iald dX7_tryOrders_30 s_11 rfl h (fun h => ?_)
      refine wp_aload_n dX7_tryOrders_31 rfl rfl ?_
      refine wm_getR dX7_tryOrders_32 s_53 fk_X7_21 rfl r_53_0 rfl ?_
      refine wm_getR dX7_tryOrders_35 s_1 fk_X7_59 rfl r_1_9 rfl ?_
      refine wp_iconst (2 : Int32) dX7_tryOrders_38 ic_2 rfl ?_
      refine wm_iald dX7_tryOrders_39 s_11 rfl h (fun h => ?_)
      refine wp_iconst (-1 : Int32) dX7_tryOrders_40 ic_m1 rfl ?_
      refine wm_callVN (As := [.ref 54, .int (gI s.2.2 11 (ix (0 : Int32))), .int (gI s.2.2 11 (ix (2 : Int32))), .int (-1 : Int32)]) (rest := []) dX7_tryOrders_41 ok_X7_62 (by decide) rfl (sM_0 (by unfold MA; omega)) ⟨_, rfl⟩ (Nat.le_of_ble_eq_true rfl) ⟨rfl, rfl⟩ rfl (fun t h => o_X3_hold (by unfold MA; omega) s_54 h) h (fun q1 h => ?_)
      refine wp_aload_n dX7_tryOrders_44 rfl rfl ?_
      refine wp_iconst (1 : Int32) dX7_tryOrders_45 ic_1 rfl ?_
      refine wp_aload_n dX7_tryOrders_46 rfl rfl ?_
      refine wm_callVI (As := []) (rest := [.int (1 : Int32), .ref 53]) dX7_tryOrders_47 ok_X7_70 (by decide) rfl s_53 ⟨_, rfl⟩ (Nat.le_of_ble_eq_true rfl) ⟨rfl, rfl⟩ rfl (fun t h => o_X7_digits h) h (fun q2 h => ?_)
      refine wm_callVN (As := [.int (1 : Int32), .int q2.1]) (rest := []) dX7_tryOrders_50 ok_X7_66 (by decide) rfl s_53 ⟨_, rfl⟩ (Nat.le_of_ble_eq_true rfl) ⟨rfl, rfl⟩ rfl (fun t h => o_X7_compare h) h (fun q3 h => ?_)
      refine wp_aload_n dX7_tryOrders_53 rfl rfl ?_
      refine wm_callVI (As := []) (rest := []) dX7_tryOrders_54 ok_X7_74 (by decide) rfl s_53 ⟨_, rfl⟩ (Nat.le_of_ble_eq_true rfl) ⟨rfl, rfl⟩ rfl (fun t h => o_X7_nextOrder h) h (fun q4 h => ?_)
      refine wp_istore_n (L' := [some (.ref 53), some (.int q4.1), some (.int s.2.1)]) dX7_tryOrders_57 (by decide) rfl rfl rfl ?_
      refine wm_inc dX7_tryOrders_58 rfl ii_1 (by decide) rfl rfl h (fun y5 h => ?_)
      refine wm_list (L' := [some (.ref 53), some (.int q4.1), some (.int y5)]) rfl ?_
      refine wp_goto 4 dX7_tryOrders_61 rfl ?_
      have hB := wm_back h hP
      exact wm_mask (L' := [some (.ref 53), some (.int q4.1), some (.int y5)]) [true, true, true] rfl (hB)
noncomputable def f_X7_tryOrders   (m : Mem) : Option Mem := wh (f_X7_tryOrders_L4) ((1 : Int32), (0 : Int32), m)
theorem k_X7_tryOrders_E {g : Gx}   {Q : Qy} {m : Mem} {t : Mem} (h : f_X7_tryOrders m = some t) (hP : pV Q t) : WpM g 6 mi_X7_tryOrders 0 [some (.ref 53), none, none] [] m (zM g mi_X7_tryOrders Q) := by
  refine wp_iconst (1 : Int32) dX7_tryOrders_0 ic_1 rfl ?_
  refine wp_istore_n (L' := [some (.ref 53), some (.int (1 : Int32)), none]) dX7_tryOrders_1 (by decide) rfl rfl rfl ?_
  refine wp_iconst (0 : Int32) dX7_tryOrders_2 ic_0 rfl ?_
  refine wp_istore_n (L' := [some (.ref 53), some (.int (1 : Int32)), some (.int (0 : Int32))]) dX7_tryOrders_3 (by decide) rfl rfl rfl ?_
  have hB := wh_ok (A := A_X7_tryOrders_4 g Q) (B := pV Q) (fun s t h hP => k_X7_tryOrders_L4  h hP) h hP
  exact wm_mask (L' := [some (.ref 53), some (.int (1 : Int32)), some (.int (0 : Int32))]) [true, true, true] rfl (hB)
theorem o_X7_tryOrders {g : Gx}   {m : Mem} {t : Mem} (h : f_X7_tryOrders m = some t) : MxM g 6 mi_X7_tryOrders [.ref 53] m (qV t) := mx_of pn_X7 (Nat.le_of_ble_eq_true rfl) (k_X7_tryOrders_E h ⟨rfl, rfl, rfl, rfl, rfl⟩)
abbrev A_X7_tryTimers_2 (g : Gx)  (Q : Qy) (s : Int32 × Mem) : Prop := WpM g 6 mi_X7_tryTimers 2 [some (.ref 53), some (.int s.1)] [] s.2 (zM g mi_X7_tryTimers Q)
abbrev P_X7_tryTimers_2 (g : Gx)  (Q : Qy) : ((Int32 × Mem) ⊕ Mem) → Prop := pS (A_X7_tryTimers_2 g Q) (pV Q)
noncomputable def f_X7_tryTimers_L2  (s : Int32 × Mem) : Option ((Int32 × Mem) ⊕ Mem) := if (9 : Int32) < s.1 then up (some s.2) else ck (0 : Int32) 3 ((f_X3_hold 57 54 (gI s.2 11 (ix (0 : Int32))) s.1 (-1 : Int32) s.2).bind (fun q1 => (f_X7_compare (2 : Int32) s.1 q1).bind (fun q2 => bnd (s.1 + (1 : Int32)) (fun y3 => some (Sum.inl (y3, q2))))))
theorem k_X7_tryTimers_L2 {g : Gx}  {Q : Qy} {s : Int32 × Mem} {t : (Int32 × Mem) ⊕ Mem} (h : f_X7_tryTimers_L2 s = some t) (hP : P_X7_tryTimers_2 g Q t) : A_X7_tryTimers_2 g Q s := by
  refine wp_iload_n dX7_tryTimers_2 rfl rfl ?_
  refine wp_bipush (9 : Int32) dX7_tryTimers_3 ib_9 rfl ?_
  refine wm_icmp_gt 42 dX7_tryTimers_5 rfl rfl h (fun h => ?_) (fun h => ?_)
  · refine wm_up h hP (fun r h hP => ?_)
    exact wm_vret dX7_tryTimers_42 rfl ⟨rfl, rfl⟩ h hP
  · refine wp_aload_n dX7_tryTimers_8 rfl rfl ?_
    refine wm_getR dX7_tryTimers_9 s_53 fk_X7_30 rfl r_53_1 rfl ?_
    refine wp_aload_n dX7_tryTimers_12 rfl rfl ?_
    refine wm_getR dX7_tryTimers_13 s_53 fk_X7_9 rfl r_53_2 rfl ?_
    refine wp_aload_n dX7_tryTimers_16 rfl rfl ?_
    refine wm_getR dX7_tryTimers_17 s_53 fk_X7_21 rfl r_53_0 rfl ?_
    refine wm_getR dX7_tryTimers_20 s_1 fk_X7_59 rfl r_1_9 rfl ?_
    refine wp_iconst (0 : Int32) dX7_tryTimers_23 ic_0 rfl ?_
    refine wm_iald dX7_tryTimers_24 s_11 rfl h (fun h => ?_)
    refine wp_iload_n dX7_tryTimers_25 rfl rfl ?_
    refine wp_iconst (-1 : Int32) dX7_tryTimers_26 ic_m1 rfl ?_
    refine wm_callVN (As := [.ref 54, .int (gI s.2 11 (ix (0 : Int32))), .int s.1, .int (-1 : Int32)]) (rest := []) dX7_tryTimers_27 ok_X7_62 (by decide) rfl (sM_0 (by unfold MA; omega)) ⟨_, rfl⟩ (Nat.le_of_ble_eq_true rfl) ⟨rfl, rfl⟩ rfl (fun t h => o_X3_hold (by unfold MA; omega) s_54 h) h (fun q1 h => ?_)
    refine wp_aload_n dX7_tryTimers_30 rfl rfl ?_
    refine wp_iconst (2 : Int32) dX7_tryTimers_31 ic_2 rfl ?_
    refine wp_iload_n dX7_tryTimers_32 rfl rfl ?_
    refine wm_callVN (As := [.int (2 : Int32), .int s.1]) (rest := []) dX7_tryTimers_33 ok_X7_66 (by decide) rfl s_53 ⟨_, rfl⟩ (Nat.le_of_ble_eq_true rfl) ⟨rfl, rfl⟩ rfl (fun t h => o_X7_compare h) h (fun q2 h => ?_)
    refine wm_inc dX7_tryTimers_36 rfl ii_1 (by decide) rfl rfl h (fun y3 h => ?_)
    refine wm_list (L' := [some (.ref 53), some (.int y3)]) rfl ?_
    refine wp_goto 2 dX7_tryTimers_39 rfl ?_
    have hB := wm_back h hP
    exact wm_mask (L' := [some (.ref 53), some (.int y3)]) [true, true] rfl (hB)
noncomputable def f_X7_tryTimers   (m : Mem) : Option Mem := wh (f_X7_tryTimers_L2) ((1 : Int32), m)
theorem k_X7_tryTimers_E {g : Gx}   {Q : Qy} {m : Mem} {t : Mem} (h : f_X7_tryTimers m = some t) (hP : pV Q t) : WpM g 6 mi_X7_tryTimers 0 [some (.ref 53), none] [] m (zM g mi_X7_tryTimers Q) := by
  refine wp_iconst (1 : Int32) dX7_tryTimers_0 ic_1 rfl ?_
  refine wp_istore_n (L' := [some (.ref 53), some (.int (1 : Int32))]) dX7_tryTimers_1 (by decide) rfl rfl rfl ?_
  have hB := wh_ok (A := A_X7_tryTimers_2 g Q) (B := pV Q) (fun s t h hP => k_X7_tryTimers_L2  h hP) h hP
  exact wm_mask (L' := [some (.ref 53), some (.int (1 : Int32))]) [true, true] rfl (hB)
theorem o_X7_tryTimers {g : Gx}   {m : Mem} {t : Mem} (h : f_X7_tryTimers m = some t) : MxM g 6 mi_X7_tryTimers [.ref 53] m (qV t) := mx_of pn_X7 (Nat.le_of_ble_eq_true rfl) (k_X7_tryTimers_E h ⟨rfl, rfl, rfl, rfl, rfl⟩)
