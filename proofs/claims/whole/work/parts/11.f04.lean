noncomputable def f_X7_answer_J131  (v1 : Int32) (v2 : Int32) (m : Mem) : Option (Int32 × Mem) := ck ((v1 * (3 : Int32)) + v2) 9 (some ((gI m 55 (ix ((v1 * (3 : Int32)) + v2))), m))
theorem k_X7_answer_J131 {g : Gx}  {v1 : Int32} {v2 : Int32}  {Q : Qy} {m : Mem} {t : Int32 × Mem} (h : f_X7_answer_J131 v1 v2 m = some t) (hP : pI Q t) : WpM g 7 mi_X7_answer 131 [some (.ref 53), some (.int v1), some (.int v2)] [] m (zM g mi_X7_answer Q) := by
  refine wp_aload_n dX7_answer_131 rfl rfl ?_
  refine wm_getR dX7_answer_132 s_53 fk_X7_15 rfl r_53_3 rfl ?_
  refine wp_iload_n dX7_answer_135 rfl rfl ?_
  refine wp_iconst (3 : Int32) dX7_answer_136 ic_3 rfl ?_
  refine wp_imul dX7_answer_137 rfl ?_
  refine wp_iload_n dX7_answer_138 rfl rfl ?_
  refine wp_iadd dX7_answer_139 rfl ?_
  refine wm_iald dX7_answer_140 s_55 rfl h (fun h => ?_)
  exact wm_iret dX7_answer_141 rfl ⟨rfl, rfl⟩ h hP
noncomputable def f_X7_answer_J118  (v1 : Int32) (v2 : Int32) (m : Mem) : Option (Int32 × Mem) := ck v1 3 (bnd (sI m 56 (ix v1) (gI m 1 16)) (fun m5 => f_X7_answer_J131 v1 v2 m5))
theorem k_X7_answer_J118 {g : Gx}  {v1 : Int32} {v2 : Int32}  {Q : Qy} {m : Mem} {t : Int32 × Mem} (h : f_X7_answer_J118 v1 v2 m = some t) (hP : pI Q t) : WpM g 7 mi_X7_answer 118 [some (.ref 53), some (.int v1), some (.int v2)] [] m (zM g mi_X7_answer Q) := by
  refine wp_aload_n dX7_answer_118 rfl rfl ?_
  refine wm_getR dX7_answer_119 s_53 fk_X7_18 rfl r_53_4 rfl ?_
  refine wp_iload_n dX7_answer_122 rfl rfl ?_
  refine wp_aload_n dX7_answer_123 rfl rfl ?_
  refine wm_getR dX7_answer_124 s_53 fk_X7_21 rfl r_53_0 rfl ?_
  refine wm_getI dX7_answer_127 s_1 fk_X7_44 rfl rfl ?_
  refine wm_iast dX7_answer_130 s_56 rfl h (fun m5 h => ?_)
  exact wm_mask (L' := [some (.ref 53), some (.int v1), some (.int v2)]) [true, true, true] rfl (k_X7_answer_J131  h hP)
noncomputable def f_X7_answer_J40  (v1 : Int32) (v2 : Int32) (m : Mem) : Option (Int32 × Mem) := ck v1 3 (if (gI m 56 (ix v1)) = (gI m 1 16) then f_X7_answer_J131 v1 v2 m else ck (v1 * (3 : Int32)) 9 (bnd (sI m 55 (ix (v1 * (3 : Int32))) (-2 : Int32)) (fun m2 => (f_X8_asTheyCame 54 m2).bind (fun q3 => sw v1 [((0 : Int32), (f_X7_tryRules q3).bind (fun q4 => f_X7_answer_J118 v1 v2 q4)), ((1 : Int32), (f_X7_tryOrders q3).bind (fun q6 => f_X7_answer_J118 v1 v2 q6))] ((f_X7_tryTimers q3).bind (fun q7 => f_X7_answer_J118 v1 v2 q7))))))
theorem k_X7_answer_J40 {g : Gx}  {v1 : Int32} {v2 : Int32}  {Q : Qy} {m : Mem} {t : Int32 × Mem} (h : f_X7_answer_J40 v1 v2 m = some t) (hP : pI Q t) : WpM g 7 mi_X7_answer 40 [some (.ref 53), some (.int v1), some (.int v2)] [] m (zM g mi_X7_answer Q) := by
  refine wp_aload_n dX7_answer_40 rfl rfl ?_
  refine wm_getR dX7_answer_41 s_53 fk_X7_18 rfl r_53_4 rfl ?_
  refine wp_iload_n dX7_answer_44 rfl rfl ?_
  refine wm_iald dX7_answer_45 s_56 rfl h (fun h => ?_)
  refine wp_aload_n dX7_answer_46 rfl rfl ?_
  refine wm_getR dX7_answer_47 s_53 fk_X7_21 rfl r_53_0 rfl ?_
  refine wm_getI dX7_answer_50 s_1 fk_X7_44 rfl rfl ?_
  refine wm_icmp_eq 131 dX7_answer_53 rfl rfl h (fun h => ?_) (fun h => ?_)
  · exact wm_mask (L' := [some (.ref 53), some (.int v1), some (.int v2)]) [true, true, true] rfl (k_X7_answer_J131  h hP)
  · refine wp_aload_n dX7_answer_56 rfl rfl ?_
    refine wm_getR dX7_answer_57 s_53 fk_X7_15 rfl r_53_3 rfl ?_
    refine wp_iload_n dX7_answer_60 rfl rfl ?_
    refine wp_iconst (3 : Int32) dX7_answer_61 ic_3 rfl ?_
    refine wp_imul dX7_answer_62 rfl ?_
    refine wp_bipush (-2 : Int32) dX7_answer_63 ib_m2 rfl ?_
    refine wm_iast dX7_answer_65 s_55 rfl h (fun m2 h => ?_)
    refine wp_aload_n dX7_answer_66 rfl rfl ?_
    refine wm_getR dX7_answer_67 s_53 fk_X7_9 rfl r_53_2 rfl ?_
    refine wm_callSNN (As := [.ref 54]) (rest := []) dX7_answer_70 ok_X7_46 (by decide) rfl (Nat.le_of_ble_eq_true rfl) ⟨rfl, rfl⟩ rfl (fun t h => o_X8_asTheyCame s_54 h) h (fun q3 h => ?_)
    refine wp_iload_n dX7_answer_73 rfl rfl ?_
    refine wm_lsw [((0 : Int32), 100), ((1 : Int32), 107)] 114 dX7_answer_74 (by decide +kernel) rfl (by decide +kernel) (lsw_off (by decide +kernel)) (by decide +kernel) h rfl ⟨fun h => ?_, fun h => ?_, trivial⟩ (fun h => ?_)
    · refine wp_aload_n dX7_answer_100 rfl rfl ?_
      refine wm_callVN (As := []) (rest := []) dX7_answer_101 ok_X7_50 (by decide) rfl s_53 ⟨_, rfl⟩ (Nat.le_of_ble_eq_true rfl) ⟨rfl, rfl⟩ rfl (fun t h => o_X7_tryRules h) h (fun q4 h => ?_)
      refine wp_goto 118 dX7_answer_104 rfl ?_
      exact wm_mask (L' := [some (.ref 53), some (.int v1), some (.int v2)]) [true, true, true] rfl (k_X7_answer_J118  h hP)
    · refine wp_aload_n dX7_answer_107 rfl rfl ?_
      refine wm_callVN (As := []) (rest := []) dX7_answer_108 ok_X7_53 (by decide) rfl s_53 ⟨_, rfl⟩ (Nat.le_of_ble_eq_true rfl) ⟨rfl, rfl⟩ rfl (fun t h => o_X7_tryOrders h) h (fun q6 h => ?_)
      refine wp_goto 118 dX7_answer_111 rfl ?_
      exact wm_mask (L' := [some (.ref 53), some (.int v1), some (.int v2)]) [true, true, true] rfl (k_X7_answer_J118  h hP)
    · refine wp_aload_n dX7_answer_114 rfl rfl ?_
      refine wm_callVN (As := []) (rest := []) dX7_answer_115 ok_X7_56 (by decide) rfl s_53 ⟨_, rfl⟩ (Nat.le_of_ble_eq_true rfl) ⟨rfl, rfl⟩ rfl (fun t h => o_X7_tryTimers h) h (fun q7 h => ?_)
      exact wm_mask (L' := [some (.ref 53), some (.int v1), some (.int v2)]) [true, true, true] rfl (k_X7_answer_J118  h hP)
noncomputable def f_X7_answer  (p1 : Int32) (p2 : Int32) (m : Mem) : Option (Int32 × Mem) := if p2 < 0 then some ((-1 : Int32), m) else if p2 < (3 : Int32) then (f_X6_isBare m).bind (fun q1 => if ¬ q1.1 = 0 then some ((-5 : Int32), q1.2) else if ¬ p1 = (1 : Int32) then f_X7_answer_J40 p1 p2 q1.2 else if (gI q1.2 1 14) ≤ (5 : Int32) then f_X7_answer_J40 p1 p2 q1.2 else some ((-5 : Int32), q1.2)) else some ((-1 : Int32), m)
theorem k_X7_answer_E {g : Gx}  {p1 : Int32} {p2 : Int32} {Q : Qy} {m : Mem} {t : Int32 × Mem} (h : f_X7_answer p1 p2 m = some t) (hP : pI Q t) : WpM g 7 mi_X7_answer 0 [some (.ref 53), some (.int p1), some (.int p2)] [] m (zM g mi_X7_answer Q) := by
  refine wp_iload_n dX7_answer_0 rfl rfl ?_
  refine wm_if_lt 9 dX7_answer_1 rfl rfl h (fun h => ?_) (fun h => ?_)
  · refine wp_iconst (-1 : Int32) dX7_answer_9 ic_m1 rfl ?_
    exact wm_iret dX7_answer_10 rfl ⟨rfl, rfl⟩ h hP
  · refine wp_iload_n dX7_answer_4 rfl rfl ?_
    refine wp_iconst (3 : Int32) dX7_answer_5 ic_3 rfl ?_
    refine wm_icmp_lt 11 dX7_answer_6 rfl rfl h (fun h => ?_) (fun h => ?_)
    · refine wp_aload_n dX7_answer_11 rfl rfl ?_
      refine wm_getR dX7_answer_12 s_53 fk_X7_21 rfl r_53_0 rfl ?_
      refine wm_callVI (As := []) (rest := []) dX7_answer_15 ok_X7_34 (by decide) rfl s_1 ⟨_, rfl⟩ (Nat.le_of_ble_eq_true rfl) ⟨rfl, rfl⟩ rfl (fun t h => o_X6_isBare h) h (fun q1 h => ?_)
      refine wm_if_ne 37 dX7_answer_18 rfl rfl h (fun h => ?_) (fun h => ?_)
      · refine wp_bipush (-5 : Int32) dX7_answer_37 ib_m5 rfl ?_
        exact wm_iret dX7_answer_39 rfl ⟨rfl, rfl⟩ h hP
      · refine wp_iload_n dX7_answer_21 rfl rfl ?_
        refine wp_iconst (1 : Int32) dX7_answer_22 ic_1 rfl ?_
        refine wm_icmp_ne 40 dX7_answer_23 rfl rfl h (fun h => ?_) (fun h => ?_)
        · exact wm_mask (L' := [some (.ref 53), some (.int p1), some (.int p2)]) [true, true, true] rfl (k_X7_answer_J40  h hP)
        · refine wp_aload_n dX7_answer_26 rfl rfl ?_
          refine wm_getR dX7_answer_27 s_53 fk_X7_21 rfl r_53_0 rfl ?_
          refine wm_getI dX7_answer_30 s_1 fk_X7_40 rfl rfl ?_
          refine wp_iconst (5 : Int32) dX7_answer_33 ic_5 rfl ?_
          refine wm_icmp_le 40 dX7_answer_34 rfl rfl h (fun h => ?_) (fun h => ?_)
          · exact wm_mask (L' := [some (.ref 53), some (.int p1), some (.int p2)]) [true, true, true] rfl (k_X7_answer_J40  h hP)
          · refine wp_bipush (-5 : Int32) dX7_answer_37 ib_m5 rfl ?_
            exact wm_iret dX7_answer_39 rfl ⟨rfl, rfl⟩ h hP
    · refine wp_iconst (-1 : Int32) dX7_answer_9 ic_m1 rfl ?_
      exact wm_iret dX7_answer_10 rfl ⟨rfl, rfl⟩ h hP
theorem o_X7_answer {g : Gx}  {p1 : Int32} {p2 : Int32} {m : Mem} {t : Int32 × Mem} (h : f_X7_answer p1 p2 m = some t) : MxM g 7 mi_X7_answer [.ref 53, .int p1, .int p2] m (qI t) := mx_of pn_X7 (Nat.le_of_ble_eq_true rfl) (k_X7_answer_E h ⟨rfl, rfl, rfl, rfl, rfl⟩)
abbrev A_X7_isShown_18 (g : Gx) (sf : Nat) (Q : Qy) (s : Int32 × Mem) : Prop := WpM g 1 mi_X7_isShown 18 [some (.ref 53), some (.ref sf), some (.int s.1)] [] s.2 (zM g mi_X7_isShown Q)
abbrev P_X7_isShown_18 (g : Gx) (sf : Nat) (Q : Qy) : ((Int32 × Mem) ⊕ (Int32 × Mem)) → Prop := pS (A_X7_isShown_18 g sf Q) (pI Q)
noncomputable def f_X7_isShown_L18 (sf : Nat) (s : Int32 × Mem) : Option ((Int32 × Mem) ⊕ (Int32 × Mem)) := if (gI s.2 sf 2) ≤ s.1 then up (bz (1 : Int32) (some ((1 : Int32), s.2))) else ck s.1 60 (ck ((s.1 * (7 : Int32)) + (0 : Int32)) 1400 (if (lg_cmp (gJ s.2 (sf + 1) (ix s.1)) (gI s.2 (57 + 1) (ix ((s.1 * (7 : Int32)) + (0 : Int32)))).toInt64) = 0 then bnd (s.1 + (1 : Int32)) (fun y1 => some (Sum.inl (y1, s.2))) else up (bz (0 : Int32) (some ((0 : Int32), s.2)))))
theorem k_X7_isShown_L18 {g : Gx} {sf : Nat} (hsf : SA sf) {Q : Qy} {s : Int32 × Mem} {t : (Int32 × Mem) ⊕ (Int32 × Mem)} (h : f_X7_isShown_L18 sf s = some t) (hP : P_X7_isShown_18 g sf Q t) : A_X7_isShown_18 g sf Q s := by
  refine wp_iload_n dX7_isShown_18 rfl rfl ?_
  refine wp_aload_n dX7_isShown_19 rfl rfl ?_
  refine wm_getI dX7_isShown_20 (sS_0 hsf) fk_X7_99 rfl rfl ?_
  refine wm_icmp_ge 59 dX7_isShown_23 rfl rfl h (fun h => ?_) (fun h => ?_)
  · refine wm_up h hP (fun r h hP => ?_)
    refine wp_iconst (1 : Int32) dX7_isShown_59 ic_1 rfl ?_
    exact wm_zret dX7_isShown_60 rfl ⟨rfl, rfl⟩ h hP
  · refine wp_aload_n dX7_isShown_26 rfl rfl ?_
    refine wm_getR dX7_isShown_27 (sS_0 hsf) fk_X7_104 rfl (rS_3 hsf) rfl ?_
    refine wp_iload_n dX7_isShown_30 rfl rfl ?_
    refine wm_lald dX7_isShown_31 (sS_1 hsf) rfl h (fun h => ?_)
    refine wp_aload_n dX7_isShown_32 rfl rfl ?_
    refine wm_getR dX7_isShown_33 s_53 fk_X7_30 rfl r_53_1 rfl ?_
    refine wm_getR dX7_isShown_36 (sM_0 (by unfold MA; omega)) fk_X7_108 rfl (rM_0 (by unfold MA; omega)) rfl ?_
    refine wp_iload_n dX7_isShown_39 rfl rfl ?_
    refine wp_bipush (7 : Int32) dX7_isShown_40 ib_7 rfl ?_
    refine wp_imul dX7_isShown_42 rfl ?_
    refine wp_iconst (0 : Int32) dX7_isShown_43 ic_0 rfl ?_
    refine wp_iadd dX7_isShown_44 rfl ?_
    refine wm_iald dX7_isShown_45 (sM_1 (by unfold MA; omega)) rfl h (fun h => ?_)
    refine wp_i2l dX7_isShown_46 rfl ?_
    refine wp_lcmp dX7_isShown_47 rfl ?_
    refine wm_if_eq 53 dX7_isShown_48 rfl rfl h (fun h => ?_) (fun h => ?_)
    · refine wm_inc dX7_isShown_53 rfl ii_1 (by decide) rfl rfl h (fun y1 h => ?_)
      refine wm_list (L' := [some (.ref 53), some (.ref sf), some (.int y1)]) rfl ?_
      refine wp_goto 18 dX7_isShown_56 rfl ?_
      have hB := wm_back h hP
      exact wm_mask (L' := [some (.ref 53), some (.ref sf), some (.int y1)]) [true, true, true] rfl (hB)
    · refine wm_up h hP (fun r h hP => ?_)
      refine wp_iconst (0 : Int32) dX7_isShown_51 ic_0 rfl ?_
      exact wm_zret dX7_isShown_52 rfl ⟨rfl, rfl⟩ h hP
noncomputable def f_X7_isShown (sf : Nat)  (m : Mem) : Option (Int32 × Mem) := if (gI m sf 2) ≤ (gI m 57 7) then wh (f_X7_isShown_L18 sf) ((0 : Int32), m) else bz (0 : Int32) (some ((0 : Int32), m))
theorem k_X7_isShown_E {g : Gx} {sf : Nat} (hsf : SA sf)  {Q : Qy} {m : Mem} {t : Int32 × Mem} (h : f_X7_isShown sf m = some t) (hP : pI Q t) : WpM g 1 mi_X7_isShown 0 [some (.ref 53), some (.ref sf), none] [] m (zM g mi_X7_isShown Q) := by
  refine wp_aload_n dX7_isShown_0 rfl rfl ?_
  refine wm_getR dX7_isShown_1 s_53 fk_X7_30 rfl r_53_1 rfl ?_
  refine wm_getI dX7_isShown_4 (sM_0 (by unfold MA; omega)) fk_X7_96 rfl rfl ?_
  refine wp_aload_n dX7_isShown_7 rfl rfl ?_
  refine wm_getI dX7_isShown_8 (sS_0 hsf) fk_X7_99 rfl rfl ?_
  refine wm_icmp_ge 16 dX7_isShown_11 rfl rfl h (fun h => ?_) (fun h => ?_)
  · refine wp_iconst (0 : Int32) dX7_isShown_16 ic_0 rfl ?_
    refine wp_istore_n (L' := [some (.ref 53), some (.ref sf), some (.int (0 : Int32))]) dX7_isShown_17 (by decide) rfl rfl rfl ?_
    have hB := wh_ok (A := A_X7_isShown_18 g sf Q) (B := pI Q) (fun s t h hP => k_X7_isShown_L18 hsf h hP) h hP
    exact wm_mask (L' := [some (.ref 53), some (.ref sf), some (.int (0 : Int32))]) [true, true, true] rfl (hB)
  · refine wp_iconst (0 : Int32) dX7_isShown_14 ic_0 rfl ?_
    exact wm_zret dX7_isShown_15 rfl ⟨rfl, rfl⟩ h hP
theorem o_X7_isShown {g : Gx} {sf : Nat} (hsf : SA sf)  {m : Mem} {t : Int32 × Mem} (h : f_X7_isShown sf m = some t) : MxM g 1 mi_X7_isShown [.ref 53, .ref sf] m (qI t) := mx_of pn_X7 (Nat.le_of_ble_eq_true rfl) (k_X7_isShown_E hsf h ⟨rfl, rfl, rfl, rfl, rfl⟩)
abbrev A_X7_rulesOf_11 (g : Gx) (sf : Nat) (Q : Qy) (s : Int32 × Int32 × Mem) : Prop := WpM g 6 mi_X7_rulesOf 11 [some (.ref 53), some (.ref sf), some (.int s.1), some (.int s.2.1)] [] s.2.2 (zM g mi_X7_rulesOf Q)
abbrev P_X7_rulesOf_11 (g : Gx) (sf : Nat) (Q : Qy) : ((Int32 × Int32 × Mem) ⊕ (Int32 × Mem)) → Prop := pS (A_X7_rulesOf_11 g sf Q) (pI Q)
noncomputable def f_X7_rulesOf_L11 (sf : Nat) (s : Int32 × Int32 × Mem) : Option ((Int32 × Int32 × Mem) ⊕ (Int32 × Mem)) := if (6 : Int32) ≤ s.2.1 then up (some (s.1, s.2.2)) else ck (2 : Int32) 3 ((f_X3_hold 57 54 s.2.1 (gI s.2.2 11 (ix (2 : Int32))) (-1 : Int32) s.2.2).bind (fun q2 => (f_X7_isShown sf q2).bind (fun q3 => if q3.1 = 0 then bnd (s.1 ||| (0 : Int32)) (fun y4 => bnd (s.2.1 + (1 : Int32)) (fun y5 => some (Sum.inl (y4, y5, q3.2)))) else bnd (s.1 ||| ((1 : Int32) <<< (s.2.1 &&& 31))) (fun y6 => bnd (s.2.1 + (1 : Int32)) (fun y7 => some (Sum.inl (y6, y7, q3.2)))))))
theorem k_X7_rulesOf_L11 {g : Gx} {sf : Nat} (hsf : SA sf) {Q : Qy} {s : Int32 × Int32 × Mem} {t : (Int32 × Int32 × Mem) ⊕ (Int32 × Mem)} (h : f_X7_rulesOf_L11 sf s = some t) (hP : P_X7_rulesOf_11 g sf Q t) : A_X7_rulesOf_11 g sf Q s := by
  refine wp_iload_n dX7_rulesOf_11 rfl rfl ?_
  refine wp_bipush (6 : Int32) dX7_rulesOf_12 ib_6 rfl ?_
  refine wm_icmp_ge 63 dX7_rulesOf_14 rfl rfl h (fun h => ?_) (fun h => ?_)
  · refine wm_up h hP (fun r h hP => ?_)
    refine wp_iload_n dX7_rulesOf_63 rfl rfl ?_
    exact wm_iret dX7_rulesOf_64 rfl ⟨rfl, rfl⟩ h hP
  · refine wp_aload_n dX7_rulesOf_17 rfl rfl ?_
    refine wm_getR dX7_rulesOf_18 s_53 fk_X7_30 rfl r_53_1 rfl ?_
    refine wp_aload_n dX7_rulesOf_21 rfl rfl ?_
    refine wm_getR dX7_rulesOf_22 s_53 fk_X7_9 rfl r_53_2 rfl ?_
    refine wp_iload_n dX7_rulesOf_25 rfl rfl ?_
    refine wp_aload_n dX7_rulesOf_26 rfl rfl ?_
    refine wm_getR dX7_rulesOf_27 s_53 fk_X7_21 rfl r_53_0 rfl ?_
    refine wm_getR dX7_rulesOf_30 s_1 fk_X7_59 rfl r_1_9 rfl ?_
    refine wp_iconst (2 : Int32) dX7_rulesOf_33 ic_2 rfl ?_
    refine wm_iald dX7_rulesOf_34 s_11 rfl h (fun h => ?_)
    refine wp_iconst (-1 : Int32) dX7_rulesOf_35 ic_m1 rfl ?_
    refine wm_callVN (As := [.ref 54, .int s.2.1, .int (gI s.2.2 11 (ix (2 : Int32))), .int (-1 : Int32)]) (rest := []) dX7_rulesOf_36 ok_X7_62 (by decide) rfl (sM_0 (by unfold MA; omega)) ⟨_, rfl⟩ (Nat.le_of_ble_eq_true rfl) ⟨rfl, rfl⟩ rfl (fun t h => o_X3_hold (by unfold MA; omega) s_54 h) h (fun q2 h => ?_)
    refine wp_iload_n dX7_rulesOf_39 rfl rfl ?_
    refine wp_aload_n dX7_rulesOf_40 rfl rfl ?_
    refine wp_aload_n dX7_rulesOf_41 rfl rfl ?_
    refine wm_callVI (As := [.ref sf]) (rest := [.int s.1]) dX7_rulesOf_42 ok_X7_92 (by decide) rfl s_53 ⟨_, rfl⟩ (Nat.le_of_ble_eq_true rfl) ⟨rfl, rfl⟩ rfl (fun t h => o_X7_isShown hsf h) h (fun q3 h => ?_)
    refine wm_if_eq 54 dX7_rulesOf_45 rfl rfl h (fun h => ?_) (fun h => ?_)
    · refine wp_iconst (0 : Int32) dX7_rulesOf_54 ic_0 rfl ?_
      refine wp_ior dX7_rulesOf_55 rfl ?_
      refine wm_nm h (fun y4 h => ?_)
      refine wp_istore_n (L' := [some (.ref 53), some (.ref sf), some (.int y4), some (.int s.2.1)]) dX7_rulesOf_56 (by decide) rfl rfl rfl ?_
      refine wm_inc dX7_rulesOf_57 rfl ii_1 (by decide) rfl rfl h (fun y5 h => ?_)
      refine wm_list (L' := [some (.ref 53), some (.ref sf), some (.int y4), some (.int y5)]) rfl ?_
      refine wp_goto 11 dX7_rulesOf_60 rfl ?_
      have hB := wm_back h hP
      exact wm_mask (L' := [some (.ref 53), some (.ref sf), some (.int y4), some (.int y5)]) [true, true, true, true] rfl (hB)
    · refine wp_iconst (1 : Int32) dX7_rulesOf_48 ic_1 rfl ?_
      refine wp_iload_n dX7_rulesOf_49 rfl rfl ?_
      refine wp_ishl dX7_rulesOf_50 rfl ?_
      refine wp_goto 55 dX7_rulesOf_51 rfl ?_
      refine wp_ior dX7_rulesOf_55 rfl ?_
      refine wm_nm h (fun y6 h => ?_)
      refine wp_istore_n (L' := [some (.ref 53), some (.ref sf), some (.int y6), some (.int s.2.1)]) dX7_rulesOf_56 (by decide) rfl rfl rfl ?_
      refine wm_inc dX7_rulesOf_57 rfl ii_1 (by decide) rfl rfl h (fun y7 h => ?_)
      refine wm_list (L' := [some (.ref 53), some (.ref sf), some (.int y6), some (.int y7)]) rfl ?_
      refine wp_goto 11 dX7_rulesOf_60 rfl ?_
      have hB := wm_back h hP
      exact wm_mask (L' := [some (.ref 53), some (.ref sf), some (.int y6), some (.int y7)]) [true, true, true, true] rfl (hB)
noncomputable def f_X7_rulesOf (sf : Nat)  (m : Mem) : Option (Int32 × Mem) := (f_X8_asTheyCame 54 m).bind (fun q1 => wh (f_X7_rulesOf_L11 sf) ((0 : Int32), (0 : Int32), q1))
theorem k_X7_rulesOf_E {g : Gx} {sf : Nat} (hsf : SA sf)  {Q : Qy} {m : Mem} {t : Int32 × Mem} (h : f_X7_rulesOf sf m = some t) (hP : pI Q t) : WpM g 6 mi_X7_rulesOf 0 [some (.ref 53), some (.ref sf), none, none] [] m (zM g mi_X7_rulesOf Q) := by
  refine wp_iconst (0 : Int32) dX7_rulesOf_0 ic_0 rfl ?_
  refine wp_istore_n (L' := [some (.ref 53), some (.ref sf), some (.int (0 : Int32)), none]) dX7_rulesOf_1 (by decide) rfl rfl rfl ?_
  refine wp_aload_n dX7_rulesOf_2 rfl rfl ?_
  refine wm_getR dX7_rulesOf_3 s_53 fk_X7_9 rfl r_53_2 rfl ?_
  refine wm_callSNN (As := [.ref 54]) (rest := []) dX7_rulesOf_6 ok_X7_46 (by decide) rfl (Nat.le_of_ble_eq_true rfl) ⟨rfl, rfl⟩ rfl (fun t h => o_X8_asTheyCame s_54 h) h (fun q1 h => ?_)
  refine wp_iconst (0 : Int32) dX7_rulesOf_9 ic_0 rfl ?_
  refine wp_istore_n (L' := [some (.ref 53), some (.ref sf), some (.int (0 : Int32)), some (.int (0 : Int32))]) dX7_rulesOf_10 (by decide) rfl rfl rfl ?_
  have hB := wh_ok (A := A_X7_rulesOf_11 g sf Q) (B := pI Q) (fun s t h hP => k_X7_rulesOf_L11 hsf h hP) h hP
  exact wm_mask (L' := [some (.ref 53), some (.ref sf), some (.int (0 : Int32)), some (.int (0 : Int32))]) [true, true, true, true] rfl (hB)
theorem o_X7_rulesOf {g : Gx} {sf : Nat} (hsf : SA sf)  {m : Mem} {t : Int32 × Mem} (h : f_X7_rulesOf sf m = some t) : MxM g 6 mi_X7_rulesOf [.ref 53, .ref sf] m (qI t) := mx_of pn_X7 (Nat.le_of_ble_eq_true rfl) (k_X7_rulesOf_E hsf h ⟨rfl, rfl, rfl, rfl, rfl⟩)
noncomputable def f_X7_wishNow  (p1 : Int32) (p2 : Int32) (m : Mem) : Option (Int32 × Mem) := (f_X3_clear 57 m).bind (fun q1 => (f_X3_namesOf 57 p1 p2 q1).bind (fun q2 => (f_X2_value (57 + 8) q2).bind (fun q3 => some (q3.1, q3.2))))
theorem k_X7_wishNow_E {g : Gx}  {p1 : Int32} {p2 : Int32} {Q : Qy} {m : Mem} {t : Int32 × Mem} (h : f_X7_wishNow p1 p2 m = some t) (hP : pI Q t) : WpM g 3 mi_X7_wishNow 0 [some (.ref 53), some (.int p1), some (.int p2)] [] m (zM g mi_X7_wishNow Q) := by
  refine wp_aload_n dX7_wishNow_0 rfl rfl ?_
  refine wm_getR dX7_wishNow_1 s_53 fk_X7_30 rfl r_53_1 rfl ?_
  refine wm_callVN (As := []) (rest := []) dX7_wishNow_4 ok_X7_111 (by decide) rfl (sM_0 (by unfold MA; omega)) ⟨_, rfl⟩ (Nat.le_of_ble_eq_true rfl) ⟨rfl, rfl⟩ rfl (fun t h => o_X3_clear (by unfold MA; omega) h) h (fun q1 h => ?_)
  refine wp_aload_n dX7_wishNow_7 rfl rfl ?_
  refine wm_getR dX7_wishNow_8 s_53 fk_X7_21 rfl r_53_0 rfl ?_
  refine wm_getR dX7_wishNow_11 s_1 fk_X7_114 rfl r_1_12 rfl ?_
  refine wp_aload_n dX7_wishNow_14 rfl rfl ?_
  refine wm_getR dX7_wishNow_15 s_53 fk_X7_30 rfl r_53_1 rfl ?_
  refine wp_iload_n dX7_wishNow_18 rfl rfl ?_
  refine wp_iload_n dX7_wishNow_19 rfl rfl ?_
  refine wm_callVK (As := [.int p1, .int p2]) (rest := [.ref 14]) dX7_wishNow_20 ok_X7_118 (by decide) rfl (sM_0 (by unfold MA; omega)) ⟨_, rfl⟩ (Nat.le_of_ble_eq_true rfl) ⟨rfl, rfl⟩ rfl (fun t h => o_X3_namesOf (by unfold MA; omega) h) h (fun q2 h => ?_)
  refine wm_callVI (As := [.ref (57 + 8)]) (rest := []) dX7_wishNow_23 ok_X7_122 (by decide) rfl s_14 ⟨_, rfl⟩ (Nat.le_of_ble_eq_true rfl) ⟨rfl, rfl⟩ rfl (fun t h => o_X2_value (sM_8 (by unfold MA; omega)) h) h (fun q3 h => ?_)
  exact wm_iret dX7_wishNow_26 rfl ⟨rfl, rfl⟩ h hP
theorem o_X7_wishNow {g : Gx}  {p1 : Int32} {p2 : Int32} {m : Mem} {t : Int32 × Mem} (h : f_X7_wishNow p1 p2 m = some t) : MxM g 3 mi_X7_wishNow [.ref 53, .int p1, .int p2] m (qI t) := mx_of pn_X7 (Nat.le_of_ble_eq_true rfl) (k_X7_wishNow_E h ⟨rfl, rfl, rfl, rfl, rfl⟩)
noncomputable def f_X8_act  (p1 : Int32) (p2 : Int32) (p3 : Int32) (m : Mem) : Option (Int32 × Mem) := bnd (sI m 69 2 (0 : Int32)) (fun m1 => if p1 < 0 then some ((0 : Int32), m1) else if (gI m1 69 1) ≤ p1 then some ((0 : Int32), m1) else if p2 < 0 then some ((0 : Int32), m1) else if p2 < (4 : Int32) then (f_X0_begin p1 p2 p3 m1).bind (fun q2 => some (q2.1, q2.2)) else some ((0 : Int32), m1))
theorem k_X8_act_E {g : Gx}  {p1 : Int32} {p2 : Int32} {p3 : Int32} {Q : Qy} {m : Mem} {t : Int32 × Mem} (h : f_X8_act p1 p2 p3 m = some t) (hP : pI Q t) : WpM g 22 mi_X8_act 0 [some (.ref 0), some (.int p1), some (.int p2), some (.int p3)] [] m (zM g mi_X8_act Q) := by
  refine wp_aload_n dX8_act_0 rfl rfl ?_
  refine wm_getR dX8_act_1 s_0 fk_X8_42 rfl r_0_4 rfl ?_
  refine wp_iconst (0 : Int32) dX8_act_4 ic_0 rfl ?_
  refine wm_putI dX8_act_5 s_69 fk_X8_241 rfl rfl h (fun m1 h => ?_)
  refine wp_iload_n dX8_act_8 rfl rfl ?_
  refine wm_if_lt 32 dX8_act_9 rfl rfl h (fun h => ?_) (fun h => ?_)
  · refine wp_iconst (0 : Int32) dX8_act_32 ic_0 rfl ?_
    exact wm_iret dX8_act_33 rfl ⟨rfl, rfl⟩ h hP
  · refine wp_iload_n dX8_act_12 rfl rfl ?_
    refine wp_aload_n dX8_act_13 rfl rfl ?_
    refine wm_getR dX8_act_14 s_0 fk_X8_42 rfl r_0_4 rfl ?_
    refine wm_getI dX8_act_17 s_69 fk_X8_235 rfl rfl ?_
    refine wm_icmp_ge 32 dX8_act_20 rfl rfl h (fun h => ?_) (fun h => ?_)
    · refine wp_iconst (0 : Int32) dX8_act_32 ic_0 rfl ?_
      exact wm_iret dX8_act_33 rfl ⟨rfl, rfl⟩ h hP
    · refine wp_iload_n dX8_act_23 rfl rfl ?_
      refine wm_if_lt 32 dX8_act_24 rfl rfl h (fun h => ?_) (fun h => ?_)
      · refine wp_iconst (0 : Int32) dX8_act_32 ic_0 rfl ?_
        exact wm_iret dX8_act_33 rfl ⟨rfl, rfl⟩ h hP
      · refine wp_iload_n dX8_act_27 rfl rfl ?_
        refine wp_iconst (4 : Int32) dX8_act_28 ic_4 rfl ?_
        refine wm_icmp_lt 34 dX8_act_29 rfl rfl h (fun h => ?_) (fun h => ?_)
        · refine wp_aload_n dX8_act_34 rfl rfl ?_
          refine wm_getR dX8_act_35 s_0 fk_X8_42 rfl r_0_4 rfl ?_
          refine wp_iload_n dX8_act_38 rfl rfl ?_
          refine wp_iload_n dX8_act_39 rfl rfl ?_
          refine wp_iload_n dX8_act_40 rfl rfl ?_
          refine wm_callVI (As := [.int p1, .int p2, .int p3]) (rest := []) dX8_act_41 ok_X8_244 (by decide) rfl s_69 ⟨_, rfl⟩ (Nat.le_of_ble_eq_true rfl) ⟨rfl, rfl⟩ rfl (fun t h => o_X0_begin h) h (fun q2 h => ?_)
          exact wm_iret dX8_act_44 rfl ⟨rfl, rfl⟩ h hP
        · refine wp_iconst (0 : Int32) dX8_act_32 ic_0 rfl ?_
          exact wm_iret dX8_act_33 rfl ⟨rfl, rfl⟩ h hP
theorem o_X8_act {g : Gx}  {p1 : Int32} {p2 : Int32} {p3 : Int32} {m : Mem} {t : Int32 × Mem} (h : f_X8_act p1 p2 p3 m = some t) : MxM g 22 mi_X8_act [.ref 0, .int p1, .int p2, .int p3] m (qI t) := mx_of pn_X8 (Nat.le_of_ble_eq_true rfl) (k_X8_act_E h ⟨rfl, rfl, rfl, rfl, rfl⟩)
noncomputable def f_X8_body  (p1 : Int32) (m : Mem) : Option (Int32 × Mem) := if p1 < 0 then some ((-1 : Int32), m) else if p1 < (8 : Int32) then if (gI m 69 1) < (50 : Int32) then (f_X0_addBody p1 m).bind (fun q1 => some (q1.1, q1.2)) else some ((-3 : Int32), m) else some ((-1 : Int32), m)
theorem k_X8_body_E {g : Gx}  {p1 : Int32} {Q : Qy} {m : Mem} {t : Int32 × Mem} (h : f_X8_body p1 m = some t) (hP : pI Q t) : WpM g 2 mi_X8_body 0 [some (.ref 0), some (.int p1)] [] m (zM g mi_X8_body Q) := by
  refine wp_iload_n dX8_body_0 rfl rfl ?_
  refine wm_if_lt 10 dX8_body_1 rfl rfl h (fun h => ?_) (fun h => ?_)
  · refine wp_iconst (-1 : Int32) dX8_body_10 ic_m1 rfl ?_
    exact wm_iret dX8_body_11 rfl ⟨rfl, rfl⟩ h hP
  · refine wp_iload_n dX8_body_4 rfl rfl ?_
    refine wp_bipush (8 : Int32) dX8_body_5 ib_8 rfl ?_
    refine wm_icmp_lt 12 dX8_body_7 rfl rfl h (fun h => ?_) (fun h => ?_)
    · refine wp_aload_n dX8_body_12 rfl rfl ?_
      refine wm_getR dX8_body_13 s_0 fk_X8_42 rfl r_0_4 rfl ?_
      refine wm_getI dX8_body_16 s_69 fk_X8_235 rfl rfl ?_
      refine wp_bipush (50 : Int32) dX8_body_19 ib_50 rfl ?_
      refine wm_icmp_lt 29 dX8_body_21 rfl rfl h (fun h => ?_) (fun h => ?_)
      · refine wp_aload_n dX8_body_29 rfl rfl ?_
        refine wm_getR dX8_body_30 s_0 fk_X8_42 rfl r_0_4 rfl ?_
        refine wp_iload_n dX8_body_33 rfl rfl ?_
        refine wm_callVI (As := [.int p1]) (rest := []) dX8_body_34 ok_X8_238 (by decide) rfl s_69 ⟨_, rfl⟩ (Nat.le_of_ble_eq_true rfl) ⟨rfl, rfl⟩ rfl (fun t h => o_X0_addBody h) h (fun q1 h => ?_)
        exact wm_iret dX8_body_37 rfl ⟨rfl, rfl⟩ h hP
      · refine wp_bipush (-3 : Int32) dX8_body_24 ib_m3 rfl ?_
        refine wp_goto 37 dX8_body_26 rfl ?_
        exact wm_iret dX8_body_37 rfl ⟨rfl, rfl⟩ h hP
    · refine wp_iconst (-1 : Int32) dX8_body_10 ic_m1 rfl ?_
      exact wm_iret dX8_body_11 rfl ⟨rfl, rfl⟩ h hP
theorem o_X8_body {g : Gx}  {p1 : Int32} {m : Mem} {t : Int32 × Mem} (h : f_X8_body p1 m = some t) : MxM g 2 mi_X8_body [.ref 0, .int p1] m (qI t) := mx_of pn_X8 (Nat.le_of_ble_eq_true rfl) (k_X8_body_E h ⟨rfl, rfl, rfl, rfl, rfl⟩)
noncomputable def f_X8_card  (p1 : Int32) (p2 : Int32) (p3 : Int32) (m : Mem) : Option (Int32 × Mem) := (f_X6_isCard p1 p2 p3 m).bind (fun q1 => if ¬ q1.1 = 0 then if (gI q1.2 1 15) < (20 : Int32) then (f_X6_addCard p1 p2 p3 q1.2).bind (fun q2 => some (q2.1, q2.2)) else some ((-3 : Int32), q1.2) else some ((-1 : Int32), q1.2))
theorem k_X8_card_E {g : Gx}  {p1 : Int32} {p2 : Int32} {p3 : Int32} {Q : Qy} {m : Mem} {t : Int32 × Mem} (h : f_X8_card p1 p2 p3 m = some t) (hP : pI Q t) : WpM g 2 mi_X8_card 0 [some (.ref 0), some (.int p1), some (.int p2), some (.int p3)] [] m (zM g mi_X8_card Q) := by
  refine wp_aload_n dX8_card_0 rfl rfl ?_
  refine wm_getR dX8_card_1 s_0 fk_X8_10 rfl r_0_0 rfl ?_
  refine wp_iload_n dX8_card_4 rfl rfl ?_
  refine wp_iload_n dX8_card_5 rfl rfl ?_
  refine wp_iload_n dX8_card_6 rfl rfl ?_
  refine wm_callVI (As := [.int p1, .int p2, .int p3]) (rest := []) dX8_card_7 ok_X8_67 (by decide) rfl s_1 ⟨_, rfl⟩ (Nat.le_of_ble_eq_true rfl) ⟨rfl, rfl⟩ rfl (fun t h => o_X6_isCard h) h (fun q1 h => ?_)
  refine wm_if_ne 15 dX8_card_10 rfl rfl h (fun h => ?_) (fun h => ?_)
  · refine wp_aload_n dX8_card_15 rfl rfl ?_
    refine wm_getR dX8_card_16 s_0 fk_X8_10 rfl r_0_0 rfl ?_
    refine wm_getI dX8_card_19 s_1 fk_X8_71 rfl rfl ?_
    refine wp_bipush (20 : Int32) dX8_card_22 ib_20 rfl ?_
    refine wm_icmp_lt 32 dX8_card_24 rfl rfl h (fun h => ?_) (fun h => ?_)
    · refine wp_aload_n dX8_card_32 rfl rfl ?_
      refine wm_getR dX8_card_33 s_0 fk_X8_10 rfl r_0_0 rfl ?_
      refine wp_iload_n dX8_card_36 rfl rfl ?_
      refine wp_iload_n dX8_card_37 rfl rfl ?_
      refine wp_iload_n dX8_card_38 rfl rfl ?_
      refine wm_callVI (As := [.int p1, .int p2, .int p3]) (rest := []) dX8_card_39 ok_X8_74 (by decide) rfl s_1 ⟨_, rfl⟩ (Nat.le_of_ble_eq_true rfl) ⟨rfl, rfl⟩ rfl (fun t h => o_X6_addCard h) h (fun q2 h => ?_)
      exact wm_iret dX8_card_42 rfl ⟨rfl, rfl⟩ h hP
    · refine wp_bipush (-3 : Int32) dX8_card_27 ib_m3 rfl ?_
      refine wp_goto 42 dX8_card_29 rfl ?_
      exact wm_iret dX8_card_42 rfl ⟨rfl, rfl⟩ h hP
  · refine wp_iconst (-1 : Int32) dX8_card_13 ic_m1 rfl ?_
    exact wm_iret dX8_card_14 rfl ⟨rfl, rfl⟩ h hP
theorem o_X8_card {g : Gx}  {p1 : Int32} {p2 : Int32} {p3 : Int32} {m : Mem} {t : Int32 × Mem} (h : f_X8_card p1 p2 p3 m = some t) : MxM g 2 mi_X8_card [.ref 0, .int p1, .int p2, .int p3] m (qI t) := mx_of pn_X8 (Nat.le_of_ble_eq_true rfl) (k_X8_card_E h ⟨rfl, rfl, rfl, rfl, rfl⟩)
noncomputable def f_X8_isNoShelf  (p1 : Int32) (m : Mem) : Option (Int32 × Mem) := if p1 < 0 then bz (1 : Int32) (some ((1 : Int32), m)) else if p1 < (6 : Int32) then bz (0 : Int32) (some ((0 : Int32), m)) else bz (1 : Int32) (some ((1 : Int32), m))
theorem k_X8_isNoShelf_E {g : Gx}  {p1 : Int32} {Q : Qy} {m : Mem} {t : Int32 × Mem} (h : f_X8_isNoShelf p1 m = some t) (hP : pI Q t) : WpM g 1 mi_X8_isNoShelf 0 [some (.int p1)] [] m (zM g mi_X8_isNoShelf Q) := by
  refine wp_iload_n dX8_isNoShelf_0 rfl rfl ?_
  refine wm_if_lt 10 dX8_isNoShelf_1 rfl rfl h (fun h => ?_) (fun h => ?_)
  · refine wp_iconst (1 : Int32) dX8_isNoShelf_10 ic_1 rfl ?_
    refine wp_goto 15 dX8_isNoShelf_11 rfl ?_
    exact wm_zret dX8_isNoShelf_15 rfl ⟨rfl, rfl⟩ h hP
  · refine wp_iload_n dX8_isNoShelf_4 rfl rfl ?_
    refine wp_bipush (6 : Int32) dX8_isNoShelf_5 ib_6 rfl ?_
    refine wm_icmp_lt 14 dX8_isNoShelf_7 rfl rfl h (fun h => ?_) (fun h => ?_)
    · refine wp_iconst (0 : Int32) dX8_isNoShelf_14 ic_0 rfl ?_
      exact wm_zret dX8_isNoShelf_15 rfl ⟨rfl, rfl⟩ h hP
    · refine wp_iconst (1 : Int32) dX8_isNoShelf_10 ic_1 rfl ?_
      refine wp_goto 15 dX8_isNoShelf_11 rfl ?_
      exact wm_zret dX8_isNoShelf_15 rfl ⟨rfl, rfl⟩ h hP
theorem o_X8_isNoShelf {g : Gx}  {p1 : Int32} {m : Mem} {t : Int32 × Mem} (h : f_X8_isNoShelf p1 m = some t) : MxM g 1 mi_X8_isNoShelf [.int p1] m (qI t) := mx_of pn_X8 (Nat.le_of_ble_eq_true rfl) (k_X8_isNoShelf_E h ⟨rfl, rfl, rfl, rfl, rfl⟩)
noncomputable def f_X8_cards  (p1 : Int32) (p2 : Int32) (p3 : Int32) (m : Mem) : Option (Int32 × Mem) := (f_X8_isNoShelf p1 m).bind (fun q1 => if ¬ q1.1 = 0 then some ((-1 : Int32), q1.2) else if p3 < (1 : Int32) then some ((-1 : Int32), q1.2) else if p3 ≤ (20 : Int32) then ck p1 6 (bnd (73 + 2 * ix p1) (fun s2 => if ¬ (gI q1.2 s2 0) = (-2 : Int32) then if ¬ (gI q1.2 s2 0) = (1 : Int32) then some ((-12 : Int32), q1.2) else (f_X6_addCards s2 p2 p3 q1.2).bind (fun q3 => some (q3.1, q3.2)) else some ((0 : Int32), q1.2))) else some ((-1 : Int32), q1.2))
theorem k_X8_cards_E {g : Gx}  {p1 : Int32} {p2 : Int32} {p3 : Int32} {Q : Qy} {m : Mem} {t : Int32 × Mem} (h : f_X8_cards p1 p2 p3 m = some t) (hP : pI Q t) : WpM g 3 mi_X8_cards 0 [some (.ref 0), some (.int p1), some (.int p2), some (.int p3), none] [] m (zM g mi_X8_cards Q) := by
  refine wp_iload_n dX8_cards_0 rfl rfl ?_
  refine wm_callSI (As := [.int p1]) (rest := []) dX8_cards_1 ok_X8_78 (by decide) rfl (Nat.le_of_ble_eq_true rfl) ⟨rfl, rfl⟩ rfl (fun t h => o_X8_isNoShelf h) h (fun q1 h => ?_)
  refine wm_if_ne 18 dX8_cards_4 rfl rfl h (fun h => ?_) (fun h => ?_)
  · refine wp_iconst (-1 : Int32) dX8_cards_18 ic_m1 rfl ?_
    exact wm_iret dX8_cards_19 rfl ⟨rfl, rfl⟩ h hP
  · refine wp_iload_n dX8_cards_7 rfl rfl ?_
    refine wp_iconst (1 : Int32) dX8_cards_8 ic_1 rfl ?_
    refine wm_icmp_lt 18 dX8_cards_9 rfl rfl h (fun h => ?_) (fun h => ?_)
    · refine wp_iconst (-1 : Int32) dX8_cards_18 ic_m1 rfl ?_
      exact wm_iret dX8_cards_19 rfl ⟨rfl, rfl⟩ h hP
    · refine wp_iload_n dX8_cards_12 rfl rfl ?_
      refine wp_bipush (20 : Int32) dX8_cards_13 ib_20 rfl ?_
      refine wm_icmp_le 20 dX8_cards_15 rfl rfl h (fun h => ?_) (fun h => ?_)
      · refine wp_aload_n dX8_cards_20 rfl rfl ?_
        refine wm_getR dX8_cards_21 s_0 fk_X8_48 rfl r_0_5 rfl ?_
        refine wp_iload_n dX8_cards_24 rfl rfl ?_
        refine wm_shelf dX8_cards_25 rfl h (fun s2 hs2 h => ?_)
        refine wp_astore (L' := [some (.ref 0), some (.int p1), some (.int p2), some (.int p3), some (.ref s2)]) dX8_cards_26 (by decide) rfl rfl rfl ?_
        refine wp_aload dX8_cards_28 rfl rfl ?_
        refine wm_getI dX8_cards_30 (sS_0 hs2) fk_X8_82 rfl rfl ?_
        refine wp_bipush (-2 : Int32) dX8_cards_33 ib_m2 rfl ?_
        refine wm_icmp_ne 40 dX8_cards_35 rfl rfl h (fun h => ?_) (fun h => ?_)
        · refine wp_aload dX8_cards_40 rfl rfl ?_
          refine wm_getI dX8_cards_42 (sS_0 hs2) fk_X8_82 rfl rfl ?_
          refine wp_iconst (1 : Int32) dX8_cards_45 ic_1 rfl ?_
          refine wm_icmp_ne 63 dX8_cards_46 rfl rfl h (fun h => ?_) (fun h => ?_)
          · refine wp_bipush (-12 : Int32) dX8_cards_63 ib_m12 rfl ?_
            exact wm_iret dX8_cards_65 rfl ⟨rfl, rfl⟩ h hP
          · refine wp_aload_n dX8_cards_49 rfl rfl ?_
            refine wm_getR dX8_cards_50 s_0 fk_X8_10 rfl r_0_0 rfl ?_
            refine wp_aload dX8_cards_53 rfl rfl ?_
            refine wp_iload_n dX8_cards_55 rfl rfl ?_
            refine wp_iload_n dX8_cards_56 rfl rfl ?_
            refine wm_callVI (As := [.ref s2, .int p2, .int p3]) (rest := []) dX8_cards_57 ok_X8_85 (by decide) rfl s_1 ⟨_, rfl⟩ (Nat.le_of_ble_eq_true rfl) ⟨rfl, rfl⟩ rfl (fun t h => o_X6_addCards hs2 h) h (fun q3 h => ?_)
            refine wp_goto 65 dX8_cards_60 rfl ?_
            exact wm_iret dX8_cards_65 rfl ⟨rfl, rfl⟩ h hP
        · refine wp_iconst (0 : Int32) dX8_cards_38 ic_0 rfl ?_
          exact wm_iret dX8_cards_39 rfl ⟨rfl, rfl⟩ h hP
      · refine wp_iconst (-1 : Int32) dX8_cards_18 ic_m1 rfl ?_
        exact wm_iret dX8_cards_19 rfl ⟨rfl, rfl⟩ h hP
theorem o_X8_cards {g : Gx}  {p1 : Int32} {p2 : Int32} {p3 : Int32} {m : Mem} {t : Int32 × Mem} (h : f_X8_cards p1 p2 p3 m = some t) : MxM g 3 mi_X8_cards [.ref 0, .int p1, .int p2, .int p3] m (qI t) := mx_of pn_X8 (Nat.le_of_ble_eq_true rfl) (k_X8_cards_E h ⟨rfl, rfl, rfl, rfl, rfl⟩)
noncomputable def f_X8_count  (p1 : Int32) (m : Mem) : Option (Int32 × Mem) := sw p1 [((0 : Int32), some ((gI m 1 13), m)), ((1 : Int32), some ((gI m 1 14), m)), ((2 : Int32), some ((gI m 1 15), m)), ((3 : Int32), some ((gI m 14 2), m)), ((4 : Int32), some ((gI m 19 4), m)), ((5 : Int32), some ((gI m 69 1), m)), ((6 : Int32), some ((gI m 69 2), m))] (some ((-1 : Int32), m))
theorem k_X8_count_E {g : Gx}  {p1 : Int32} {Q : Qy} {m : Mem} {t : Int32 × Mem} (h : f_X8_count p1 m = some t) (hP : pI Q t) : WpM g 1 mi_X8_count 0 [some (.ref 0), some (.int p1)] [] m (zM g mi_X8_count Q) := by
  refine wp_iload_n dX8_count_0 rfl rfl ?_
  refine wm_tsw [((0 : Int32), 44), ((1 : Int32), 52), ((2 : Int32), 60), ((3 : Int32), 68), ((4 : Int32), 79), ((5 : Int32), 87), ((6 : Int32), 95)] 103 dX8_count_1 rfl (by decide) (by decide +kernel) (by decide +kernel) (by decide +kernel) h rfl ⟨fun h => ?_, fun h => ?_, fun h => ?_, fun h => ?_, fun h => ?_, fun h => ?_, fun h => ?_, trivial⟩ (fun h => ?_)
  · refine wp_aload_n dX8_count_44 rfl rfl ?_
    refine wm_getR dX8_count_45 s_0 fk_X8_10 rfl r_0_0 rfl ?_
    refine wm_getI dX8_count_48 s_1 fk_X8_53 rfl rfl ?_
    exact wm_iret dX8_count_51 rfl ⟨rfl, rfl⟩ h hP
  · refine wp_aload_n dX8_count_52 rfl rfl ?_
    refine wm_getR dX8_count_53 s_0 fk_X8_10 rfl r_0_0 rfl ?_
    refine wm_getI dX8_count_56 s_1 fk_X8_61 rfl rfl ?_
    exact wm_iret dX8_count_59 rfl ⟨rfl, rfl⟩ h hP
  · refine wp_aload_n dX8_count_60 rfl rfl ?_
    refine wm_getR dX8_count_61 s_0 fk_X8_10 rfl r_0_0 rfl ?_
    refine wm_getI dX8_count_64 s_1 fk_X8_71 rfl rfl ?_
    exact wm_iret dX8_count_67 rfl ⟨rfl, rfl⟩ h hP
  · refine wp_aload_n dX8_count_68 rfl rfl ?_
    refine wm_getR dX8_count_69 s_0 fk_X8_10 rfl r_0_0 rfl ?_
    refine wm_getR dX8_count_72 s_1 fk_X8_89 rfl r_1_12 rfl ?_
    refine wm_getI dX8_count_75 s_14 fk_X8_292 rfl rfl ?_
    exact wm_iret dX8_count_78 rfl ⟨rfl, rfl⟩ h hP
  · refine wp_aload_n dX8_count_79 rfl rfl ?_
    refine wm_getR dX8_count_80 s_0 fk_X8_19 rfl r_0_1 rfl ?_
    refine wm_getI dX8_count_83 s_19 fk_X8_214 rfl rfl ?_
    exact wm_iret dX8_count_86 rfl ⟨rfl, rfl⟩ h hP
  · refine wp_aload_n dX8_count_87 rfl rfl ?_
    refine wm_getR dX8_count_88 s_0 fk_X8_42 rfl r_0_4 rfl ?_
    refine wm_getI dX8_count_91 s_69 fk_X8_235 rfl rfl ?_
    exact wm_iret dX8_count_94 rfl ⟨rfl, rfl⟩ h hP
  · refine wp_aload_n dX8_count_95 rfl rfl ?_
    refine wm_getR dX8_count_96 s_0 fk_X8_42 rfl r_0_4 rfl ?_
    refine wm_getI dX8_count_99 s_69 fk_X8_241 rfl rfl ?_
    exact wm_iret dX8_count_102 rfl ⟨rfl, rfl⟩ h hP
  · refine wp_iconst (-1 : Int32) dX8_count_103 ic_m1 rfl ?_
    exact wm_iret dX8_count_104 rfl ⟨rfl, rfl⟩ h hP
theorem o_X8_count {g : Gx}  {p1 : Int32} {m : Mem} {t : Int32 × Mem} (h : f_X8_count p1 m = some t) : MxM g 1 mi_X8_count [.ref 0, .int p1] m (qI t) := mx_of pn_X8 (Nat.le_of_ble_eq_true rfl) (k_X8_count_E h ⟨rfl, rfl, rfl, rfl, rfl⟩)
noncomputable def f_X8_did  (p1 : Int32) (p2 : Int32) (m : Mem) : Option (Int32 × Mem) := if p2 < 0 then some ((-1 : Int32), m) else if p2 ≤ (3 : Int32) then if ¬ (gI m 24 3) = 0 then (f_X4_hadPerson p1 m).bind (fun q1 => if q1.1 = 0 then some ((-1 : Int32), q1.2) else (f_X4_ofPerson p1 p2 q1.2).bind (fun q2 => some (q2.1, q2.2))) else some ((-5 : Int32), m) else some ((-1 : Int32), m)
theorem k_X8_did_E {g : Gx}  {p1 : Int32} {p2 : Int32} {Q : Qy} {m : Mem} {t : Int32 × Mem} (h : f_X8_did p1 p2 m = some t) (hP : pI Q t) : WpM g 2 mi_X8_did 0 [some (.ref 0), some (.int p1), some (.int p2)] [] m (zM g mi_X8_did Q) := by
  refine wp_iload_n dX8_did_0 rfl rfl ?_
  refine wm_if_lt 9 dX8_did_1 rfl rfl h (fun h => ?_) (fun h => ?_)
  · refine wp_iconst (-1 : Int32) dX8_did_9 ic_m1 rfl ?_
    exact wm_iret dX8_did_10 rfl ⟨rfl, rfl⟩ h hP
  · refine wp_iload_n dX8_did_4 rfl rfl ?_
    refine wp_iconst (3 : Int32) dX8_did_5 ic_3 rfl ?_
    refine wm_icmp_le 11 dX8_did_6 rfl rfl h (fun h => ?_) (fun h => ?_)
    · refine wp_aload_n dX8_did_11 rfl rfl ?_
      refine wm_getR dX8_did_12 s_0 fk_X8_28 rfl r_0_2 rfl ?_
      refine wm_getI dX8_did_15 s_24 fk_X8_160 rfl rfl ?_
      refine wm_if_ne 24 dX8_did_18 rfl rfl h (fun h => ?_) (fun h => ?_)
      · refine wp_aload_n dX8_did_24 rfl rfl ?_
        refine wm_getR dX8_did_25 s_0 fk_X8_28 rfl r_0_2 rfl ?_
        refine wp_iload_n dX8_did_28 rfl rfl ?_
        refine wm_callVI (As := [.int p1]) (rest := []) dX8_did_29 ok_X8_188 (by decide) rfl s_24 ⟨_, rfl⟩ (Nat.le_of_ble_eq_true rfl) ⟨rfl, rfl⟩ rfl (fun t h => o_X4_hadPerson h) h (fun q1 h => ?_)
        refine wm_if_eq 47 dX8_did_32 rfl rfl h (fun h => ?_) (fun h => ?_)
        · refine wp_iconst (-1 : Int32) dX8_did_47 ic_m1 rfl ?_
          exact wm_iret dX8_did_48 rfl ⟨rfl, rfl⟩ h hP
        · refine wp_aload_n dX8_did_35 rfl rfl ?_
          refine wm_getR dX8_did_36 s_0 fk_X8_28 rfl r_0_2 rfl ?_
          refine wp_iload_n dX8_did_39 rfl rfl ?_
          refine wp_iload_n dX8_did_40 rfl rfl ?_
          refine wm_callVI (As := [.int p1, .int p2]) (rest := []) dX8_did_41 ok_X8_191 (by decide) rfl s_24 ⟨_, rfl⟩ (Nat.le_of_ble_eq_true rfl) ⟨rfl, rfl⟩ rfl (fun t h => o_X4_ofPerson h) h (fun q2 h => ?_)
          refine wp_goto 48 dX8_did_44 rfl ?_
          exact wm_iret dX8_did_48 rfl ⟨rfl, rfl⟩ h hP
      · refine wp_bipush (-5 : Int32) dX8_did_21 ib_m5 rfl ?_
        exact wm_iret dX8_did_23 rfl ⟨rfl, rfl⟩ h hP
    · refine wp_iconst (-1 : Int32) dX8_did_9 ic_m1 rfl ?_
      exact wm_iret dX8_did_10 rfl ⟨rfl, rfl⟩ h hP
theorem o_X8_did {g : Gx}  {p1 : Int32} {p2 : Int32} {m : Mem} {t : Int32 × Mem} (h : f_X8_did p1 p2 m = some t) : MxM g 2 mi_X8_did [.ref 0, .int p1, .int p2] m (qI t) := mx_of pn_X8 (Nat.le_of_ble_eq_true rfl) (k_X8_did_E h ⟨rfl, rfl, rfl, rfl, rfl⟩)
noncomputable def f_X8_element  (p1 : Int32) (p2 : Int32) (m : Mem) : Option (Int64 × Mem) := (f_X8_isNoShelf p1 m).bind (fun q1 => if ¬ q1.1 = 0 then some ((-9223372036854775808 : Int64), q1.2) else ck p1 6 (bnd (73 + 2 * ix p1) (fun s2 => (f_X5_refusalAt s2 p2 q1.2).bind (fun q3 => if q3.1 = 0 then ck p1 6 (bnd (73 + 2 * ix p1) (fun s4 => ck p2 60 (some ((gJ q3.2 (s4 + 1) (ix p2)), q3.2)))) else some ((-9223372036854775808 : Int64), q3.2)))))
theorem k_X8_element_E {g : Gx}  {p1 : Int32} {p2 : Int32} {Q : Qy} {m : Mem} {t : Int64 × Mem} (h : f_X8_element p1 p2 m = some t) (hP : pL Q t) : WpM g 2 mi_X8_element 0 [some (.ref 0), some (.int p1), some (.int p2)] [] m (zM g mi_X8_element Q) := by
  refine wp_iload_n dX8_element_0 rfl rfl ?_
  refine wm_callSI (As := [.int p1]) (rest := []) dX8_element_1 ok_X8_78 (by decide) rfl (Nat.le_of_ble_eq_true rfl) ⟨rfl, rfl⟩ rfl (fun t h => o_X8_isNoShelf h) h (fun q1 h => ?_)
  refine wm_if_ne 20 dX8_element_4 rfl rfl h (fun h => ?_) (fun h => ?_)
  · refine wp_ldc2 dX8_element_20 q1126 rfl ?_
    exact wm_lret dX8_element_23 rfl ⟨rfl, rfl⟩ h hP
  · refine wp_aload_n dX8_element_7 rfl rfl ?_
    refine wm_getR dX8_element_8 s_0 fk_X8_48 rfl r_0_5 rfl ?_
    refine wp_iload_n dX8_element_11 rfl rfl ?_
    refine wm_shelf dX8_element_12 rfl h (fun s2 hs2 h => ?_)
    refine wp_iload_n dX8_element_13 rfl rfl ?_
    refine wm_callVI (As := [.int p2]) (rest := []) dX8_element_14 ok_X8_258 (by decide) rfl (sS_0 hs2) ⟨_, rfl⟩ (Nat.le_of_ble_eq_true rfl) ⟨rfl, rfl⟩ rfl (fun t h => o_X5_refusalAt hs2 h) h (fun q3 h => ?_)
    refine wm_if_eq 24 dX8_element_17 rfl rfl h (fun h => ?_) (fun h => ?_)
    · refine wp_aload_n dX8_element_24 rfl rfl ?_
      refine wm_getR dX8_element_25 s_0 fk_X8_48 rfl r_0_5 rfl ?_
      refine wp_iload_n dX8_element_28 rfl rfl ?_
      refine wm_shelf dX8_element_29 rfl h (fun s4 hs4 h => ?_)
      refine wm_getR dX8_element_30 (sS_0 hs4) fk_X8_269 rfl (rS_3 hs4) rfl ?_
      refine wp_iload_n dX8_element_33 rfl rfl ?_
      refine wm_lald dX8_element_34 (sS_1 hs4) rfl h (fun h => ?_)
      exact wm_lret dX8_element_35 rfl ⟨rfl, rfl⟩ h hP
    · refine wp_ldc2 dX8_element_20 q1126 rfl ?_
      exact wm_lret dX8_element_23 rfl ⟨rfl, rfl⟩ h hP
theorem o_X8_element {g : Gx}  {p1 : Int32} {p2 : Int32} {m : Mem} {t : Int64 × Mem} (h : f_X8_element p1 p2 m = some t) : MxM g 2 mi_X8_element [.ref 0, .int p1, .int p2] m (qL t) := mx_of pn_X8 (Nat.le_of_ble_eq_true rfl) (k_X8_element_E h ⟨rfl, rfl, rfl, rfl, rfl⟩)
noncomputable def f_X8_feed  (p1 : Int32) (m : Mem) : Option (Int32 × Mem) := if p1 < 0 then some ((-1 : Int32), m) else if p1 ≤ (255 : Int32) then (f_X2_isFull m).bind (fun q1 => if q1.1 = 0 then (f_X2_write p1 q1.2).bind (fun q2 => some (q2.1, q2.2)) else some ((-3 : Int32), q1.2)) else some ((-1 : Int32), m)
theorem k_X8_feed_E {g : Gx}  {p1 : Int32} {Q : Qy} {m : Mem} {t : Int32 × Mem} (h : f_X8_feed p1 m = some t) (hP : pI Q t) : WpM g 2 mi_X8_feed 0 [some (.ref 0), some (.int p1)] [] m (zM g mi_X8_feed Q) := by
  refine wp_iload_n dX8_feed_0 rfl rfl ?_
  refine wm_if_lt 11 dX8_feed_1 rfl rfl h (fun h => ?_) (fun h => ?_)
  · refine wp_iconst (-1 : Int32) dX8_feed_11 ic_m1 rfl ?_
    exact wm_iret dX8_feed_12 rfl ⟨rfl, rfl⟩ h hP
  · refine wp_iload_n dX8_feed_4 rfl rfl ?_
    refine wp_sipush (255 : Int32) dX8_feed_5 is_255 rfl ?_
    refine wm_icmp_le 13 dX8_feed_8 rfl rfl h (fun h => ?_) (fun h => ?_)
    · refine wp_aload_n dX8_feed_13 rfl rfl ?_
      refine wm_getR dX8_feed_14 s_0 fk_X8_10 rfl r_0_0 rfl ?_
      refine wm_getR dX8_feed_17 s_1 fk_X8_89 rfl r_1_12 rfl ?_
      refine wm_callVI (As := []) (rest := []) dX8_feed_20 ok_X8_93 (by decide) rfl s_14 ⟨_, rfl⟩ (Nat.le_of_ble_eq_true rfl) ⟨rfl, rfl⟩ rfl (fun t h => o_X2_isFull h) h (fun q1 h => ?_)
      refine wm_if_eq 31 dX8_feed_23 rfl rfl h (fun h => ?_) (fun h => ?_)
      · refine wp_aload_n dX8_feed_31 rfl rfl ?_
        refine wm_getR dX8_feed_32 s_0 fk_X8_10 rfl r_0_0 rfl ?_
        refine wm_getR dX8_feed_35 s_1 fk_X8_89 rfl r_1_12 rfl ?_
        refine wp_iload_n dX8_feed_38 rfl rfl ?_
        refine wm_callVI (As := [.int p1]) (rest := []) dX8_feed_39 ok_X8_99 (by decide) rfl s_14 ⟨_, rfl⟩ (Nat.le_of_ble_eq_true rfl) ⟨rfl, rfl⟩ rfl (fun t h => o_X2_write h) h (fun q2 h => ?_)
        exact wm_iret dX8_feed_42 rfl ⟨rfl, rfl⟩ h hP
      · refine wp_bipush (-3 : Int32) dX8_feed_26 ib_m3 rfl ?_
        refine wp_goto 42 dX8_feed_28 rfl ?_
        exact wm_iret dX8_feed_42 rfl ⟨rfl, rfl⟩ h hP
    · refine wp_iconst (-1 : Int32) dX8_feed_11 ic_m1 rfl ?_
      exact wm_iret dX8_feed_12 rfl ⟨rfl, rfl⟩ h hP
theorem o_X8_feed {g : Gx}  {p1 : Int32} {m : Mem} {t : Int32 × Mem} (h : f_X8_feed p1 m = some t) : MxM g 2 mi_X8_feed [.ref 0, .int p1] m (qI t) := mx_of pn_X8 (Nat.le_of_ble_eq_true rfl) (k_X8_feed_E h ⟨rfl, rfl, rfl, rfl, rfl⟩)
noncomputable def f_X8_film  (p1 : Int32) (m : Mem) : Option (Int32 × Mem) := (f_X8_isNoShelf p1 m).bind (fun q1 => if q1.1 = 0 then ck p1 6 (bnd (73 + 2 * ix p1) (fun s2 => if ¬ (gI q1.2 s2 0) = (-2 : Int32) then if (gI q1.2 s2 0) = 0 then (f_X6_isBare q1.2).bind (fun q3 => if q3.1 = 0 then (f_X7_rulesOf s2 q3.2).bind (fun q4 => some (q4.1, q4.2)) else some ((-5 : Int32), q3.2)) else some ((-12 : Int32), q1.2) else some ((-11 : Int32), q1.2))) else some ((-1 : Int32), q1.2))
theorem k_X8_film_E {g : Gx}  {p1 : Int32} {Q : Qy} {m : Mem} {t : Int32 × Mem} (h : f_X8_film p1 m = some t) (hP : pI Q t) : WpM g 7 mi_X8_film 0 [some (.ref 0), some (.int p1), none] [] m (zM g mi_X8_film Q) := by
  refine wp_iload_n dX8_film_0 rfl rfl ?_
  refine wm_callSI (As := [.int p1]) (rest := []) dX8_film_1 ok_X8_78 (by decide) rfl (Nat.le_of_ble_eq_true rfl) ⟨rfl, rfl⟩ rfl (fun t h => o_X8_isNoShelf h) h (fun q1 h => ?_)
  refine wm_if_eq 9 dX8_film_4 rfl rfl h (fun h => ?_) (fun h => ?_)
  · refine wp_aload_n dX8_film_9 rfl rfl ?_
    refine wm_getR dX8_film_10 s_0 fk_X8_48 rfl r_0_5 rfl ?_
    refine wp_iload_n dX8_film_13 rfl rfl ?_
    refine wm_shelf dX8_film_14 rfl h (fun s2 hs2 h => ?_)
    refine wp_astore_n (L' := [some (.ref 0), some (.int p1), some (.ref s2)]) dX8_film_15 (by decide) rfl rfl rfl ?_
    refine wp_aload_n dX8_film_16 rfl rfl ?_
    refine wm_getI dX8_film_17 (sS_0 hs2) fk_X8_82 rfl rfl ?_
    refine wp_bipush (-2 : Int32) dX8_film_20 ib_m2 rfl ?_
    refine wm_icmp_ne 28 dX8_film_22 rfl rfl h (fun h => ?_) (fun h => ?_)
    · refine wp_aload_n dX8_film_28 rfl rfl ?_
      refine wm_getI dX8_film_29 (sS_0 hs2) fk_X8_82 rfl rfl ?_
      refine wm_if_eq 38 dX8_film_32 rfl rfl h (fun h => ?_) (fun h => ?_)
      · refine wp_aload_n dX8_film_38 rfl rfl ?_
        refine wm_getR dX8_film_39 s_0 fk_X8_10 rfl r_0_0 rfl ?_
        refine wm_callVI (As := []) (rest := []) dX8_film_42 ok_X8_154 (by decide) rfl s_1 ⟨_, rfl⟩ (Nat.le_of_ble_eq_true rfl) ⟨rfl, rfl⟩ rfl (fun t h => o_X6_isBare h) h (fun q3 h => ?_)
        refine wm_if_eq 53 dX8_film_45 rfl rfl h (fun h => ?_) (fun h => ?_)
        · refine wp_aload_n dX8_film_53 rfl rfl ?_
          refine wm_getR dX8_film_54 s_0 fk_X8_35 rfl r_0_3 rfl ?_
          refine wp_aload_n dX8_film_57 rfl rfl ?_
          refine wm_callVI (As := [.ref s2]) (rest := []) dX8_film_58 ok_X8_204 (by decide) rfl s_53 ⟨_, rfl⟩ (Nat.le_of_ble_eq_true rfl) ⟨rfl, rfl⟩ rfl (fun t h => o_X7_rulesOf hs2 h) h (fun q4 h => ?_)
          exact wm_iret dX8_film_61 rfl ⟨rfl, rfl⟩ h hP
        · refine wp_bipush (-5 : Int32) dX8_film_48 ib_m5 rfl ?_
          refine wp_goto 61 dX8_film_50 rfl ?_
          exact wm_iret dX8_film_61 rfl ⟨rfl, rfl⟩ h hP
      · refine wp_bipush (-12 : Int32) dX8_film_35 ib_m12 rfl ?_
        exact wm_iret dX8_film_37 rfl ⟨rfl, rfl⟩ h hP
    · refine wp_bipush (-11 : Int32) dX8_film_25 ib_m11 rfl ?_
      exact wm_iret dX8_film_27 rfl ⟨rfl, rfl⟩ h hP
  · refine wp_iconst (-1 : Int32) dX8_film_7 ic_m1 rfl ?_
    exact wm_iret dX8_film_8 rfl ⟨rfl, rfl⟩ h hP
theorem o_X8_film {g : Gx}  {p1 : Int32} {m : Mem} {t : Int32 × Mem} (h : f_X8_film p1 m = some t) : MxM g 7 mi_X8_film [.ref 0, .int p1] m (qI t) := mx_of pn_X8 (Nat.le_of_ble_eq_true rfl) (k_X8_film_E h ⟨rfl, rfl, rfl, rfl, rfl⟩)
noncomputable def f_X8_first  (p1 : Int32) (p2 : Int32) (m : Mem) : Option (Int32 × Mem) := (f_X4_hadCard p1 m).bind (fun q1 => if q1.1 = 0 then some ((-2000000000 : Int32), q1.2) else if p2 < 0 then some ((-2000000000 : Int32), q1.2) else if p2 ≤ (1 : Int32) then if ¬ p2 = 0 then ck p1 20 (some ((gI q1.2 (29 + 4) (ix p1)), q1.2)) else ck p1 20 (some ((gI q1.2 (29 + 3) (ix p1)), q1.2)) else some ((-2000000000 : Int32), q1.2))
theorem k_X8_first_E {g : Gx}  {p1 : Int32} {p2 : Int32} {Q : Qy} {m : Mem} {t : Int32 × Mem} (h : f_X8_first p1 p2 m = some t) (hP : pI Q t) : WpM g 2 mi_X8_first 0 [some (.ref 0), some (.int p1), some (.int p2)] [] m (zM g mi_X8_first Q) := by
  refine wp_aload_n dX8_first_0 rfl rfl ?_
  refine wm_getR dX8_first_1 s_0 fk_X8_28 rfl r_0_2 rfl ?_
  refine wp_iload_n dX8_first_4 rfl rfl ?_
  refine wm_callVI (As := [.int p1]) (rest := []) dX8_first_5 ok_X8_192 (by decide) rfl s_24 ⟨_, rfl⟩ (Nat.le_of_ble_eq_true rfl) ⟨rfl, rfl⟩ rfl (fun t h => o_X4_hadCard h) h (fun q1 h => ?_)
  refine wm_if_eq 20 dX8_first_8 rfl rfl h (fun h => ?_) (fun h => ?_)
  · refine wp_ldc dX8_first_20 q722 rfl ?_
    exact wm_iret dX8_first_22 rfl ⟨rfl, rfl⟩ h hP
  · refine wp_iload_n dX8_first_11 rfl rfl ?_
    refine wm_if_lt 20 dX8_first_12 rfl rfl h (fun h => ?_) (fun h => ?_)
    · refine wp_ldc dX8_first_20 q722 rfl ?_
      exact wm_iret dX8_first_22 rfl ⟨rfl, rfl⟩ h hP
    · refine wp_iload_n dX8_first_15 rfl rfl ?_
      refine wp_iconst (1 : Int32) dX8_first_16 ic_1 rfl ?_
      refine wm_icmp_le 23 dX8_first_17 rfl rfl h (fun h => ?_) (fun h => ?_)
      · refine wp_iload_n dX8_first_23 rfl rfl ?_
        refine wm_if_ne 40 dX8_first_24 rfl rfl h (fun h => ?_) (fun h => ?_)
        · refine wp_aload_n dX8_first_40 rfl rfl ?_
          refine wm_getR dX8_first_41 s_0 fk_X8_28 rfl r_0_2 rfl ?_
          refine wm_getR dX8_first_44 s_24 fk_X8_167 rfl r_24_0 rfl ?_
          refine wm_getR dX8_first_47 (sM_0 (by unfold MA; omega)) fk_X8_198 rfl (rM_3 (by unfold MA; omega)) rfl ?_
          refine wp_iload_n dX8_first_50 rfl rfl ?_
          refine wm_iald dX8_first_51 (sM_4 (by unfold MA; omega)) rfl h (fun h => ?_)
          exact wm_iret dX8_first_52 rfl ⟨rfl, rfl⟩ h hP
        · refine wp_aload_n dX8_first_27 rfl rfl ?_
          refine wm_getR dX8_first_28 s_0 fk_X8_28 rfl r_0_2 rfl ?_
          refine wm_getR dX8_first_31 s_24 fk_X8_167 rfl r_24_0 rfl ?_
          refine wm_getR dX8_first_34 (sM_0 (by unfold MA; omega)) fk_X8_195 rfl (rM_2 (by unfold MA; omega)) rfl ?_
          refine wp_goto 50 dX8_first_37 rfl ?_
          refine wp_iload_n dX8_first_50 rfl rfl ?_
          refine wm_iald dX8_first_51 (sM_3 (by unfold MA; omega)) rfl h (fun h => ?_)
          exact wm_iret dX8_first_52 rfl ⟨rfl, rfl⟩ h hP
      · refine wp_ldc dX8_first_20 q722 rfl ?_
        exact wm_iret dX8_first_22 rfl ⟨rfl, rfl⟩ h hP
theorem o_X8_first {g : Gx}  {p1 : Int32} {p2 : Int32} {m : Mem} {t : Int32 × Mem} (h : f_X8_first p1 p2 m = some t) : MxM g 2 mi_X8_first [.ref 0, .int p1, .int p2] m (qI t) := mx_of pn_X8 (Nat.le_of_ble_eq_true rfl) (k_X8_first_E h ⟨rfl, rfl, rfl, rfl, rfl⟩)
noncomputable def f_X8_keep  (p1 : Int32) (p2 : Int32) (m : Mem) : Option (Int32 × Mem) := (f_X8_isNoShelf p1 m).bind (fun q1 => if ¬ q1.1 = 0 then some ((-1 : Int32), q1.2) else if p2 < (-1 : Int32) then some ((-1 : Int32), q1.2) else if p2 < (gI q1.2 69 1) then ck p1 6 (bnd (73 + 2 * ix p1) (fun s2 => (f_X5_holdBody s2 p2 q1.2).bind (fun q3 => some ((1 : Int32), q3)))) else some ((-1 : Int32), q1.2))
theorem k_X8_keep_E {g : Gx}  {p1 : Int32} {p2 : Int32} {Q : Qy} {m : Mem} {t : Int32 × Mem} (h : f_X8_keep p1 p2 m = some t) (hP : pI Q t) : WpM g 2 mi_X8_keep 0 [some (.ref 0), some (.int p1), some (.int p2)] [] m (zM g mi_X8_keep Q) := by
  refine wp_iload_n dX8_keep_0 rfl rfl ?_
  refine wm_callSI (As := [.int p1]) (rest := []) dX8_keep_1 ok_X8_78 (by decide) rfl (Nat.le_of_ble_eq_true rfl) ⟨rfl, rfl⟩ rfl (fun t h => o_X8_isNoShelf h) h (fun q1 h => ?_)
  refine wm_if_ne 23 dX8_keep_4 rfl rfl h (fun h => ?_) (fun h => ?_)
  · refine wp_iconst (-1 : Int32) dX8_keep_23 ic_m1 rfl ?_
    exact wm_iret dX8_keep_24 rfl ⟨rfl, rfl⟩ h hP
  · refine wp_iload_n dX8_keep_7 rfl rfl ?_
    refine wp_iconst (-1 : Int32) dX8_keep_8 ic_m1 rfl ?_
    refine wm_icmp_lt 23 dX8_keep_9 rfl rfl h (fun h => ?_) (fun h => ?_)
    · refine wp_iconst (-1 : Int32) dX8_keep_23 ic_m1 rfl ?_
      exact wm_iret dX8_keep_24 rfl ⟨rfl, rfl⟩ h hP
    · refine wp_iload_n dX8_keep_12 rfl rfl ?_
      refine wp_aload_n dX8_keep_13 rfl rfl ?_
      refine wm_getR dX8_keep_14 s_0 fk_X8_42 rfl r_0_4 rfl ?_
      refine wm_getI dX8_keep_17 s_69 fk_X8_235 rfl rfl ?_
      refine wm_icmp_lt 25 dX8_keep_20 rfl rfl h (fun h => ?_) (fun h => ?_)
      · refine wp_aload_n dX8_keep_25 rfl rfl ?_
        refine wm_getR dX8_keep_26 s_0 fk_X8_48 rfl r_0_5 rfl ?_
        refine wp_iload_n dX8_keep_29 rfl rfl ?_
        refine wm_shelf dX8_keep_30 rfl h (fun s2 hs2 h => ?_)
        refine wp_iload_n dX8_keep_31 rfl rfl ?_
        refine wm_callVN (As := [.int p2]) (rest := []) dX8_keep_32 ok_X8_250 (by decide) rfl (sS_0 hs2) ⟨_, rfl⟩ (Nat.le_of_ble_eq_true rfl) ⟨rfl, rfl⟩ rfl (fun t h => o_X5_holdBody hs2 h) h (fun q3 h => ?_)
        refine wp_iconst (1 : Int32) dX8_keep_35 ic_1 rfl ?_
        exact wm_iret dX8_keep_36 rfl ⟨rfl, rfl⟩ h hP
      · refine wp_iconst (-1 : Int32) dX8_keep_23 ic_m1 rfl ?_
        exact wm_iret dX8_keep_24 rfl ⟨rfl, rfl⟩ h hP
theorem o_X8_keep {g : Gx}  {p1 : Int32} {p2 : Int32} {m : Mem} {t : Int32 × Mem} (h : f_X8_keep p1 p2 m = some t) : MxM g 2 mi_X8_keep [.ref 0, .int p1, .int p2] m (qI t) := mx_of pn_X8 (Nat.le_of_ble_eq_true rfl) (k_X8_keep_E h ⟨rfl, rfl, rfl, rfl, rfl⟩)
noncomputable def f_X8_law   (m : Mem) : Option (Int32 × Mem) := (f_X2_enact m).bind (fun q1 => if q1.1 < 0 then bnd (sI q1.2 1 16 ((gI q1.2 1 16) + (1 : Int32))) (fun m2 => some ((1 : Int32), m2)) else some (((-100 : Int32) - q1.1), q1.2))
theorem k_X8_law_E {g : Gx}   {Q : Qy} {m : Mem} {t : Int32 × Mem} (h : f_X8_law m = some t) (hP : pI Q t) : WpM g 155 mi_X8_law 0 [some (.ref 0), none] [] m (zM g mi_X8_law Q) := by
  refine wp_aload_n dX8_law_0 rfl rfl ?_
  refine wm_getR dX8_law_1 s_0 fk_X8_10 rfl r_0_0 rfl ?_
  refine wm_getR dX8_law_4 s_1 fk_X8_89 rfl r_1_12 rfl ?_
  refine wm_callVI (As := []) (rest := []) dX8_law_7 ok_X8_103 (by decide) rfl s_14 ⟨_, rfl⟩ (Nat.le_of_ble_eq_true rfl) ⟨rfl, rfl⟩ rfl (fun t h => o_X2_enact h) h (fun q1 h => ?_)
  refine wp_istore_n (L' := [some (.ref 0), some (.int q1.1)]) dX8_law_10 (by decide) rfl rfl rfl ?_
  refine wp_iload_n dX8_law_11 rfl rfl ?_
  refine wm_if_lt 20 dX8_law_12 rfl rfl h (fun h => ?_) (fun h => ?_)
  · refine wp_aload_n dX8_law_20 rfl rfl ?_
    refine wm_getR dX8_law_21 s_0 fk_X8_10 rfl r_0_0 rfl ?_
    refine wp_dup dX8_law_24 rfl rfl ?_
    refine wm_getI dX8_law_25 s_1 fk_X8_107 rfl rfl ?_
    refine wp_iconst (1 : Int32) dX8_law_28 ic_1 rfl ?_
    refine wp_iadd dX8_law_29 rfl ?_
    refine wm_putI dX8_law_30 s_1 fk_X8_107 rfl rfl h (fun m2 h => ?_)
    refine wp_iconst (1 : Int32) dX8_law_33 ic_1 rfl ?_
    exact wm_iret dX8_law_34 rfl ⟨rfl, rfl⟩ h hP
  · refine wp_bipush (-100 : Int32) dX8_law_15 ib_m100 rfl ?_
    refine wp_iload_n dX8_law_17 rfl rfl ?_
    refine wp_isub dX8_law_18 rfl ?_
    exact wm_iret dX8_law_19 rfl ⟨rfl, rfl⟩ h hP
theorem o_X8_law {g : Gx}   {m : Mem} {t : Int32 × Mem} (h : f_X8_law m = some t) : MxM g 155 mi_X8_law [.ref 0] m (qI t) := mx_of pn_X8 (Nat.le_of_ble_eq_true rfl) (k_X8_law_E h ⟨rfl, rfl, rfl, rfl, rfl⟩)
noncomputable def f_X8_meet  (p1 : Int32) (m : Mem) : Option (Int32 × Mem) := (f_X4_takesOrder p1 m).bind (fun q1 => if ¬ q1.1 = 0 then (f_X6_isBare q1.2).bind (fun q2 => if q2.1 = 0 then (f_X4_hold q2.2).bind (fun q3 => some (q3.1, q3.2)) else some ((-5 : Int32), q2.2)) else some ((-1 : Int32), q1.2))
theorem k_X8_meet_E {g : Gx}  {p1 : Int32} {Q : Qy} {m : Mem} {t : Int32 × Mem} (h : f_X8_meet p1 m = some t) (hP : pI Q t) : WpM g 8 mi_X8_meet 0 [some (.ref 0), some (.int p1)] [] m (zM g mi_X8_meet Q) := by
  refine wp_aload_n dX8_meet_0 rfl rfl ?_
  refine wm_getR dX8_meet_1 s_0 fk_X8_28 rfl r_0_2 rfl ?_
  refine wp_iload_n dX8_meet_4 rfl rfl ?_
  refine wm_callVI (As := [.int p1]) (rest := []) dX8_meet_5 ok_X8_151 (by decide) rfl s_24 ⟨_, rfl⟩ (Nat.le_of_ble_eq_true rfl) ⟨rfl, rfl⟩ rfl (fun t h => o_X4_takesOrder h) h (fun q1 h => ?_)
  refine wm_if_ne 13 dX8_meet_8 rfl rfl h (fun h => ?_) (fun h => ?_)
  · refine wp_aload_n dX8_meet_13 rfl rfl ?_
    refine wm_getR dX8_meet_14 s_0 fk_X8_10 rfl r_0_0 rfl ?_
    refine wm_callVI (As := []) (rest := []) dX8_meet_17 ok_X8_154 (by decide) rfl s_1 ⟨_, rfl⟩ (Nat.le_of_ble_eq_true rfl) ⟨rfl, rfl⟩ rfl (fun t h => o_X6_isBare h) h (fun q2 h => ?_)
    refine wm_if_eq 28 dX8_meet_20 rfl rfl h (fun h => ?_) (fun h => ?_)
    · refine wp_aload_n dX8_meet_28 rfl rfl ?_
      refine wm_getR dX8_meet_29 s_0 fk_X8_28 rfl r_0_2 rfl ?_
      refine wm_callVI (As := []) (rest := []) dX8_meet_32 ok_X8_157 (by decide) rfl s_24 ⟨_, rfl⟩ (Nat.le_of_ble_eq_true rfl) ⟨rfl, rfl⟩ rfl (fun t h => o_X4_hold h) h (fun q3 h => ?_)
      exact wm_iret dX8_meet_35 rfl ⟨rfl, rfl⟩ h hP
    · refine wp_bipush (-5 : Int32) dX8_meet_23 ib_m5 rfl ?_
      refine wp_goto 35 dX8_meet_25 rfl ?_
      exact wm_iret dX8_meet_35 rfl ⟨rfl, rfl⟩ h hP
  · refine wp_iconst (-1 : Int32) dX8_meet_11 ic_m1 rfl ?_
    exact wm_iret dX8_meet_12 rfl ⟨rfl, rfl⟩ h hP
theorem o_X8_meet {g : Gx}  {p1 : Int32} {m : Mem} {t : Int32 × Mem} (h : f_X8_meet p1 m = some t) : MxM g 8 mi_X8_meet [.ref 0, .int p1] m (qI t) := mx_of pn_X8 (Nat.le_of_ble_eq_true rfl) (k_X8_meet_E h ⟨rfl, rfl, rfl, rfl, rfl⟩)
noncomputable def f_X8_mend_J57  (v1 : Int32) (v2 : Int32) (v3 : Int32) (t0 : Int32) (t1 : Int32) (m : Mem) : Option (Int32 × Mem) := if t1 < t0 then (f_X6_mendable v2 m).bind (fun q1 => ckS q1.1 v1 (bnd (gI q1.2 q1.1 (ix v1)) (fun y2 => if y2 = v3 then some (y2, q1.2) else (f_X1_note v1 v2 y2 v3 q1.2).bind (fun q3 => (f_X6_change v1 v2 v3 q3).bind (fun q4 => some (y2, q4)))))) else some ((-2000000000 : Int32), m)
theorem k_X8_mend_J57 {g : Gx}  {v1 : Int32} {v2 : Int32} {v3 : Int32} {t0 : Int32} {t1 : Int32}  {Q : Qy} {m : Mem} {t : Int32 × Mem} (h : f_X8_mend_J57 v1 v2 v3 t0 t1 m = some t) (hP : pI Q t) : WpM g 3 mi_X8_mend 57 [some (.ref 0), some (.int v1), some (.int v2), some (.int v3), none] [.int t0, .int t1] m (zM g mi_X8_mend Q) := by
  refine wm_icmp_lt 63 dX8_mend_57 rfl rfl h (fun h => ?_) (fun h => ?_)
  · refine wp_aload_n dX8_mend_63 rfl rfl ?_
    refine wm_getR dX8_mend_64 s_0 fk_X8_10 rfl r_0_0 rfl ?_
    refine wp_iload_n dX8_mend_67 rfl rfl ?_
    refine wm_callVR (As := [.int v2]) (rest := []) dX8_mend_68 ok_X8_127 (by decide) rfl s_1 ⟨_, rfl⟩ (Nat.le_of_ble_eq_true rfl) ⟨rfl, rfl⟩ rfl (fun t h => o_X6_mendable h) h (fun q1 h => ?_)
    refine wp_iload_n dX8_mend_71 rfl rfl ?_
    refine wm_ialdS dX8_mend_72 rfl h (fun h => ?_)
    refine wm_nm h (fun y2 h => ?_)
    refine wp_istore (L' := [some (.ref 0), some (.int v1), some (.int v2), some (.int v3), some (.int y2)]) dX8_mend_73 (by decide) rfl rfl rfl ?_
    refine wp_iload dX8_mend_75 rfl rfl ?_
    refine wp_iload_n dX8_mend_77 rfl rfl ?_
    refine wm_icmp_eq 103 dX8_mend_78 rfl rfl h (fun h => ?_) (fun h => ?_)
    · refine wp_iload dX8_mend_103 rfl rfl ?_
      exact wm_iret dX8_mend_105 rfl ⟨rfl, rfl⟩ h hP
    · refine wp_aload_n dX8_mend_81 rfl rfl ?_
      refine wm_getR dX8_mend_82 s_0 fk_X8_19 rfl r_0_1 rfl ?_
      refine wp_iload_n dX8_mend_85 rfl rfl ?_
      refine wp_iload_n dX8_mend_86 rfl rfl ?_
      refine wp_iload dX8_mend_87 rfl rfl ?_
      refine wp_iload_n dX8_mend_89 rfl rfl ?_
      refine wm_callVN (As := [.int v1, .int v2, .int y2, .int v3]) (rest := []) dX8_mend_90 ok_X8_131 (by decide) rfl s_19 ⟨_, rfl⟩ (Nat.le_of_ble_eq_true rfl) ⟨rfl, rfl⟩ rfl (fun t h => o_X1_note h) h (fun q3 h => ?_)
      refine wp_aload_n dX8_mend_93 rfl rfl ?_
      refine wm_getR dX8_mend_94 s_0 fk_X8_10 rfl r_0_0 rfl ?_
      refine wp_iload_n dX8_mend_97 rfl rfl ?_
      refine wp_iload_n dX8_mend_98 rfl rfl ?_
      refine wp_iload_n dX8_mend_99 rfl rfl ?_
      refine wm_callVN (As := [.int v1, .int v2, .int v3]) (rest := []) dX8_mend_100 ok_X8_135 (by decide) rfl s_1 ⟨_, rfl⟩ (Nat.le_of_ble_eq_true rfl) ⟨rfl, rfl⟩ rfl (fun t h => o_X6_change h) h (fun q4 h => ?_)
      refine wp_iload dX8_mend_103 rfl rfl ?_
      exact wm_iret dX8_mend_105 rfl ⟨rfl, rfl⟩ h hP
  · refine wp_ldc dX8_mend_60 q722 rfl ?_
    exact wm_iret dX8_mend_62 rfl ⟨rfl, rfl⟩ h hP
noncomputable def f_X8_mend  (p1 : Int32) (p2 : Int32) (p3 : Int32) (m : Mem) : Option (Int32 × Mem) := if p2 < 0 then some ((-2000000000 : Int32), m) else if (5 : Int32) ≤ p2 then some ((-2000000000 : Int32), m) else ck p2 (st_2.length) (if p3 < (st_2.getD (ix p2) 0) then some ((-2000000000 : Int32), m) else ck p2 (st_3.length) (if p3 ≤ (st_3.getD (ix p2) 0) then if p1 < 0 then some ((-2000000000 : Int32), m) else if (3 : Int32) ≤ p2 then f_X8_mend_J57 p1 p2 p3 (gI m 1 14) p1 m else f_X8_mend_J57 p1 p2 p3 (gI m 1 13) p1 m else some ((-2000000000 : Int32), m)))
theorem k_X8_mend_E {g : Gx}  {p1 : Int32} {p2 : Int32} {p3 : Int32} {Q : Qy} {m : Mem} {t : Int32 × Mem} (h : f_X8_mend p1 p2 p3 m = some t) (hP : pI Q t) : WpM g 3 mi_X8_mend 0 [some (.ref 0), some (.int p1), some (.int p2), some (.int p3), none] [] m (zM g mi_X8_mend Q) := by
  refine wp_iload_n dX8_mend_0 rfl rfl ?_
  refine wm_if_lt 27 dX8_mend_1 rfl rfl h (fun h => ?_) (fun h => ?_)
  · refine wp_ldc dX8_mend_27 q722 rfl ?_
    exact wm_iret dX8_mend_29 rfl ⟨rfl, rfl⟩ h hP
  · refine wp_iload_n dX8_mend_4 rfl rfl ?_
    refine wp_iconst (5 : Int32) dX8_mend_5 ic_5 rfl ?_
    refine wm_icmp_ge 27 dX8_mend_6 rfl rfl h (fun h => ?_) (fun h => ?_)
    · refine wp_ldc dX8_mend_27 q722 rfl ?_
      exact wm_iret dX8_mend_29 rfl ⟨rfl, rfl⟩ h hP
    · refine wp_iload_n dX8_mend_9 rfl rfl ?_
      refine wp_gets (j := 2) dX8_mend_10 rfl q718 rfl ?_
      refine wp_iload_n dX8_mend_13 rfl rfl ?_
      refine wm_ti (j := 2) (xs := st_2) dX8_mend_14 rfl rfl h (fun h => ?_)
      refine wm_icmp_lt 27 dX8_mend_15 rfl rfl h (fun h => ?_) (fun h => ?_)
      · refine wp_ldc dX8_mend_27 q722 rfl ?_
        exact wm_iret dX8_mend_29 rfl ⟨rfl, rfl⟩ h hP
      · refine wp_iload_n dX8_mend_18 rfl rfl ?_
        refine wp_gets (j := 3) dX8_mend_19 rfl q720 rfl ?_
        refine wp_iload_n dX8_mend_22 rfl rfl ?_
        refine wm_ti (j := 3) (xs := st_3) dX8_mend_23 rfl rfl h (fun h => ?_)
        refine wm_icmp_le 30 dX8_mend_24 rfl rfl h (fun h => ?_) (fun h => ?_)
        · refine wp_iload_n dX8_mend_30 rfl rfl ?_
          refine wm_if_lt 60 dX8_mend_31 rfl rfl h (fun h => ?_) (fun h => ?_)
          · refine wp_ldc dX8_mend_60 q722 rfl ?_
            exact wm_iret dX8_mend_62 rfl ⟨rfl, rfl⟩ h hP
          · refine wp_iload_n dX8_mend_34 rfl rfl ?_
            refine wp_iload_n dX8_mend_35 rfl rfl ?_
            refine wp_iconst (3 : Int32) dX8_mend_36 ic_3 rfl ?_
            refine wm_icmp_ge 50 dX8_mend_37 rfl rfl h (fun h => ?_) (fun h => ?_)
            · refine wp_aload_n dX8_mend_50 rfl rfl ?_
              refine wm_getR dX8_mend_51 s_0 fk_X8_10 rfl r_0_0 rfl ?_
              refine wm_getI dX8_mend_54 s_1 fk_X8_61 rfl rfl ?_
              exact wm_mask (L' := [some (.ref 0), some (.int p1), some (.int p2), some (.int p3), none]) [true, true, true, true, false] rfl (k_X8_mend_J57  h hP)
            · refine wp_aload_n dX8_mend_40 rfl rfl ?_
              refine wm_getR dX8_mend_41 s_0 fk_X8_10 rfl r_0_0 rfl ?_
              refine wm_getI dX8_mend_44 s_1 fk_X8_53 rfl rfl ?_
              refine wp_goto 57 dX8_mend_47 rfl ?_
              exact wm_mask (L' := [some (.ref 0), some (.int p1), some (.int p2), some (.int p3), none]) [true, true, true, true, false] rfl (k_X8_mend_J57  h hP)
        · refine wp_ldc dX8_mend_27 q722 rfl ?_
          exact wm_iret dX8_mend_29 rfl ⟨rfl, rfl⟩ h hP
theorem o_X8_mend {g : Gx}  {p1 : Int32} {p2 : Int32} {p3 : Int32} {m : Mem} {t : Int32 × Mem} (h : f_X8_mend p1 p2 p3 m = some t) : MxM g 3 mi_X8_mend [.ref 0, .int p1, .int p2, .int p3] m (qI t) := mx_of pn_X8 (Nat.le_of_ble_eq_true rfl) (k_X8_mend_E h ⟨rfl, rfl, rfl, rfl, rfl⟩)
noncomputable def f_X8_of_J54  (v1 : Int32) (v2 : Int32) (m : Mem) : Option (Int32 × Mem) := if (gI m 1 14) ≤ v1 then some ((-2000000000 : Int32), m) else if ¬ v2 = (10 : Int32) then ck v1 6 (some ((gI m 7 (ix v1)), m)) else ck v1 6 (some ((gI m 6 (ix v1)), m))
theorem k_X8_of_J54 {g : Gx}  {v1 : Int32} {v2 : Int32}  {Q : Qy} {m : Mem} {t : Int32 × Mem} (h : f_X8_of_J54 v1 v2 m = some t) (hP : pI Q t) : WpM g 2 mi_X8_of 54 [some (.ref 0), some (.int v1), some (.int v2)] [] m (zM g mi_X8_of Q) := by
  refine wp_iload_n dX8_of_54 rfl rfl ?_
  refine wp_aload_n dX8_of_55 rfl rfl ?_
  refine wm_getR dX8_of_56 s_0 fk_X8_10 rfl r_0_0 rfl ?_
  refine wm_getI dX8_of_59 s_1 fk_X8_61 rfl rfl ?_
  refine wm_icmp_ge 93 dX8_of_62 rfl rfl h (fun h => ?_) (fun h => ?_)
  · refine wp_ldc dX8_of_93 q722 rfl ?_
    exact wm_iret dX8_of_95 rfl ⟨rfl, rfl⟩ h hP
  · refine wp_iload_n dX8_of_65 rfl rfl ?_
    refine wp_bipush (10 : Int32) dX8_of_66 ib_10 rfl ?_
    refine wm_icmp_ne 81 dX8_of_68 rfl rfl h (fun h => ?_) (fun h => ?_)
    · refine wp_aload_n dX8_of_81 rfl rfl ?_
      refine wm_getR dX8_of_82 s_0 fk_X8_10 rfl r_0_0 rfl ?_
      refine wm_getR dX8_of_85 s_1 fk_X8_145 rfl r_1_5 rfl ?_
      refine wp_iload_n dX8_of_88 rfl rfl ?_
      refine wm_iald dX8_of_89 s_7 rfl h (fun h => ?_)
      refine wp_goto 95 dX8_of_90 rfl ?_
      exact wm_iret dX8_of_95 rfl ⟨rfl, rfl⟩ h hP
    · refine wp_aload_n dX8_of_71 rfl rfl ?_
      refine wm_getR dX8_of_72 s_0 fk_X8_10 rfl r_0_0 rfl ?_
      refine wm_getR dX8_of_75 s_1 fk_X8_142 rfl r_1_4 rfl ?_
      refine wp_goto 88 dX8_of_78 rfl ?_
      refine wp_iload_n dX8_of_88 rfl rfl ?_
      refine wm_iald dX8_of_89 s_6 rfl h (fun h => ?_)
      refine wp_goto 95 dX8_of_90 rfl ?_
      exact wm_iret dX8_of_95 rfl ⟨rfl, rfl⟩ h hP
noncomputable def f_X8_of_J42  (v1 : Int32) (v2 : Int32) (m : Mem) : Option (Int32 × Mem) := if v2 = (10 : Int32) then f_X8_of_J54 v1 v2 m else if ¬ v2 = (11 : Int32) then if v2 < (20 : Int32) then some ((-2000000000 : Int32), m) else if (22 : Int32) < v2 then some ((-2000000000 : Int32), m) else if (gI m 1 15) ≤ v1 then some ((-2000000000 : Int32), m) else (f_X6_ofCard v1 v2 m).bind (fun q1 => some (q1.1, q1.2)) else f_X8_of_J54 v1 v2 m
theorem k_X8_of_J42 {g : Gx}  {v1 : Int32} {v2 : Int32}  {Q : Qy} {m : Mem} {t : Int32 × Mem} (h : f_X8_of_J42 v1 v2 m = some t) (hP : pI Q t) : WpM g 2 mi_X8_of 42 [some (.ref 0), some (.int v1), some (.int v2)] [] m (zM g mi_X8_of Q) := by
  refine wp_iload_n dX8_of_42 rfl rfl ?_
  refine wp_bipush (10 : Int32) dX8_of_43 ib_10 rfl ?_
  refine wm_icmp_eq 54 dX8_of_45 rfl rfl h (fun h => ?_) (fun h => ?_)
  · exact wm_mask (L' := [some (.ref 0), some (.int v1), some (.int v2)]) [true, true, true] rfl (k_X8_of_J54  h hP)
  · refine wp_iload_n dX8_of_48 rfl rfl ?_
    refine wp_bipush (11 : Int32) dX8_of_49 ib_11 rfl ?_
    refine wm_icmp_ne 96 dX8_of_51 rfl rfl h (fun h => ?_) (fun h => ?_)
    · refine wp_iload_n dX8_of_96 rfl rfl ?_
      refine wp_bipush (20 : Int32) dX8_of_97 ib_20 rfl ?_
      refine wm_icmp_lt 134 dX8_of_99 rfl rfl h (fun h => ?_) (fun h => ?_)
      · refine wp_ldc dX8_of_134 q722 rfl ?_
        exact wm_iret dX8_of_136 rfl ⟨rfl, rfl⟩ h hP
      · refine wp_iload_n dX8_of_102 rfl rfl ?_
        refine wp_bipush (22 : Int32) dX8_of_103 ib_22 rfl ?_
        refine wm_icmp_gt 134 dX8_of_105 rfl rfl h (fun h => ?_) (fun h => ?_)
        · refine wp_ldc dX8_of_134 q722 rfl ?_
          exact wm_iret dX8_of_136 rfl ⟨rfl, rfl⟩ h hP
        · refine wp_iload_n dX8_of_108 rfl rfl ?_
          refine wp_aload_n dX8_of_109 rfl rfl ?_
          refine wm_getR dX8_of_110 s_0 fk_X8_10 rfl r_0_0 rfl ?_
          refine wm_getI dX8_of_113 s_1 fk_X8_71 rfl rfl ?_
          refine wm_icmp_ge 131 dX8_of_116 rfl rfl h (fun h => ?_) (fun h => ?_)
          · refine wp_ldc dX8_of_131 q722 rfl ?_
            exact wm_iret dX8_of_133 rfl ⟨rfl, rfl⟩ h hP
          · refine wp_aload_n dX8_of_119 rfl rfl ?_
            refine wm_getR dX8_of_120 s_0 fk_X8_10 rfl r_0_0 rfl ?_
            refine wp_iload_n dX8_of_123 rfl rfl ?_
            refine wp_iload_n dX8_of_124 rfl rfl ?_
            refine wm_callVI (As := [.int v1, .int v2]) (rest := []) dX8_of_125 ok_X8_148 (by decide) rfl s_1 ⟨_, rfl⟩ (Nat.le_of_ble_eq_true rfl) ⟨rfl, rfl⟩ rfl (fun t h => o_X6_ofCard h) h (fun q1 h => ?_)
            refine wp_goto 133 dX8_of_128 rfl ?_
            exact wm_iret dX8_of_133 rfl ⟨rfl, rfl⟩ h hP
    · exact wm_mask (L' := [some (.ref 0), some (.int v1), some (.int v2)]) [true, true, true] rfl (k_X8_of_J54  h hP)
noncomputable def f_X8_of  (p1 : Int32) (p2 : Int32) (m : Mem) : Option (Int32 × Mem) := if 0 ≤ p1 then if p2 < 0 then f_X8_of_J42 p1 p2 m else if (3 : Int32) < p2 then f_X8_of_J42 p1 p2 m else if (gI m 1 13) ≤ p1 then some ((-2000000000 : Int32), m) else (f_X6_ofPerson p1 p2 m).bind (fun q2 => some (q2.1, q2.2)) else some ((-2000000000 : Int32), m)
theorem k_X8_of_E {g : Gx}  {p1 : Int32} {p2 : Int32} {Q : Qy} {m : Mem} {t : Int32 × Mem} (h : f_X8_of p1 p2 m = some t) (hP : pI Q t) : WpM g 2 mi_X8_of 0 [some (.ref 0), some (.int p1), some (.int p2)] [] m (zM g mi_X8_of Q) := by
  refine wp_iload_n dX8_of_0 rfl rfl ?_
  refine wm_if_ge 7 dX8_of_1 rfl rfl h (fun h => ?_) (fun h => ?_)
  · refine wp_iload_n dX8_of_7 rfl rfl ?_
    refine wm_if_lt 42 dX8_of_8 rfl rfl h (fun h => ?_) (fun h => ?_)
    · exact wm_mask (L' := [some (.ref 0), some (.int p1), some (.int p2)]) [true, true, true] rfl (k_X8_of_J42  h hP)
    · refine wp_iload_n dX8_of_11 rfl rfl ?_
      refine wp_iconst (3 : Int32) dX8_of_12 ic_3 rfl ?_
      refine wm_icmp_gt 42 dX8_of_13 rfl rfl h (fun h => ?_) (fun h => ?_)
      · exact wm_mask (L' := [some (.ref 0), some (.int p1), some (.int p2)]) [true, true, true] rfl (k_X8_of_J42  h hP)
      · refine wp_iload_n dX8_of_16 rfl rfl ?_
        refine wp_aload_n dX8_of_17 rfl rfl ?_
        refine wm_getR dX8_of_18 s_0 fk_X8_10 rfl r_0_0 rfl ?_
        refine wm_getI dX8_of_21 s_1 fk_X8_53 rfl rfl ?_
        refine wm_icmp_ge 39 dX8_of_24 rfl rfl h (fun h => ?_) (fun h => ?_)
        · refine wp_ldc dX8_of_39 q722 rfl ?_
          exact wm_iret dX8_of_41 rfl ⟨rfl, rfl⟩ h hP
        · refine wp_aload_n dX8_of_27 rfl rfl ?_
          refine wm_getR dX8_of_28 s_0 fk_X8_10 rfl r_0_0 rfl ?_
          refine wp_iload_n dX8_of_31 rfl rfl ?_
          refine wp_iload_n dX8_of_32 rfl rfl ?_
          refine wm_callVI (As := [.int p1, .int p2]) (rest := []) dX8_of_33 ok_X8_139 (by decide) rfl s_1 ⟨_, rfl⟩ (Nat.le_of_ble_eq_true rfl) ⟨rfl, rfl⟩ rfl (fun t h => o_X6_ofPerson h) h (fun q2 h => ?_)
          refine wp_goto 41 dX8_of_36 rfl ?_
          exact wm_iret dX8_of_41 rfl ⟨rfl, rfl⟩ h hP
  · refine wp_ldc dX8_of_4 q722 rfl ?_
    exact wm_iret dX8_of_6 rfl ⟨rfl, rfl⟩ h hP
theorem o_X8_of {g : Gx}  {p1 : Int32} {p2 : Int32} {m : Mem} {t : Int32 × Mem} (h : f_X8_of p1 p2 m = some t) : MxM g 2 mi_X8_of [.ref 0, .int p1, .int p2] m (qI t) := mx_of pn_X8 (Nat.le_of_ble_eq_true rfl) (k_X8_of_E h ⟨rfl, rfl, rfl, rfl, rfl⟩)
noncomputable def f_X8_order  (p1 : Int32) (m : Mem) : Option (Int32 × Mem) := (f_X7_answer (1 : Int32) p1 m).bind (fun q1 => some (q1.1, q1.2))
theorem k_X8_order_E {g : Gx}  {p1 : Int32} {Q : Qy} {m : Mem} {t : Int32 × Mem} (h : f_X8_order p1 m = some t) (hP : pI Q t) : WpM g 8 mi_X8_order 0 [some (.ref 0), some (.int p1)] [] m (zM g mi_X8_order Q) := by
  refine wp_aload_n dX8_order_0 rfl rfl ?_
  refine wm_getR dX8_order_1 s_0 fk_X8_35 rfl r_0_3 rfl ?_
  refine wp_iconst (1 : Int32) dX8_order_4 ic_1 rfl ?_
  refine wp_iload_n dX8_order_5 rfl rfl ?_
  refine wm_callVI (As := [.int (1 : Int32), .int p1]) (rest := []) dX8_order_6 ok_X8_201 (by decide) rfl s_53 ⟨_, rfl⟩ (Nat.le_of_ble_eq_true rfl) ⟨rfl, rfl⟩ rfl (fun t h => o_X7_answer h) h (fun q1 h => ?_)
  exact wm_iret dX8_order_9 rfl ⟨rfl, rfl⟩ h hP
theorem o_X8_order {g : Gx}  {p1 : Int32} {m : Mem} {t : Int32 × Mem} (h : f_X8_order p1 m = some t) : MxM g 8 mi_X8_order [.ref 0, .int p1] m (qI t) := mx_of pn_X8 (Nat.le_of_ble_eq_true rfl) (k_X8_order_E h ⟨rfl, rfl, rfl, rfl, rfl⟩)
noncomputable def f_X8_person  (p1 : Int32) (p2 : Int32) (m : Mem) : Option (Int32 × Mem) := if p1 < 0 then some ((-1 : Int32), m) else if (99 : Int32) < p1 then some ((-1 : Int32), m) else if p2 < 0 then some ((-1 : Int32), m) else if p2 ≤ (9999 : Int32) then if (gI m 1 13) < (10 : Int32) then (f_X6_addPerson p1 p2 m).bind (fun q1 => some (q1.1, q1.2)) else some ((-3 : Int32), m) else some ((-1 : Int32), m)
theorem k_X8_person_E {g : Gx}  {p1 : Int32} {p2 : Int32} {Q : Qy} {m : Mem} {t : Int32 × Mem} (h : f_X8_person p1 p2 m = some t) (hP : pI Q t) : WpM g 2 mi_X8_person 0 [some (.ref 0), some (.int p1), some (.int p2)] [] m (zM g mi_X8_person Q) := by
  refine wp_iload_n dX8_person_0 rfl rfl ?_
  refine wm_if_lt 21 dX8_person_1 rfl rfl h (fun h => ?_) (fun h => ?_)
  · refine wp_iconst (-1 : Int32) dX8_person_21 ic_m1 rfl ?_
    exact wm_iret dX8_person_22 rfl ⟨rfl, rfl⟩ h hP
  · refine wp_iload_n dX8_person_4 rfl rfl ?_
    refine wp_bipush (99 : Int32) dX8_person_5 ib_99 rfl ?_
    refine wm_icmp_gt 21 dX8_person_7 rfl rfl h (fun h => ?_) (fun h => ?_)
    · refine wp_iconst (-1 : Int32) dX8_person_21 ic_m1 rfl ?_
      exact wm_iret dX8_person_22 rfl ⟨rfl, rfl⟩ h hP
    · refine wp_iload_n dX8_person_10 rfl rfl ?_
      refine wm_if_lt 21 dX8_person_11 rfl rfl h (fun h => ?_) (fun h => ?_)
      · refine wp_iconst (-1 : Int32) dX8_person_21 ic_m1 rfl ?_
        exact wm_iret dX8_person_22 rfl ⟨rfl, rfl⟩ h hP
      · refine wp_iload_n dX8_person_14 rfl rfl ?_
        refine wp_sipush (9999 : Int32) dX8_person_15 is_9999 rfl ?_
        refine wm_icmp_le 23 dX8_person_18 rfl rfl h (fun h => ?_) (fun h => ?_)
        · refine wp_aload_n dX8_person_23 rfl rfl ?_
          refine wm_getR dX8_person_24 s_0 fk_X8_10 rfl r_0_0 rfl ?_
          refine wm_getI dX8_person_27 s_1 fk_X8_53 rfl rfl ?_
          refine wp_bipush (10 : Int32) dX8_person_30 ib_10 rfl ?_
          refine wm_icmp_lt 40 dX8_person_32 rfl rfl h (fun h => ?_) (fun h => ?_)
          · refine wp_aload_n dX8_person_40 rfl rfl ?_
            refine wm_getR dX8_person_41 s_0 fk_X8_10 rfl r_0_0 rfl ?_
            refine wp_iload_n dX8_person_44 rfl rfl ?_
            refine wp_iload_n dX8_person_45 rfl rfl ?_
            refine wm_callVI (As := [.int p1, .int p2]) (rest := []) dX8_person_46 ok_X8_57 (by decide) rfl s_1 ⟨_, rfl⟩ (Nat.le_of_ble_eq_true rfl) ⟨rfl, rfl⟩ rfl (fun t h => o_X6_addPerson h) h (fun q1 h => ?_)
            exact wm_iret dX8_person_49 rfl ⟨rfl, rfl⟩ h hP
          · refine wp_bipush (-3 : Int32) dX8_person_35 ib_m3 rfl ?_
            refine wp_goto 49 dX8_person_37 rfl ?_
            exact wm_iret dX8_person_49 rfl ⟨rfl, rfl⟩ h hP
        · refine wp_iconst (-1 : Int32) dX8_person_21 ic_m1 rfl ?_
          exact wm_iret dX8_person_22 rfl ⟨rfl, rfl⟩ h hP
theorem o_X8_person {g : Gx}  {p1 : Int32} {p2 : Int32} {m : Mem} {t : Int32 × Mem} (h : f_X8_person p1 p2 m = some t) : MxM g 2 mi_X8_person [.ref 0, .int p1, .int p2] m (qI t) := mx_of pn_X8 (Nat.le_of_ble_eq_true rfl) (k_X8_person_E h ⟨rfl, rfl, rfl, rfl, rfl⟩)
noncomputable def f_X8_put  (p1 : Int32) (p2 : Int32) (p3 : Int64) (m : Mem) : Option (Int32 × Mem) := (f_X8_isNoShelf p1 m).bind (fun q1 => if q1.1 = 0 then ck p1 6 (bnd (73 + 2 * ix p1) (fun s2 => (f_X5_refusalAt s2 p2 q1.2).bind (fun q3 => if q3.1 = 0 then ck p1 6 (bnd (73 + 2 * ix p1) (fun s4 => (f_X5_store s4 p2 p3 q3.2).bind (fun q5 => some ((1 : Int32), q5)))) else some (q3.1, q3.2)))) else some ((-1 : Int32), q1.2))
theorem k_X8_put_E {g : Gx}  {p1 : Int32} {p2 : Int32} {p3 : Int64} {Q : Qy} {m : Mem} {t : Int32 × Mem} (h : f_X8_put p1 p2 p3 m = some t) (hP : pI Q t) : WpM g 2 mi_X8_put 0 [some (.ref 0), some (.int p1), some (.int p2), some (.long p3), none, none] [] m (zM g mi_X8_put Q) := by
  refine wp_iload_n dX8_put_0 rfl rfl ?_
  refine wm_callSI (As := [.int p1]) (rest := []) dX8_put_1 ok_X8_78 (by decide) rfl (Nat.le_of_ble_eq_true rfl) ⟨rfl, rfl⟩ rfl (fun t h => o_X8_isNoShelf h) h (fun q1 h => ?_)
  refine wm_if_eq 9 dX8_put_4 rfl rfl h (fun h => ?_) (fun h => ?_)
  · refine wp_aload_n dX8_put_9 rfl rfl ?_
    refine wm_getR dX8_put_10 s_0 fk_X8_48 rfl r_0_5 rfl ?_
    refine wp_iload_n dX8_put_13 rfl rfl ?_
    refine wm_shelf dX8_put_14 rfl h (fun s2 hs2 h => ?_)
    refine wp_iload_n dX8_put_15 rfl rfl ?_
    refine wm_callVI (As := [.int p2]) (rest := []) dX8_put_16 ok_X8_258 (by decide) rfl (sS_0 hs2) ⟨_, rfl⟩ (Nat.le_of_ble_eq_true rfl) ⟨rfl, rfl⟩ rfl (fun t h => o_X5_refusalAt hs2 h) h (fun q3 h => ?_)
    refine wp_istore (L' := [some (.ref 0), some (.int p1), some (.int p2), some (.long p3), none, some (.int q3.1)]) dX8_put_19 (by decide) rfl rfl rfl ?_
    refine wp_iload dX8_put_21 rfl rfl ?_
    refine wm_if_eq 29 dX8_put_23 rfl rfl h (fun h => ?_) (fun h => ?_)
    · refine wp_aload_n dX8_put_29 rfl rfl ?_
      refine wm_getR dX8_put_30 s_0 fk_X8_48 rfl r_0_5 rfl ?_
      refine wp_iload_n dX8_put_33 rfl rfl ?_
      refine wm_shelf dX8_put_34 rfl h (fun s4 hs4 h => ?_)
      refine wp_iload_n dX8_put_35 rfl rfl ?_
      refine wp_lload_n dX8_put_36 rfl rfl ?_
      refine wm_callVN (As := [.int p2, .long p3]) (rest := []) dX8_put_37 ok_X8_261 (by decide) rfl (sS_0 hs4) ⟨_, rfl⟩ (Nat.le_of_ble_eq_true rfl) ⟨rfl, rfl⟩ rfl (fun t h => o_X5_store hs4 h) h (fun q5 h => ?_)
      refine wp_iconst (1 : Int32) dX8_put_40 ic_1 rfl ?_
      exact wm_iret dX8_put_41 rfl ⟨rfl, rfl⟩ h hP
    · refine wp_iload dX8_put_26 rfl rfl ?_
      exact wm_iret dX8_put_28 rfl ⟨rfl, rfl⟩ h hP
  · refine wp_iconst (-1 : Int32) dX8_put_7 ic_m1 rfl ?_
    exact wm_iret dX8_put_8 rfl ⟨rfl, rfl⟩ h hP
theorem o_X8_put {g : Gx}  {p1 : Int32} {p2 : Int32} {p3 : Int64} {m : Mem} {t : Int32 × Mem} (h : f_X8_put p1 p2 p3 m = some t) : MxM g 2 mi_X8_put [.ref 0, .int p1, .int p2, .long p3] m (qI t) := mx_of pn_X8 (Nat.le_of_ble_eq_true rfl) (k_X8_put_E h ⟨rfl, rfl, rfl, rfl, rfl⟩)
noncomputable def f_X8_redo   (m : Mem) : Option (Int32 × Mem) := (f_X1_goOn m).bind (fun q1 => if ¬ q1.1 = 0 then bnd ((gI q1.2 19 4) - (1 : Int32)) (fun y2 => ck y2 40 (ck y2 40 (ck y2 40 ((f_X6_change (gI q1.2 20 (ix y2)) (gI q1.2 21 (ix y2)) (gI q1.2 23 (ix y2)) q1.2).bind (fun q3 => some (((gI q3 19 5) - (gI q3 19 4)), q3)))))) else some ((-5 : Int32), q1.2))
theorem k_X8_redo_E {g : Gx}   {Q : Qy} {m : Mem} {t : Int32 × Mem} (h : f_X8_redo m = some t) (hP : pI Q t) : WpM g 3 mi_X8_redo 0 [some (.ref 0), none] [] m (zM g mi_X8_redo Q) := by
  refine wp_aload_n dX8_redo_0 rfl rfl ?_
  refine wm_getR dX8_redo_1 s_0 fk_X8_19 rfl r_0_1 rfl ?_
  refine wm_callVI (As := []) (rest := []) dX8_redo_4 ok_X8_226 (by decide) rfl s_19 ⟨_, rfl⟩ (Nat.le_of_ble_eq_true rfl) ⟨rfl, rfl⟩ rfl (fun t h => o_X1_goOn h) h (fun q1 h => ?_)
  refine wm_if_ne 13 dX8_redo_7 rfl rfl h (fun h => ?_) (fun h => ?_)
  · refine wp_aload_n dX8_redo_13 rfl rfl ?_
    refine wm_getR dX8_redo_14 s_0 fk_X8_19 rfl r_0_1 rfl ?_
    refine wm_getI dX8_redo_17 s_19 fk_X8_214 rfl rfl ?_
    refine wp_iconst (1 : Int32) dX8_redo_20 ic_1 rfl ?_
    refine wp_isub dX8_redo_21 rfl ?_
    refine wm_nm h (fun y2 h => ?_)
    refine wp_istore_n (L' := [some (.ref 0), some (.int y2)]) dX8_redo_22 (by decide) rfl rfl rfl ?_
    refine wp_aload_n dX8_redo_23 rfl rfl ?_
    refine wm_getR dX8_redo_24 s_0 fk_X8_10 rfl r_0_0 rfl ?_
    refine wp_aload_n dX8_redo_27 rfl rfl ?_
    refine wm_getR dX8_redo_28 s_0 fk_X8_19 rfl r_0_1 rfl ?_
    refine wm_getR dX8_redo_31 s_19 fk_X8_217 rfl r_19_0 rfl ?_
    refine wp_iload_n dX8_redo_34 rfl rfl ?_
    refine wm_iald dX8_redo_35 s_20 rfl h (fun h => ?_)
    refine wp_aload_n dX8_redo_36 rfl rfl ?_
    refine wm_getR dX8_redo_37 s_0 fk_X8_19 rfl r_0_1 rfl ?_
    refine wm_getR dX8_redo_40 s_19 fk_X8_220 rfl r_19_1 rfl ?_
    refine wp_iload_n dX8_redo_43 rfl rfl ?_
    refine wm_iald dX8_redo_44 s_21 rfl h (fun h => ?_)
    refine wp_aload_n dX8_redo_45 rfl rfl ?_
    refine wm_getR dX8_redo_46 s_0 fk_X8_19 rfl r_0_1 rfl ?_
    refine wm_getR dX8_redo_49 s_19 fk_X8_229 rfl r_19_3 rfl ?_
    refine wp_iload_n dX8_redo_52 rfl rfl ?_
    refine wm_iald dX8_redo_53 s_23 rfl h (fun h => ?_)
    refine wm_callVN (As := [.int (gI q1.2 20 (ix y2)), .int (gI q1.2 21 (ix y2)), .int (gI q1.2 23 (ix y2))]) (rest := []) dX8_redo_54 ok_X8_135 (by decide) rfl s_1 ⟨_, rfl⟩ (Nat.le_of_ble_eq_true rfl) ⟨rfl, rfl⟩ rfl (fun t h => o_X6_change h) h (fun q3 h => ?_)
    refine wp_aload_n dX8_redo_57 rfl rfl ?_
    refine wm_getR dX8_redo_58 s_0 fk_X8_19 rfl r_0_1 rfl ?_
    refine wm_getI dX8_redo_61 s_19 fk_X8_232 rfl rfl ?_
    refine wp_aload_n dX8_redo_64 rfl rfl ?_
    refine wm_getR dX8_redo_65 s_0 fk_X8_19 rfl r_0_1 rfl ?_
    refine wm_getI dX8_redo_68 s_19 fk_X8_214 rfl rfl ?_
    refine wp_isub dX8_redo_71 rfl ?_
    exact wm_iret dX8_redo_72 rfl ⟨rfl, rfl⟩ h hP
  · refine wp_bipush (-5 : Int32) dX8_redo_10 ib_m5 rfl ?_
    exact wm_iret dX8_redo_12 rfl ⟨rfl, rfl⟩ h hP
theorem o_X8_redo {g : Gx}   {m : Mem} {t : Int32 × Mem} (h : f_X8_redo m = some t) : MxM g 3 mi_X8_redo [.ref 0] m (qI t) := mx_of pn_X8 (Nat.le_of_ble_eq_true rfl) (k_X8_redo_E h ⟨rfl, rfl, rfl, rfl, rfl⟩)
noncomputable def f_X8_row  (p1 : Int32) (p2 : Int32) (p3 : Int32) (m : Mem) : Option (Int32 × Mem) := (f_X8_isNoShelf p1 m).bind (fun q1 => if ¬ q1.1 = 0 then some ((-1 : Int32), q1.2) else if p2 < 0 then some ((-1 : Int32), q1.2) else if (4 : Int32) < p2 then some ((-1 : Int32), q1.2) else if p3 ≤ (60 : Int32) then if 0 ≤ p3 then ck p1 6 (bnd (73 + 2 * ix p1) (fun s2 => (f_X5_holdRow s2 p2 p3 q1.2).bind (fun q3 => some ((1 : Int32), q3)))) else some ((-14 : Int32), q1.2) else some ((-1 : Int32), q1.2))
theorem k_X8_row_E {g : Gx}  {p1 : Int32} {p2 : Int32} {p3 : Int32} {Q : Qy} {m : Mem} {t : Int32 × Mem} (h : f_X8_row p1 p2 p3 m = some t) (hP : pI Q t) : WpM g 3 mi_X8_row 0 [some (.ref 0), some (.int p1), some (.int p2), some (.int p3)] [] m (zM g mi_X8_row Q) := by
  refine wp_iload_n dX8_row_0 rfl rfl ?_
  refine wm_callSI (As := [.int p1]) (rest := []) dX8_row_1 ok_X8_78 (by decide) rfl (Nat.le_of_ble_eq_true rfl) ⟨rfl, rfl⟩ rfl (fun t h => o_X8_isNoShelf h) h (fun q1 h => ?_)
  refine wm_if_ne 22 dX8_row_4 rfl rfl h (fun h => ?_) (fun h => ?_)
  · refine wp_iconst (-1 : Int32) dX8_row_22 ic_m1 rfl ?_
    exact wm_iret dX8_row_23 rfl ⟨rfl, rfl⟩ h hP
  · refine wp_iload_n dX8_row_7 rfl rfl ?_
    refine wm_if_lt 22 dX8_row_8 rfl rfl h (fun h => ?_) (fun h => ?_)
    · refine wp_iconst (-1 : Int32) dX8_row_22 ic_m1 rfl ?_
      exact wm_iret dX8_row_23 rfl ⟨rfl, rfl⟩ h hP
    · refine wp_iload_n dX8_row_11 rfl rfl ?_
      refine wp_iconst (4 : Int32) dX8_row_12 ic_4 rfl ?_
      refine wm_icmp_gt 22 dX8_row_13 rfl rfl h (fun h => ?_) (fun h => ?_)
      · refine wp_iconst (-1 : Int32) dX8_row_22 ic_m1 rfl ?_
        exact wm_iret dX8_row_23 rfl ⟨rfl, rfl⟩ h hP
      · refine wp_iload_n dX8_row_16 rfl rfl ?_
        refine wp_bipush (60 : Int32) dX8_row_17 ib_60 rfl ?_
        refine wm_icmp_le 24 dX8_row_19 rfl rfl h (fun h => ?_) (fun h => ?_)
        · refine wp_iload_n dX8_row_24 rfl rfl ?_
          refine wm_if_ge 31 dX8_row_25 rfl rfl h (fun h => ?_) (fun h => ?_)
          · refine wp_aload_n dX8_row_31 rfl rfl ?_
            refine wm_getR dX8_row_32 s_0 fk_X8_48 rfl r_0_5 rfl ?_
            refine wp_iload_n dX8_row_35 rfl rfl ?_
            refine wm_shelf dX8_row_36 rfl h (fun s2 hs2 h => ?_)
            refine wp_iload_n dX8_row_37 rfl rfl ?_
            refine wp_iload_n dX8_row_38 rfl rfl ?_
            refine wm_callVN (As := [.int p2, .int p3]) (rest := []) dX8_row_39 ok_X8_254 (by decide) rfl (sS_0 hs2) ⟨_, rfl⟩ (Nat.le_of_ble_eq_true rfl) ⟨rfl, rfl⟩ rfl (fun t h => o_X5_holdRow hs2 h) h (fun q3 h => ?_)
            refine wp_iconst (1 : Int32) dX8_row_42 ic_1 rfl ?_
            exact wm_iret dX8_row_43 rfl ⟨rfl, rfl⟩ h hP
          · refine wp_bipush (-14 : Int32) dX8_row_28 ib_m14 rfl ?_
            exact wm_iret dX8_row_30 rfl ⟨rfl, rfl⟩ h hP
        · refine wp_iconst (-1 : Int32) dX8_row_22 ic_m1 rfl ?_
          exact wm_iret dX8_row_23 rfl ⟨rfl, rfl⟩ h hP
theorem o_X8_row {g : Gx}  {p1 : Int32} {p2 : Int32} {p3 : Int32} {m : Mem} {t : Int32 × Mem} (h : f_X8_row p1 p2 p3 m = some t) : MxM g 3 mi_X8_row [.ref 0, .int p1, .int p2, .int p3] m (qI t) := mx_of pn_X8 (Nat.le_of_ble_eq_true rfl) (k_X8_row_E h ⟨rfl, rfl, rfl, rfl, rfl⟩)
noncomputable def f_X8_rule  (p1 : Int32) (m : Mem) : Option (Int32 × Mem) := (f_X7_answer (0 : Int32) p1 m).bind (fun q1 => some (q1.1, q1.2))
theorem k_X8_rule_E {g : Gx}  {p1 : Int32} {Q : Qy} {m : Mem} {t : Int32 × Mem} (h : f_X8_rule p1 m = some t) (hP : pI Q t) : WpM g 8 mi_X8_rule 0 [some (.ref 0), some (.int p1)] [] m (zM g mi_X8_rule Q) := by
  refine wp_aload_n dX8_rule_0 rfl rfl ?_
  refine wm_getR dX8_rule_1 s_0 fk_X8_35 rfl r_0_3 rfl ?_
  refine wp_iconst (0 : Int32) dX8_rule_4 ic_0 rfl ?_
  refine wp_iload_n dX8_rule_5 rfl rfl ?_
  refine wm_callVI (As := [.int (0 : Int32), .int p1]) (rest := []) dX8_rule_6 ok_X8_201 (by decide) rfl s_53 ⟨_, rfl⟩ (Nat.le_of_ble_eq_true rfl) ⟨rfl, rfl⟩ rfl (fun t h => o_X7_answer h) h (fun q1 h => ?_)
  exact wm_iret dX8_rule_9 rfl ⟨rfl, rfl⟩ h hP
theorem o_X8_rule {g : Gx}  {p1 : Int32} {m : Mem} {t : Int32 × Mem} (h : f_X8_rule p1 m = some t) : MxM g 8 mi_X8_rule [.ref 0, .int p1] m (qI t) := mx_of pn_X8 (Nat.le_of_ble_eq_true rfl) (k_X8_rule_E h ⟨rfl, rfl, rfl, rfl, rfl⟩)
noncomputable def f_X8_saying  (p1 : Int32) (p2 : Int32) (m : Mem) : Option (Int32 × Mem) := if p2 < 0 then some ((-1 : Int32), m) else if p2 < (7 : Int32) then if ¬ (gI m 24 3) = 0 then if p1 < 0 then some ((-1 : Int32), m) else if p1 < (gI m 29 7) then ck ((p1 * (7 : Int32)) + p2) 1400 (some ((gI m (29 + 1) (ix ((p1 * (7 : Int32)) + p2))), m)) else some ((-1 : Int32), m) else some ((-5 : Int32), m) else some ((-1 : Int32), m)
theorem k_X8_saying_E {g : Gx}  {p1 : Int32} {p2 : Int32} {Q : Qy} {m : Mem} {t : Int32 × Mem} (h : f_X8_saying p1 p2 m = some t) (hP : pI Q t) : WpM g 1 mi_X8_saying 0 [some (.ref 0), some (.int p1), some (.int p2)] [] m (zM g mi_X8_saying Q) := by
  refine wp_iload_n dX8_saying_0 rfl rfl ?_
  refine wm_if_lt 10 dX8_saying_1 rfl rfl h (fun h => ?_) (fun h => ?_)
  · refine wp_iconst (-1 : Int32) dX8_saying_10 ic_m1 rfl ?_
    exact wm_iret dX8_saying_11 rfl ⟨rfl, rfl⟩ h hP
  · refine wp_iload_n dX8_saying_4 rfl rfl ?_
    refine wp_bipush (7 : Int32) dX8_saying_5 ib_7 rfl ?_
    refine wm_icmp_lt 12 dX8_saying_7 rfl rfl h (fun h => ?_) (fun h => ?_)
    · refine wp_aload_n dX8_saying_12 rfl rfl ?_
      refine wm_getR dX8_saying_13 s_0 fk_X8_28 rfl r_0_2 rfl ?_
      refine wm_getI dX8_saying_16 s_24 fk_X8_160 rfl rfl ?_
      refine wm_if_ne 25 dX8_saying_19 rfl rfl h (fun h => ?_) (fun h => ?_)
      · refine wp_iload_n dX8_saying_25 rfl rfl ?_
        refine wm_if_lt 43 dX8_saying_26 rfl rfl h (fun h => ?_) (fun h => ?_)
        · refine wp_iconst (-1 : Int32) dX8_saying_43 ic_m1 rfl ?_
          refine wp_goto 64 dX8_saying_44 rfl ?_
          exact wm_iret dX8_saying_64 rfl ⟨rfl, rfl⟩ h hP
        · refine wp_iload_n dX8_saying_29 rfl rfl ?_
          refine wp_aload_n dX8_saying_30 rfl rfl ?_
          refine wm_getR dX8_saying_31 s_0 fk_X8_28 rfl r_0_2 rfl ?_
          refine wm_getR dX8_saying_34 s_24 fk_X8_167 rfl r_24_0 rfl ?_
          refine wm_getI dX8_saying_37 (sM_0 (by unfold MA; omega)) fk_X8_171 rfl rfl ?_
          refine wm_icmp_lt 47 dX8_saying_40 rfl rfl h (fun h => ?_) (fun h => ?_)
          · refine wp_aload_n dX8_saying_47 rfl rfl ?_
            refine wm_getR dX8_saying_48 s_0 fk_X8_28 rfl r_0_2 rfl ?_
            refine wm_getR dX8_saying_51 s_24 fk_X8_167 rfl r_24_0 rfl ?_
            refine wm_getR dX8_saying_54 (sM_0 (by unfold MA; omega)) fk_X8_176 rfl (rM_0 (by unfold MA; omega)) rfl ?_
            refine wp_iload_n dX8_saying_57 rfl rfl ?_
            refine wp_bipush (7 : Int32) dX8_saying_58 ib_7 rfl ?_
            refine wp_imul dX8_saying_60 rfl ?_
            refine wp_iload_n dX8_saying_61 rfl rfl ?_
            refine wp_iadd dX8_saying_62 rfl ?_
            refine wm_iald dX8_saying_63 (sM_1 (by unfold MA; omega)) rfl h (fun h => ?_)
            exact wm_iret dX8_saying_64 rfl ⟨rfl, rfl⟩ h hP
          · refine wp_iconst (-1 : Int32) dX8_saying_43 ic_m1 rfl ?_
            refine wp_goto 64 dX8_saying_44 rfl ?_
            exact wm_iret dX8_saying_64 rfl ⟨rfl, rfl⟩ h hP
      · refine wp_bipush (-5 : Int32) dX8_saying_22 ib_m5 rfl ?_
        exact wm_iret dX8_saying_24 rfl ⟨rfl, rfl⟩ h hP
    · refine wp_iconst (-1 : Int32) dX8_saying_10 ic_m1 rfl ?_
      exact wm_iret dX8_saying_11 rfl ⟨rfl, rfl⟩ h hP
theorem o_X8_saying {g : Gx}  {p1 : Int32} {p2 : Int32} {m : Mem} {t : Int32 × Mem} (h : f_X8_saying p1 p2 m = some t) : MxM g 1 mi_X8_saying [.ref 0, .int p1, .int p2] m (qI t) := mx_of pn_X8 (Nat.le_of_ble_eq_true rfl) (k_X8_saying_E h ⟨rfl, rfl, rfl, rfl, rfl⟩)
noncomputable def f_X8_set  (p1 : Int32) (p2 : Int32) (m : Mem) : Option (Int32 × Mem) := if p1 < 0 then some ((-1 : Int32), m) else if (2 : Int32) < p1 then some ((-1 : Int32), m) else ck p1 (st_0.length) (if p2 < (st_0.getD (ix p1) 0) then some ((-1 : Int32), m) else ck p1 (st_1.length) (if p2 ≤ (st_1.getD (ix p1) 0) then ck p1 3 (bnd (gI m 11 (ix p1)) (fun y1 => ck p1 3 (bnd (sI m 11 (ix p1) p2) (fun m2 => bnd (sI m2 1 16 ((gI m2 1 16) + (1 : Int32))) (fun m3 => some (y1, m3)))))) else some ((-1 : Int32), m)))
theorem k_X8_set_E {g : Gx}  {p1 : Int32} {p2 : Int32} {Q : Qy} {m : Mem} {t : Int32 × Mem} (h : f_X8_set p1 p2 m = some t) (hP : pI Q t) : WpM g 1 mi_X8_set 0 [some (.ref 0), some (.int p1), some (.int p2), none] [] m (zM g mi_X8_set Q) := by
  refine wp_iload_n dX8_set_0 rfl rfl ?_
  refine wm_if_lt 27 dX8_set_1 rfl rfl h (fun h => ?_) (fun h => ?_)
  · refine wp_iconst (-1 : Int32) dX8_set_27 ic_m1 rfl ?_
    exact wm_iret dX8_set_28 rfl ⟨rfl, rfl⟩ h hP
  · refine wp_iload_n dX8_set_4 rfl rfl ?_
    refine wp_iconst (2 : Int32) dX8_set_5 ic_2 rfl ?_
    refine wm_icmp_gt 27 dX8_set_6 rfl rfl h (fun h => ?_) (fun h => ?_)
    · refine wp_iconst (-1 : Int32) dX8_set_27 ic_m1 rfl ?_
      exact wm_iret dX8_set_28 rfl ⟨rfl, rfl⟩ h hP
    · refine wp_iload_n dX8_set_9 rfl rfl ?_
      refine wp_gets (j := 0) dX8_set_10 rfl q710 rfl ?_
      refine wp_iload_n dX8_set_13 rfl rfl ?_
      refine wm_ti (j := 0) (xs := st_0) dX8_set_14 rfl rfl h (fun h => ?_)
      refine wm_icmp_lt 27 dX8_set_15 rfl rfl h (fun h => ?_) (fun h => ?_)
      · refine wp_iconst (-1 : Int32) dX8_set_27 ic_m1 rfl ?_
        exact wm_iret dX8_set_28 rfl ⟨rfl, rfl⟩ h hP
      · refine wp_iload_n dX8_set_18 rfl rfl ?_
        refine wp_gets (j := 1) dX8_set_19 rfl q712 rfl ?_
        refine wp_iload_n dX8_set_22 rfl rfl ?_
        refine wm_ti (j := 1) (xs := st_1) dX8_set_23 rfl rfl h (fun h => ?_)
        refine wm_icmp_le 29 dX8_set_24 rfl rfl h (fun h => ?_) (fun h => ?_)
        · refine wp_aload_n dX8_set_29 rfl rfl ?_
          refine wm_getR dX8_set_30 s_0 fk_X8_10 rfl r_0_0 rfl ?_
          refine wm_getR dX8_set_33 s_1 fk_X8_117 rfl r_1_9 rfl ?_
          refine wp_iload_n dX8_set_36 rfl rfl ?_
          refine wm_iald dX8_set_37 s_11 rfl h (fun h => ?_)
          refine wm_nm h (fun y1 h => ?_)
          refine wp_istore_n (L' := [some (.ref 0), some (.int p1), some (.int p2), some (.int y1)]) dX8_set_38 (by decide) rfl rfl rfl ?_
          refine wp_aload_n dX8_set_39 rfl rfl ?_
          refine wm_getR dX8_set_40 s_0 fk_X8_10 rfl r_0_0 rfl ?_
          refine wm_getR dX8_set_43 s_1 fk_X8_117 rfl r_1_9 rfl ?_
          refine wp_iload_n dX8_set_46 rfl rfl ?_
          refine wp_iload_n dX8_set_47 rfl rfl ?_
          refine wm_iast dX8_set_48 s_11 rfl h (fun m2 h => ?_)
          refine wp_aload_n dX8_set_49 rfl rfl ?_
          refine wm_getR dX8_set_50 s_0 fk_X8_10 rfl r_0_0 rfl ?_
          refine wp_dup dX8_set_53 rfl rfl ?_
          refine wm_getI dX8_set_54 s_1 fk_X8_107 rfl rfl ?_
          refine wp_iconst (1 : Int32) dX8_set_57 ic_1 rfl ?_
          refine wp_iadd dX8_set_58 rfl ?_
          refine wm_putI dX8_set_59 s_1 fk_X8_107 rfl rfl h (fun m3 h => ?_)
          refine wp_iload_n dX8_set_62 rfl rfl ?_
          exact wm_iret dX8_set_63 rfl ⟨rfl, rfl⟩ h hP
        · refine wp_iconst (-1 : Int32) dX8_set_27 ic_m1 rfl ?_
          exact wm_iret dX8_set_28 rfl ⟨rfl, rfl⟩ h hP
theorem o_X8_set {g : Gx}  {p1 : Int32} {p2 : Int32} {m : Mem} {t : Int32 × Mem} (h : f_X8_set p1 p2 m = some t) : MxM g 1 mi_X8_set [.ref 0, .int p1, .int p2] m (qI t) := mx_of pn_X8 (Nat.le_of_ble_eq_true rfl) (k_X8_set_E h ⟨rfl, rfl, rfl, rfl, rfl⟩)
noncomputable def f_X8_shift  (p1 : Int32) (p2 : Int32) (p3 : Int32) (p4 : Int32) (p5 : Int32) (m : Mem) : Option (Int32 × Mem) := (f_X8_isNoShelf p1 m).bind (fun q1 => if ¬ q1.1 = 0 then some ((-1 : Int32), q1.2) else (f_X8_isNoShelf p3 q1.2).bind (fun q2 => if q2.1 = 0 then ck p1 6 (bnd (73 + 2 * ix p1) (fun s3 => ck p3 6 (bnd (73 + 2 * ix p3) (fun s4 => if (gI q2.2 s3 0) = (-2 : Int32) then some ((-11 : Int32), q2.2) else if ¬ (gI q2.2 s4 0) = (-2 : Int32) then if (gI q2.2 s3 0) = (-1 : Int32) then some ((-12 : Int32), q2.2) else if (gI q2.2 s3 0) = (gI q2.2 s4 0) then (f_X5_hasRun s3 p2 p5 q2.2).bind (fun q5 => if q5.1 = 0 then some ((-13 : Int32), q5.2) else (f_X5_hasRun s4 p4 p5 q5.2).bind (fun q6 => if ¬ q6.1 = 0 then cpk p2 p4 p5 60 60 (bnd (cJ q6.2 (s3 + 1) p2 (s4 + 1) p4 p5) (fun m7 => some (p5, m7))) else some ((-13 : Int32), q6.2))) else some ((-12 : Int32), q2.2) else some ((-11 : Int32), q2.2))))) else some ((-1 : Int32), q2.2)))
theorem k_X8_shift_E {g : Gx}  {p1 : Int32} {p2 : Int32} {p3 : Int32} {p4 : Int32} {p5 : Int32} {Q : Qy} {m : Mem} {t : Int32 × Mem} (h : f_X8_shift p1 p2 p3 p4 p5 m = some t) (hP : pI Q t) : WpM g 2 mi_X8_shift 0 [some (.ref 0), some (.int p1), some (.int p2), some (.int p3), some (.int p4), some (.int p5), none, none] [] m (zM g mi_X8_shift Q) := by
  refine wp_iload_n dX8_shift_0 rfl rfl ?_
  refine wm_callSI (As := [.int p1]) (rest := []) dX8_shift_1 ok_X8_78 (by decide) rfl (Nat.le_of_ble_eq_true rfl) ⟨rfl, rfl⟩ rfl (fun t h => o_X8_isNoShelf h) h (fun q1 h => ?_)
  refine wm_if_ne 14 dX8_shift_4 rfl rfl h (fun h => ?_) (fun h => ?_)
  · refine wp_iconst (-1 : Int32) dX8_shift_14 ic_m1 rfl ?_
    exact wm_iret dX8_shift_15 rfl ⟨rfl, rfl⟩ h hP
  · refine wp_iload_n dX8_shift_7 rfl rfl ?_
    refine wm_callSI (As := [.int p3]) (rest := []) dX8_shift_8 ok_X8_78 (by decide) rfl (Nat.le_of_ble_eq_true rfl) ⟨rfl, rfl⟩ rfl (fun t h => o_X8_isNoShelf h) h (fun q2 h => ?_)
    refine wm_if_eq 16 dX8_shift_11 rfl rfl h (fun h => ?_) (fun h => ?_)
    · refine wp_aload_n dX8_shift_16 rfl rfl ?_
      refine wm_getR dX8_shift_17 s_0 fk_X8_48 rfl r_0_5 rfl ?_
      refine wp_iload_n dX8_shift_20 rfl rfl ?_
      refine wm_shelf dX8_shift_21 rfl h (fun s3 hs3 h => ?_)
      refine wp_astore (L' := [some (.ref 0), some (.int p1), some (.int p2), some (.int p3), some (.int p4), some (.int p5), some (.ref s3), none]) dX8_shift_22 (by decide) rfl rfl rfl ?_
      refine wp_aload_n dX8_shift_24 rfl rfl ?_
      refine wm_getR dX8_shift_25 s_0 fk_X8_48 rfl r_0_5 rfl ?_
      refine wp_iload_n dX8_shift_28 rfl rfl ?_
      refine wm_shelf dX8_shift_29 rfl h (fun s4 hs4 h => ?_)
      refine wp_astore (L' := [some (.ref 0), some (.int p1), some (.int p2), some (.int p3), some (.int p4), some (.int p5), some (.ref s3), some (.ref s4)]) dX8_shift_30 (by decide) rfl rfl rfl ?_
      refine wp_aload dX8_shift_32 rfl rfl ?_
      refine wm_getI dX8_shift_34 (sS_0 hs3) fk_X8_82 rfl rfl ?_
      refine wp_bipush (-2 : Int32) dX8_shift_37 ib_m2 rfl ?_
      refine wm_icmp_eq 52 dX8_shift_39 rfl rfl h (fun h => ?_) (fun h => ?_)
      · refine wp_bipush (-11 : Int32) dX8_shift_52 ib_m11 rfl ?_
        exact wm_iret dX8_shift_54 rfl ⟨rfl, rfl⟩ h hP
      · refine wp_aload dX8_shift_42 rfl rfl ?_
        refine wm_getI dX8_shift_44 (sS_0 hs4) fk_X8_82 rfl rfl ?_
        refine wp_bipush (-2 : Int32) dX8_shift_47 ib_m2 rfl ?_
        refine wm_icmp_ne 55 dX8_shift_49 rfl rfl h (fun h => ?_) (fun h => ?_)
        · refine wp_aload dX8_shift_55 rfl rfl ?_
          refine wm_getI dX8_shift_57 (sS_0 hs3) fk_X8_82 rfl rfl ?_
          refine wp_iconst (-1 : Int32) dX8_shift_60 ic_m1 rfl ?_
          refine wm_icmp_eq 77 dX8_shift_61 rfl rfl h (fun h => ?_) (fun h => ?_)
          · refine wp_bipush (-12 : Int32) dX8_shift_77 ib_m12 rfl ?_
            exact wm_iret dX8_shift_79 rfl ⟨rfl, rfl⟩ h hP
          · refine wp_aload dX8_shift_64 rfl rfl ?_
            refine wm_getI dX8_shift_66 (sS_0 hs3) fk_X8_82 rfl rfl ?_
            refine wp_aload dX8_shift_69 rfl rfl ?_
            refine wm_getI dX8_shift_71 (sS_0 hs4) fk_X8_82 rfl rfl ?_
            refine wm_icmp_eq 80 dX8_shift_74 rfl rfl h (fun h => ?_) (fun h => ?_)
            · refine wp_aload dX8_shift_80 rfl rfl ?_
              refine wp_iload_n dX8_shift_82 rfl rfl ?_
              refine wp_iload dX8_shift_83 rfl rfl ?_
              refine wm_callVI (As := [.int p2, .int p5]) (rest := []) dX8_shift_85 ok_X8_273 (by decide) rfl (sS_0 hs3) ⟨_, rfl⟩ (Nat.le_of_ble_eq_true rfl) ⟨rfl, rfl⟩ rfl (fun t h => o_X5_hasRun hs3 h) h (fun q5 h => ?_)
              refine wm_if_eq 103 dX8_shift_88 rfl rfl h (fun h => ?_) (fun h => ?_)
              · refine wp_bipush (-13 : Int32) dX8_shift_103 ib_m13 rfl ?_
                exact wm_iret dX8_shift_105 rfl ⟨rfl, rfl⟩ h hP
              · refine wp_aload dX8_shift_91 rfl rfl ?_
                refine wp_iload dX8_shift_93 rfl rfl ?_
                refine wp_iload dX8_shift_95 rfl rfl ?_
                refine wm_callVI (As := [.int p4, .int p5]) (rest := []) dX8_shift_97 ok_X8_273 (by decide) rfl (sS_0 hs4) ⟨_, rfl⟩ (Nat.le_of_ble_eq_true rfl) ⟨rfl, rfl⟩ rfl (fun t h => o_X5_hasRun hs4 h) h (fun q6 h => ?_)
                refine wm_if_ne 106 dX8_shift_100 rfl rfl h (fun h => ?_) (fun h => ?_)
                · refine wp_aload dX8_shift_106 rfl rfl ?_
                  refine wm_getR dX8_shift_108 (sS_0 hs3) fk_X8_269 rfl (rS_3 hs3) rfl ?_
                  refine wp_iload_n dX8_shift_111 rfl rfl ?_
                  refine wp_aload dX8_shift_112 rfl rfl ?_
                  refine wm_getR dX8_shift_114 (sS_0 hs4) fk_X8_269 rfl (rS_3 hs4) rfl ?_
                  refine wp_iload dX8_shift_117 rfl rfl ?_
                  refine wp_iload dX8_shift_119 rfl rfl ?_
                  refine wm_copyJ dX8_shift_121 (sS_1 hs3) (sS_1 hs4) ok_X8_277 rfl h (by decide) (Nat.le_of_ble_eq_true rfl) (fun m7 h => ?_)
                  refine wp_iload dX8_shift_124 rfl rfl ?_
                  exact wm_iret dX8_shift_126 rfl ⟨rfl, rfl⟩ h hP
                · refine wp_bipush (-13 : Int32) dX8_shift_103 ib_m13 rfl ?_
                  exact wm_iret dX8_shift_105 rfl ⟨rfl, rfl⟩ h hP
            · refine wp_bipush (-12 : Int32) dX8_shift_77 ib_m12 rfl ?_
              exact wm_iret dX8_shift_79 rfl ⟨rfl, rfl⟩ h hP
        · refine wp_bipush (-11 : Int32) dX8_shift_52 ib_m11 rfl ?_
          exact wm_iret dX8_shift_54 rfl ⟨rfl, rfl⟩ h hP
    · refine wp_iconst (-1 : Int32) dX8_shift_14 ic_m1 rfl ?_
      exact wm_iret dX8_shift_15 rfl ⟨rfl, rfl⟩ h hP
theorem o_X8_shift {g : Gx}  {p1 : Int32} {p2 : Int32} {p3 : Int32} {p4 : Int32} {p5 : Int32} {m : Mem} {t : Int32 × Mem} (h : f_X8_shift p1 p2 p3 p4 p5 m = some t) : MxM g 2 mi_X8_shift [.ref 0, .int p1, .int p2, .int p3, .int p4, .int p5] m (qI t) := mx_of pn_X8 (Nat.le_of_ble_eq_true rfl) (k_X8_shift_E h ⟨rfl, rfl, rfl, rfl, rfl⟩)
noncomputable def f_X8_taken  (p1 : Int32) (p2 : Int32) (m : Mem) : Option (Int32 × Mem) := (f_X8_isNoShelf p1 m).bind (fun q1 => if ¬ q1.1 = 0 then some ((-1 : Int32), q1.2) else if p2 < 0 then some ((-1 : Int32), q1.2) else if p2 < (8 : Int32) then ck p1 6 (bnd (73 + 2 * ix p1) (fun s2 => if ¬ (gI q1.2 s2 0) = (-2 : Int32) then if (gI q1.2 s2 0) = (-1 : Int32) then (f_X0_kindOf (gI q1.2 s2 1) q1.2).bind (fun q3 => (f_X0_isUnder q3.1 p2 q3.2).bind (fun q4 => if q4.1 = 0 then some ((-12 : Int32), q4.2) else some (q3.1, q4.2))) else some ((-12 : Int32), q1.2) else some ((-11 : Int32), q1.2))) else some ((-1 : Int32), q1.2))
theorem k_X8_taken_E {g : Gx}  {p1 : Int32} {p2 : Int32} {Q : Qy} {m : Mem} {t : Int32 × Mem} (h : f_X8_taken p1 p2 m = some t) (hP : pI Q t) : WpM g 2 mi_X8_taken 0 [some (.ref 0), some (.int p1), some (.int p2), none, none] [] m (zM g mi_X8_taken Q) := by
  refine wp_iload_n dX8_taken_0 rfl rfl ?_
  refine wm_callSI (As := [.int p1]) (rest := []) dX8_taken_1 ok_X8_78 (by decide) rfl (Nat.le_of_ble_eq_true rfl) ⟨rfl, rfl⟩ rfl (fun t h => o_X8_isNoShelf h) h (fun q1 h => ?_)
  refine wm_if_ne 17 dX8_taken_4 rfl rfl h (fun h => ?_) (fun h => ?_)
  · refine wp_iconst (-1 : Int32) dX8_taken_17 ic_m1 rfl ?_
    exact wm_iret dX8_taken_18 rfl ⟨rfl, rfl⟩ h hP
  · refine wp_iload_n dX8_taken_7 rfl rfl ?_
    refine wm_if_lt 17 dX8_taken_8 rfl rfl h (fun h => ?_) (fun h => ?_)
    · refine wp_iconst (-1 : Int32) dX8_taken_17 ic_m1 rfl ?_
      exact wm_iret dX8_taken_18 rfl ⟨rfl, rfl⟩ h hP
    · refine wp_iload_n dX8_taken_11 rfl rfl ?_
      refine wp_bipush (8 : Int32) dX8_taken_12 ib_8 rfl ?_
      refine wm_icmp_lt 19 dX8_taken_14 rfl rfl h (fun h => ?_) (fun h => ?_)
      · refine wp_aload_n dX8_taken_19 rfl rfl ?_
        refine wm_getR dX8_taken_20 s_0 fk_X8_48 rfl r_0_5 rfl ?_
        refine wp_iload_n dX8_taken_23 rfl rfl ?_
        refine wm_shelf dX8_taken_24 rfl h (fun s2 hs2 h => ?_)
        refine wp_astore_n (L' := [some (.ref 0), some (.int p1), some (.int p2), some (.ref s2), none]) dX8_taken_25 (by decide) rfl rfl rfl ?_
        refine wp_aload_n dX8_taken_26 rfl rfl ?_
        refine wm_getI dX8_taken_27 (sS_0 hs2) fk_X8_82 rfl rfl ?_
        refine wp_bipush (-2 : Int32) dX8_taken_30 ib_m2 rfl ?_
        refine wm_icmp_ne 38 dX8_taken_32 rfl rfl h (fun h => ?_) (fun h => ?_)
        · refine wp_aload_n dX8_taken_38 rfl rfl ?_
          refine wm_getI dX8_taken_39 (sS_0 hs2) fk_X8_82 rfl rfl ?_
          refine wp_iconst (-1 : Int32) dX8_taken_42 ic_m1 rfl ?_
          refine wm_icmp_eq 49 dX8_taken_43 rfl rfl h (fun h => ?_) (fun h => ?_)
          · refine wp_aload_n dX8_taken_49 rfl rfl ?_
            refine wm_getR dX8_taken_50 s_0 fk_X8_42 rfl r_0_4 rfl ?_
            refine wp_aload_n dX8_taken_53 rfl rfl ?_
            refine wm_getI dX8_taken_54 (sS_0 hs2) fk_X8_283 rfl rfl ?_
            refine wm_callVI (As := [.int (gI q1.2 s2 1)]) (rest := []) dX8_taken_57 ok_X8_286 (by decide) rfl s_69 ⟨_, rfl⟩ (Nat.le_of_ble_eq_true rfl) ⟨rfl, rfl⟩ rfl (fun t h => o_X0_kindOf h) h (fun q3 h => ?_)
            refine wp_istore (L' := [some (.ref 0), some (.int p1), some (.int p2), some (.ref s2), some (.int q3.1)]) dX8_taken_60 (by decide) rfl rfl rfl ?_
            refine wp_iload dX8_taken_62 rfl rfl ?_
            refine wp_iload_n dX8_taken_64 rfl rfl ?_
            refine wm_callSI (As := [.int q3.1, .int p2]) (rest := []) dX8_taken_65 ok_X8_289 (by decide) rfl (Nat.le_of_ble_eq_true rfl) ⟨rfl, rfl⟩ rfl (fun t h => o_X0_isUnder h) h (fun q4 h => ?_)
            refine wm_if_eq 76 dX8_taken_68 rfl rfl h (fun h => ?_) (fun h => ?_)
            · refine wp_bipush (-12 : Int32) dX8_taken_76 ib_m12 rfl ?_
              exact wm_iret dX8_taken_78 rfl ⟨rfl, rfl⟩ h hP
            · refine wp_iload dX8_taken_71 rfl rfl ?_
              refine wp_goto 78 dX8_taken_73 rfl ?_
              exact wm_iret dX8_taken_78 rfl ⟨rfl, rfl⟩ h hP
          · refine wp_bipush (-12 : Int32) dX8_taken_46 ib_m12 rfl ?_
            exact wm_iret dX8_taken_48 rfl ⟨rfl, rfl⟩ h hP
        · refine wp_bipush (-11 : Int32) dX8_taken_35 ib_m11 rfl ?_
          exact wm_iret dX8_taken_37 rfl ⟨rfl, rfl⟩ h hP
      · refine wp_iconst (-1 : Int32) dX8_taken_17 ic_m1 rfl ?_
        exact wm_iret dX8_taken_18 rfl ⟨rfl, rfl⟩ h hP
theorem o_X8_taken {g : Gx}  {p1 : Int32} {p2 : Int32} {m : Mem} {t : Int32 × Mem} (h : f_X8_taken p1 p2 m = some t) : MxM g 2 mi_X8_taken [.ref 0, .int p1, .int p2] m (qI t) := mx_of pn_X8 (Nat.le_of_ble_eq_true rfl) (k_X8_taken_E h ⟨rfl, rfl, rfl, rfl, rfl⟩)
noncomputable def f_X8_thing  (p1 : Int32) (p2 : Int32) (m : Mem) : Option (Int32 × Mem) := if p1 < (-99 : Int32) then some ((-1 : Int32), m) else if (99 : Int32) < p1 then some ((-1 : Int32), m) else if p2 < 0 then some ((-1 : Int32), m) else if p2 ≤ (9 : Int32) then if (gI m 1 14) < (6 : Int32) then (f_X6_addThing p1 p2 m).bind (fun q1 => some (q1.1, q1.2)) else some ((-3 : Int32), m) else some ((-1 : Int32), m)
theorem k_X8_thing_E {g : Gx}  {p1 : Int32} {p2 : Int32} {Q : Qy} {m : Mem} {t : Int32 × Mem} (h : f_X8_thing p1 p2 m = some t) (hP : pI Q t) : WpM g 2 mi_X8_thing 0 [some (.ref 0), some (.int p1), some (.int p2)] [] m (zM g mi_X8_thing Q) := by
  refine wp_iload_n dX8_thing_0 rfl rfl ?_
  refine wp_bipush (-99 : Int32) dX8_thing_1 ib_m99 rfl ?_
  refine wm_icmp_lt 22 dX8_thing_3 rfl rfl h (fun h => ?_) (fun h => ?_)
  · refine wp_iconst (-1 : Int32) dX8_thing_22 ic_m1 rfl ?_
    exact wm_iret dX8_thing_23 rfl ⟨rfl, rfl⟩ h hP
  · refine wp_iload_n dX8_thing_6 rfl rfl ?_
    refine wp_bipush (99 : Int32) dX8_thing_7 ib_99 rfl ?_
    refine wm_icmp_gt 22 dX8_thing_9 rfl rfl h (fun h => ?_) (fun h => ?_)
    · refine wp_iconst (-1 : Int32) dX8_thing_22 ic_m1 rfl ?_
      exact wm_iret dX8_thing_23 rfl ⟨rfl, rfl⟩ h hP
    · refine wp_iload_n dX8_thing_12 rfl rfl ?_
      refine wm_if_lt 22 dX8_thing_13 rfl rfl h (fun h => ?_) (fun h => ?_)
      · refine wp_iconst (-1 : Int32) dX8_thing_22 ic_m1 rfl ?_
        exact wm_iret dX8_thing_23 rfl ⟨rfl, rfl⟩ h hP
      · refine wp_iload_n dX8_thing_16 rfl rfl ?_
        refine wp_bipush (9 : Int32) dX8_thing_17 ib_9 rfl ?_
        refine wm_icmp_le 24 dX8_thing_19 rfl rfl h (fun h => ?_) (fun h => ?_)
        · refine wp_aload_n dX8_thing_24 rfl rfl ?_
          refine wm_getR dX8_thing_25 s_0 fk_X8_10 rfl r_0_0 rfl ?_
          refine wm_getI dX8_thing_28 s_1 fk_X8_61 rfl rfl ?_
          refine wp_bipush (6 : Int32) dX8_thing_31 ib_6 rfl ?_
          refine wm_icmp_lt 41 dX8_thing_33 rfl rfl h (fun h => ?_) (fun h => ?_)
          · refine wp_aload_n dX8_thing_41 rfl rfl ?_
            refine wm_getR dX8_thing_42 s_0 fk_X8_10 rfl r_0_0 rfl ?_
            refine wp_iload_n dX8_thing_45 rfl rfl ?_
            refine wp_iload_n dX8_thing_46 rfl rfl ?_
            refine wm_callVI (As := [.int p1, .int p2]) (rest := []) dX8_thing_47 ok_X8_64 (by decide) rfl s_1 ⟨_, rfl⟩ (Nat.le_of_ble_eq_true rfl) ⟨rfl, rfl⟩ rfl (fun t h => o_X6_addThing h) h (fun q1 h => ?_)
            exact wm_iret dX8_thing_50 rfl ⟨rfl, rfl⟩ h hP
          · refine wp_bipush (-3 : Int32) dX8_thing_36 ib_m3 rfl ?_
            refine wp_goto 50 dX8_thing_38 rfl ?_
            exact wm_iret dX8_thing_50 rfl ⟨rfl, rfl⟩ h hP
        · refine wp_iconst (-1 : Int32) dX8_thing_22 ic_m1 rfl ?_
          exact wm_iret dX8_thing_23 rfl ⟨rfl, rfl⟩ h hP
theorem o_X8_thing {g : Gx}  {p1 : Int32} {p2 : Int32} {m : Mem} {t : Int32 × Mem} (h : f_X8_thing p1 p2 m = some t) : MxM g 2 mi_X8_thing [.ref 0, .int p1, .int p2] m (qI t) := mx_of pn_X8 (Nat.le_of_ble_eq_true rfl) (k_X8_thing_E h ⟨rfl, rfl, rfl, rfl, rfl⟩)
noncomputable def f_X8_times  (p1 : Int32) (m : Mem) : Option (Int32 × Mem) := (f_X7_answer (2 : Int32) p1 m).bind (fun q1 => some (q1.1, q1.2))
theorem k_X8_times_E {g : Gx}  {p1 : Int32} {Q : Qy} {m : Mem} {t : Int32 × Mem} (h : f_X8_times p1 m = some t) (hP : pI Q t) : WpM g 8 mi_X8_times 0 [some (.ref 0), some (.int p1)] [] m (zM g mi_X8_times Q) := by
  refine wp_aload_n dX8_times_0 rfl rfl ?_
  refine wm_getR dX8_times_1 s_0 fk_X8_35 rfl r_0_3 rfl ?_
  refine wp_iconst (2 : Int32) dX8_times_4 ic_2 rfl ?_
  refine wp_iload_n dX8_times_5 rfl rfl ?_
  refine wm_callVI (As := [.int (2 : Int32), .int p1]) (rest := []) dX8_times_6 ok_X8_201 (by decide) rfl s_53 ⟨_, rfl⟩ (Nat.le_of_ble_eq_true rfl) ⟨rfl, rfl⟩ rfl (fun t h => o_X7_answer h) h (fun q1 h => ?_)
  exact wm_iret dX8_times_9 rfl ⟨rfl, rfl⟩ h hP
theorem o_X8_times {g : Gx}  {p1 : Int32} {m : Mem} {t : Int32 × Mem} (h : f_X8_times p1 m = some t) : MxM g 8 mi_X8_times [.ref 0, .int p1] m (qI t) := mx_of pn_X8 (Nat.le_of_ble_eq_true rfl) (k_X8_times_E h ⟨rfl, rfl, rfl, rfl, rfl⟩)
noncomputable def f_X8_told  (p1 : Int32) (m : Mem) : Option (Int32 × Mem) := if p1 < 0 then some ((-1 : Int32), m) else if p1 ≤ (9 : Int32) then if (gI m 24 3) = 0 then some ((-5 : Int32), m) else ck p1 10 (some ((gI m 25 (ix p1)), m)) else some ((-1 : Int32), m)
theorem k_X8_told_E {g : Gx}  {p1 : Int32} {Q : Qy} {m : Mem} {t : Int32 × Mem} (h : f_X8_told p1 m = some t) (hP : pI Q t) : WpM g 1 mi_X8_told 0 [some (.ref 0), some (.int p1)] [] m (zM g mi_X8_told Q) := by
  refine wp_iload_n dX8_told_0 rfl rfl ?_
  refine wm_if_lt 10 dX8_told_1 rfl rfl h (fun h => ?_) (fun h => ?_)
  · refine wp_iconst (-1 : Int32) dX8_told_10 ic_m1 rfl ?_
    exact wm_iret dX8_told_11 rfl ⟨rfl, rfl⟩ h hP
  · refine wp_iload_n dX8_told_4 rfl rfl ?_
    refine wp_bipush (9 : Int32) dX8_told_5 ib_9 rfl ?_
    refine wm_icmp_le 12 dX8_told_7 rfl rfl h (fun h => ?_) (fun h => ?_)
    · refine wp_aload_n dX8_told_12 rfl rfl ?_
      refine wm_getR dX8_told_13 s_0 fk_X8_28 rfl r_0_2 rfl ?_
      refine wm_getI dX8_told_16 s_24 fk_X8_160 rfl rfl ?_
      refine wm_if_eq 34 dX8_told_19 rfl rfl h (fun h => ?_) (fun h => ?_)
      · refine wp_bipush (-5 : Int32) dX8_told_34 ib_m5 rfl ?_
        exact wm_iret dX8_told_36 rfl ⟨rfl, rfl⟩ h hP
      · refine wp_aload_n dX8_told_22 rfl rfl ?_
        refine wm_getR dX8_told_23 s_0 fk_X8_28 rfl r_0_2 rfl ?_
        refine wm_getR dX8_told_26 s_24 fk_X8_164 rfl r_24_1 rfl ?_
        refine wp_iload_n dX8_told_29 rfl rfl ?_
        refine wm_iald dX8_told_30 s_25 rfl h (fun h => ?_)
        refine wp_goto 36 dX8_told_31 rfl ?_
        exact wm_iret dX8_told_36 rfl ⟨rfl, rfl⟩ h hP
    · refine wp_iconst (-1 : Int32) dX8_told_10 ic_m1 rfl ?_
      exact wm_iret dX8_told_11 rfl ⟨rfl, rfl⟩ h hP
theorem o_X8_told {g : Gx}  {p1 : Int32} {m : Mem} {t : Int32 × Mem} (h : f_X8_told p1 m = some t) : MxM g 1 mi_X8_told [.ref 0, .int p1] m (qI t) := mx_of pn_X8 (Nat.le_of_ble_eq_true rfl) (k_X8_told_E h ⟨rfl, rfl, rfl, rfl, rfl⟩)
