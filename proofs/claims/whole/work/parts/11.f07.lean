noncomputable def f_X9_knows  (p1 : Int32) (p2 : Int32) (m : Mem) : Option (Int32 × Mem) := ck p2 20 (if ¬ (((gI m 93 (ix p2)) >>> (p1 &&& 31)) &&& (1 : Int32)) = (1 : Int32) then bz (0 : Int32) (some ((0 : Int32), m)) else bz (1 : Int32) (some ((1 : Int32), m)))
theorem k_X9_knows_E {g : Gx}  {p1 : Int32} {p2 : Int32} {Q : Qy} {m : Mem} {t : Int32 × Mem} (h : f_X9_knows p1 p2 m = some t) (hP : pI Q t) : WpM g 1 mi_X9_knows 0 [some (.ref 85), some (.int p1), some (.int p2)] [] m (zM g mi_X9_knows Q) := by
  refine wp_aload_n dX9_knows_0 rfl rfl ?_
  refine wm_getR dX9_knows_1 s_85 fk_X9_31 rfl r_85_12 rfl ?_
  refine wp_iload_n dX9_knows_4 rfl rfl ?_
  refine wm_iald dX9_knows_5 s_93 rfl h (fun h => ?_)
  refine wp_iload_n dX9_knows_6 rfl rfl ?_
  refine wp_ishr dX9_knows_7 rfl ?_
  refine wp_iconst (1 : Int32) dX9_knows_8 ic_1 rfl ?_
  refine wp_iand dX9_knows_9 rfl ?_
  refine wp_iconst (1 : Int32) dX9_knows_10 ic_1 rfl ?_
  refine wm_icmp_ne 18 dX9_knows_11 rfl rfl h (fun h => ?_) (fun h => ?_)
  · refine wp_iconst (0 : Int32) dX9_knows_18 ic_0 rfl ?_
    exact wm_zret dX9_knows_19 rfl ⟨rfl, rfl⟩ h hP
  · refine wp_iconst (1 : Int32) dX9_knows_14 ic_1 rfl ?_
    refine wp_goto 19 dX9_knows_15 rfl ?_
    exact wm_zret dX9_knows_19 rfl ⟨rfl, rfl⟩ h hP
theorem o_X9_knows {g : Gx}  {p1 : Int32} {p2 : Int32} {m : Mem} {t : Int32 × Mem} (h : f_X9_knows p1 p2 m = some t) : MxM g 1 mi_X9_knows [.ref 85, .int p1, .int p2] m (qI t) := mx_of pn_X9 (Nat.le_of_ble_eq_true rfl) (k_X9_knows_E h ⟨rfl, rfl, rfl, rfl, rfl⟩)
abbrev A_X9_putsPaper_2 (g : Gx)  (Q : Qy) (s : Int32 × Int32 × Mem) : Prop := WpM g 2 mi_X9_putsPaper 2 [some (.ref 85), some (.int s.1), some (.int s.2.1), none] [] s.2.2 (zM g mi_X9_putsPaper Q)
abbrev P_X9_putsPaper_2 (g : Gx)  (Q : Qy) : ((Int32 × Int32 × Mem) ⊕ Mem) → Prop := pS (A_X9_putsPaper_2 g Q) (pV Q)
abbrev A_X9_putsPaper_12 (g : Gx)  (Q : Qy) (s : Int32 × Int32 × Int32 × Mem) : Prop := WpM g 2 mi_X9_putsPaper 12 [some (.ref 85), some (.int s.1), some (.int s.2.1), some (.int s.2.2.1)] [] s.2.2.2 (zM g mi_X9_putsPaper Q)
abbrev P_X9_putsPaper_12 (g : Gx)  (Q : Qy) : ((Int32 × Int32 × Int32 × Mem) ⊕ ((Int32 × Int32 × Mem) ⊕ Mem)) → Prop := pS (A_X9_putsPaper_12 g Q) (P_X9_putsPaper_2 g Q)
noncomputable def f_X9_putsPaper_L12  (s : Int32 × Int32 × Int32 × Mem) : Option ((Int32 × Int32 × Int32 × Mem) ⊕ ((Int32 × Int32 × Mem) ⊕ Mem)) := if (gI s.2.2.2 85 6) ≤ s.2.2.1 then up (bnd (s.2.1 + (1 : Int32)) (fun y1 => some (Sum.inl (s.1, y1, s.2.2.2)))) else ck s.2.1 20 (if ¬ (gI s.2.2.2 91 (ix s.2.1)) = s.1 then bnd (s.2.2.1 + (1 : Int32)) (fun y2 => some (Sum.inl (s.1, s.2.1, y2, s.2.2.2))) else (f_X9_isSaid s.2.1 s.2.2.2).bind (fun q3 => if ¬ q3.1 = 0 then bnd (s.2.2.1 + (1 : Int32)) (fun y4 => some (Sum.inl (s.1, s.2.1, y4, q3.2))) else (f_X9_isThere s.2.2.1 q3.2).bind (fun q5 => if q5.1 = 0 then bnd (s.2.2.1 + (1 : Int32)) (fun y6 => some (Sum.inl (s.1, s.2.1, y6, q5.2))) else (f_X9_knows s.2.2.1 s.2.1 q5.2).bind (fun q7 => if q7.1 = 0 then bnd (s.2.2.1 + (1 : Int32)) (fun y8 => some (Sum.inl (s.1, s.2.1, y8, q7.2))) else ck s.2.1 20 (bnd (sI q7.2 100 (ix s.2.1) (-1 : Int32)) (fun m9 => ck s.2.1 20 (bnd (sI m9 101 (ix s.2.1) (-1 : Int32)) (fun m10 => bnd (s.2.2.1 + (1 : Int32)) (fun y11 => some (Sum.inl (s.1, s.2.1, y11, m10)))))))))))
theorem k_X9_putsPaper_L12 {g : Gx}  {Q : Qy} {s : Int32 × Int32 × Int32 × Mem} {t : (Int32 × Int32 × Int32 × Mem) ⊕ ((Int32 × Int32 × Mem) ⊕ Mem)} (h : f_X9_putsPaper_L12 s = some t) (hP : P_X9_putsPaper_12 g Q t) : A_X9_putsPaper_12 g Q s := by
  refine wp_iload_n dX9_putsPaper_12 rfl rfl ?_
  refine wp_aload_n dX9_putsPaper_13 rfl rfl ?_
  refine wm_getI dX9_putsPaper_14 s_85 fk_X9_159 rfl rfl ?_
  refine wm_icmp_ge 75 dX9_putsPaper_17 rfl rfl h (fun h => ?_) (fun h => ?_)
  · refine wm_up h hP (fun r h hP => ?_)
    refine wm_inc dX9_putsPaper_75 rfl ii_1 (by decide) rfl rfl h (fun y1 h => ?_)
    refine wm_list (L' := [some (.ref 85), some (.int s.1), some (.int y1), some (.int s.2.2.1)]) rfl ?_
    refine wp_goto 2 dX9_putsPaper_78 rfl ?_
    have hB := wm_back h hP
    exact wm_mask (L' := [some (.ref 85), some (.int s.1), some (.int y1), none]) [true, true, true, false] rfl (hB)
  · refine wp_aload_n dX9_putsPaper_20 rfl rfl ?_
    refine wm_getR dX9_putsPaper_21 s_85 fk_X9_25 rfl r_85_10 rfl ?_
    refine wp_iload_n dX9_putsPaper_24 rfl rfl ?_
    refine wm_iald dX9_putsPaper_25 s_91 rfl h (fun h => ?_)
    refine wp_iload_n dX9_putsPaper_26 rfl rfl ?_
    refine wm_icmp_ne 69 dX9_putsPaper_27 rfl rfl h (fun h => ?_) (fun h => ?_)
    · refine wm_inc dX9_putsPaper_69 rfl ii_1 (by decide) rfl rfl h (fun y2 h => ?_)
      refine wm_list (L' := [some (.ref 85), some (.int s.1), some (.int s.2.1), some (.int y2)]) rfl ?_
      refine wp_goto 12 dX9_putsPaper_72 rfl ?_
      have hB := wm_back h hP
      exact wm_mask (L' := [some (.ref 85), some (.int s.1), some (.int s.2.1), some (.int y2)]) [true, true, true, true] rfl (hB)
    · refine wp_aload_n dX9_putsPaper_30 rfl rfl ?_
      refine wp_iload_n dX9_putsPaper_31 rfl rfl ?_
      refine wm_callVI (As := [.int s.2.1]) (rest := []) dX9_putsPaper_32 ok_X9_296 (by decide) rfl s_85 ⟨_, rfl⟩ (Nat.le_of_ble_eq_true rfl) ⟨rfl, rfl⟩ rfl (fun t h => o_X9_isSaid h) h (fun q3 h => ?_)
      refine wm_if_ne 69 dX9_putsPaper_35 rfl rfl h (fun h => ?_) (fun h => ?_)
      · refine wm_inc dX9_putsPaper_69 rfl ii_1 (by decide) rfl rfl h (fun y4 h => ?_)
        refine wm_list (L' := [some (.ref 85), some (.int s.1), some (.int s.2.1), some (.int y4)]) rfl ?_
        refine wp_goto 12 dX9_putsPaper_72 rfl ?_
        have hB := wm_back h hP
        exact wm_mask (L' := [some (.ref 85), some (.int s.1), some (.int s.2.1), some (.int y4)]) [true, true, true, true] rfl (hB)
      · refine wp_aload_n dX9_putsPaper_38 rfl rfl ?_
        refine wp_iload_n dX9_putsPaper_39 rfl rfl ?_
        refine wm_callVI (As := [.int s.2.2.1]) (rest := []) dX9_putsPaper_40 ok_X9_299 (by decide) rfl s_85 ⟨_, rfl⟩ (Nat.le_of_ble_eq_true rfl) ⟨rfl, rfl⟩ rfl (fun t h => o_X9_isThere h) h (fun q5 h => ?_)
        refine wm_if_eq 69 dX9_putsPaper_43 rfl rfl h (fun h => ?_) (fun h => ?_)
        · refine wm_inc dX9_putsPaper_69 rfl ii_1 (by decide) rfl rfl h (fun y6 h => ?_)
          refine wm_list (L' := [some (.ref 85), some (.int s.1), some (.int s.2.1), some (.int y6)]) rfl ?_
          refine wp_goto 12 dX9_putsPaper_72 rfl ?_
          have hB := wm_back h hP
          exact wm_mask (L' := [some (.ref 85), some (.int s.1), some (.int s.2.1), some (.int y6)]) [true, true, true, true] rfl (hB)
        · refine wp_aload_n dX9_putsPaper_46 rfl rfl ?_
          refine wp_iload_n dX9_putsPaper_47 rfl rfl ?_
          refine wp_iload_n dX9_putsPaper_48 rfl rfl ?_
          refine wm_callVI (As := [.int s.2.2.1, .int s.2.1]) (rest := []) dX9_putsPaper_49 ok_X9_292 (by decide) rfl s_85 ⟨_, rfl⟩ (Nat.le_of_ble_eq_true rfl) ⟨rfl, rfl⟩ rfl (fun t h => o_X9_knows h) h (fun q7 h => ?_)
          refine wm_if_eq 69 dX9_putsPaper_52 rfl rfl h (fun h => ?_) (fun h => ?_)
          · refine wm_inc dX9_putsPaper_69 rfl ii_1 (by decide) rfl rfl h (fun y8 h => ?_)
            refine wm_list (L' := [some (.ref 85), some (.int s.1), some (.int s.2.1), some (.int y8)]) rfl ?_
            refine wp_goto 12 dX9_putsPaper_72 rfl ?_
            have hB := wm_back h hP
            exact wm_mask (L' := [some (.ref 85), some (.int s.1), some (.int s.2.1), some (.int y8)]) [true, true, true, true] rfl (hB)
          · refine wp_aload_n dX9_putsPaper_55 rfl rfl ?_
            refine wm_getR dX9_putsPaper_56 s_85 fk_X9_52 rfl r_85_35 rfl ?_
            refine wp_iload_n dX9_putsPaper_59 rfl rfl ?_
            refine wp_iconst (-1 : Int32) dX9_putsPaper_60 ic_m1 rfl ?_
            refine wm_iast dX9_putsPaper_61 s_100 rfl h (fun m9 h => ?_)
            refine wp_aload_n dX9_putsPaper_62 rfl rfl ?_
            refine wm_getR dX9_putsPaper_63 s_85 fk_X9_55 rfl r_85_36 rfl ?_
            refine wp_iload_n dX9_putsPaper_66 rfl rfl ?_
            refine wp_iconst (-1 : Int32) dX9_putsPaper_67 ic_m1 rfl ?_
            refine wm_iast dX9_putsPaper_68 s_101 rfl h (fun m10 h => ?_)
            refine wm_inc dX9_putsPaper_69 rfl ii_1 (by decide) rfl rfl h (fun y11 h => ?_)
            refine wm_list (L' := [some (.ref 85), some (.int s.1), some (.int s.2.1), some (.int y11)]) rfl ?_
            refine wp_goto 12 dX9_putsPaper_72 rfl ?_
            have hB := wm_back h hP
            exact wm_mask (L' := [some (.ref 85), some (.int s.1), some (.int s.2.1), some (.int y11)]) [true, true, true, true] rfl (hB)
noncomputable def f_X9_putsPaper_L2  (s : Int32 × Int32 × Mem) : Option ((Int32 × Int32 × Mem) ⊕ Mem) := if (gI s.2.2 85 9) ≤ s.2.1 then up (some s.2.2) else wh (f_X9_putsPaper_L12) (s.1, s.2.1, (0 : Int32), s.2.2)
theorem k_X9_putsPaper_L2 {g : Gx}  {Q : Qy} {s : Int32 × Int32 × Mem} {t : (Int32 × Int32 × Mem) ⊕ Mem} (h : f_X9_putsPaper_L2 s = some t) (hP : P_X9_putsPaper_2 g Q t) : A_X9_putsPaper_2 g Q s := by
  refine wp_iload_n dX9_putsPaper_2 rfl rfl ?_
  refine wp_aload_n dX9_putsPaper_3 rfl rfl ?_
  refine wm_getI dX9_putsPaper_4 s_85 fk_X9_169 rfl rfl ?_
  refine wm_icmp_ge 81 dX9_putsPaper_7 rfl rfl h (fun h => ?_) (fun h => ?_)
  · refine wm_up h hP (fun r h hP => ?_)
    exact wm_vret dX9_putsPaper_81 rfl ⟨rfl, rfl⟩ h hP
  · refine wp_iconst (0 : Int32) dX9_putsPaper_10 ic_0 rfl ?_
    refine wp_istore_n (L' := [some (.ref 85), some (.int s.1), some (.int s.2.1), some (.int (0 : Int32))]) dX9_putsPaper_11 (by decide) rfl rfl rfl ?_
    have hB := wh_ok (A := A_X9_putsPaper_12 g Q) (B := P_X9_putsPaper_2 g Q) (fun s t h hP => k_X9_putsPaper_L12  h hP) h hP
    exact wm_mask (L' := [some (.ref 85), some (.int s.1), some (.int s.2.1), some (.int (0 : Int32))]) [true, true, true, true] rfl (hB)
noncomputable def f_X9_putsPaper  (p1 : Int32) (m : Mem) : Option Mem := wh (f_X9_putsPaper_L2) (p1, (0 : Int32), m)
theorem k_X9_putsPaper_E {g : Gx}  {p1 : Int32} {Q : Qy} {m : Mem} {t : Mem} (h : f_X9_putsPaper p1 m = some t) (hP : pV Q t) : WpM g 2 mi_X9_putsPaper 0 [some (.ref 85), some (.int p1), none, none] [] m (zM g mi_X9_putsPaper Q) := by
  refine wp_iconst (0 : Int32) dX9_putsPaper_0 ic_0 rfl ?_
  refine wp_istore_n (L' := [some (.ref 85), some (.int p1), some (.int (0 : Int32)), none]) dX9_putsPaper_1 (by decide) rfl rfl rfl ?_
  have hB := wh_ok (A := A_X9_putsPaper_2 g Q) (B := pV Q) (fun s t h hP => k_X9_putsPaper_L2  h hP) h hP
  exact wm_mask (L' := [some (.ref 85), some (.int p1), some (.int (0 : Int32)), none]) [true, true, true, false] rfl (hB)
theorem o_X9_putsPaper {g : Gx}  {p1 : Int32} {m : Mem} {t : Mem} (h : f_X9_putsPaper p1 m = some t) : MxM g 2 mi_X9_putsPaper [.ref 85, .int p1] m (qV t) := mx_of pn_X9 (Nat.le_of_ble_eq_true rfl) (k_X9_putsPaper_E h ⟨rfl, rfl, rfl, rfl, rfl⟩)
abbrev A_X9_unsaid_5 (g : Gx)  (Q : Qy) (s : Int32 × Int32 × Int32 × Int32 × Mem) : Prop := WpM g 2 mi_X9_unsaid 5 [some (.ref 85), some (.int s.1), some (.int s.2.1), some (.int s.2.2.1), some (.int s.2.2.2.1)] [] s.2.2.2.2 (zM g mi_X9_unsaid Q)
abbrev P_X9_unsaid_5 (g : Gx)  (Q : Qy) : ((Int32 × Int32 × Int32 × Int32 × Mem) ⊕ (Int32 × Mem)) → Prop := pS (A_X9_unsaid_5 g Q) (pI Q)
noncomputable def f_X9_unsaid_L5  (s : Int32 × Int32 × Int32 × Int32 × Mem) : Option ((Int32 × Int32 × Int32 × Int32 × Mem) ⊕ (Int32 × Mem)) := if (gI s.2.2.2.2 85 9) ≤ s.2.2.2.1 then up (some (s.2.2.1, s.2.2.2.2)) else ck s.2.2.2.1 20 (if ¬ (gI s.2.2.2.2 91 (ix s.2.2.2.1)) = s.2.1 then bnd (s.2.2.1 + (0 : Int32)) (fun y1 => bnd (s.2.2.2.1 + (1 : Int32)) (fun y2 => some (Sum.inl (s.1, s.2.1, y1, y2, s.2.2.2.2)))) else (f_X9_knows s.1 s.2.2.2.1 s.2.2.2.2).bind (fun q3 => if q3.1 = 0 then bnd (s.2.2.1 + (0 : Int32)) (fun y4 => bnd (s.2.2.2.1 + (1 : Int32)) (fun y5 => some (Sum.inl (s.1, s.2.1, y4, y5, q3.2)))) else (f_X9_isSaid s.2.2.2.1 q3.2).bind (fun q6 => if ¬ q6.1 = 0 then bnd (s.2.2.1 + (0 : Int32)) (fun y7 => bnd (s.2.2.2.1 + (1 : Int32)) (fun y8 => some (Sum.inl (s.1, s.2.1, y7, y8, q6.2)))) else bnd (s.2.2.1 + (1 : Int32)) (fun y9 => bnd (s.2.2.2.1 + (1 : Int32)) (fun y10 => some (Sum.inl (s.1, s.2.1, y9, y10, q6.2)))))))
theorem k_X9_unsaid_L5 {g : Gx}  {Q : Qy} {s : Int32 × Int32 × Int32 × Int32 × Mem} {t : (Int32 × Int32 × Int32 × Int32 × Mem) ⊕ (Int32 × Mem)} (h : f_X9_unsaid_L5 s = some t) (hP : P_X9_unsaid_5 g Q t) : A_X9_unsaid_5 g Q s := by
  refine wp_iload dX9_unsaid_5 rfl rfl ?_
  refine wp_aload_n dX9_unsaid_7 rfl rfl ?_
  refine wm_getI dX9_unsaid_8 s_85 fk_X9_169 rfl rfl ?_
  refine wm_icmp_ge 58 dX9_unsaid_11 rfl rfl h (fun h => ?_) (fun h => ?_)
  · refine wm_up h hP (fun r h hP => ?_)
    refine wp_iload_n dX9_unsaid_58 rfl rfl ?_
    exact wm_iret dX9_unsaid_59 rfl ⟨rfl, rfl⟩ h hP
  · refine wp_iload_n dX9_unsaid_14 rfl rfl ?_
    refine wp_aload_n dX9_unsaid_15 rfl rfl ?_
    refine wm_getR dX9_unsaid_16 s_85 fk_X9_25 rfl r_85_10 rfl ?_
    refine wp_iload dX9_unsaid_19 rfl rfl ?_
    refine wm_iald dX9_unsaid_21 s_91 rfl h (fun h => ?_)
    refine wp_iload_n dX9_unsaid_22 rfl rfl ?_
    refine wm_icmp_ne 49 dX9_unsaid_23 rfl rfl h (fun h => ?_) (fun h => ?_)
    · refine wp_iconst (0 : Int32) dX9_unsaid_49 ic_0 rfl ?_
      refine wp_iadd dX9_unsaid_50 rfl ?_
      refine wm_nm h (fun y1 h => ?_)
      refine wp_istore_n (L' := [some (.ref 85), some (.int s.1), some (.int s.2.1), some (.int y1), some (.int s.2.2.2.1)]) dX9_unsaid_51 (by decide) rfl rfl rfl ?_
      refine wm_inc dX9_unsaid_52 rfl ii_1 (by decide) rfl rfl h (fun y2 h => ?_)
      refine wm_list (L' := [some (.ref 85), some (.int s.1), some (.int s.2.1), some (.int y1), some (.int y2)]) rfl ?_
      refine wp_goto 5 dX9_unsaid_55 rfl ?_
      have hB := wm_back h hP
      exact wm_mask (L' := [some (.ref 85), some (.int s.1), some (.int s.2.1), some (.int y1), some (.int y2)]) [true, true, true, true, true] rfl (hB)
    · refine wp_aload_n dX9_unsaid_26 rfl rfl ?_
      refine wp_iload_n dX9_unsaid_27 rfl rfl ?_
      refine wp_iload dX9_unsaid_28 rfl rfl ?_
      refine wm_callVI (As := [.int s.1, .int s.2.2.2.1]) (rest := [.int s.2.2.1]) dX9_unsaid_30 ok_X9_292 (by decide) rfl s_85 ⟨_, rfl⟩ (Nat.le_of_ble_eq_true rfl) ⟨rfl, rfl⟩ rfl (fun t h => o_X9_knows h) h (fun q3 h => ?_)
      refine wm_if_eq 49 dX9_unsaid_33 rfl rfl h (fun h => ?_) (fun h => ?_)
      · refine wp_iconst (0 : Int32) dX9_unsaid_49 ic_0 rfl ?_
        refine wp_iadd dX9_unsaid_50 rfl ?_
        refine wm_nm h (fun y4 h => ?_)
        refine wp_istore_n (L' := [some (.ref 85), some (.int s.1), some (.int s.2.1), some (.int y4), some (.int s.2.2.2.1)]) dX9_unsaid_51 (by decide) rfl rfl rfl ?_
        refine wm_inc dX9_unsaid_52 rfl ii_1 (by decide) rfl rfl h (fun y5 h => ?_)
        refine wm_list (L' := [some (.ref 85), some (.int s.1), some (.int s.2.1), some (.int y4), some (.int y5)]) rfl ?_
        refine wp_goto 5 dX9_unsaid_55 rfl ?_
        have hB := wm_back h hP
        exact wm_mask (L' := [some (.ref 85), some (.int s.1), some (.int s.2.1), some (.int y4), some (.int y5)]) [true, true, true, true, true] rfl (hB)
      · refine wp_aload_n dX9_unsaid_36 rfl rfl ?_
        refine wp_iload dX9_unsaid_37 rfl rfl ?_
        refine wm_callVI (As := [.int s.2.2.2.1]) (rest := [.int s.2.2.1]) dX9_unsaid_39 ok_X9_296 (by decide) rfl s_85 ⟨_, rfl⟩ (Nat.le_of_ble_eq_true rfl) ⟨rfl, rfl⟩ rfl (fun t h => o_X9_isSaid h) h (fun q6 h => ?_)
        refine wm_if_ne 49 dX9_unsaid_42 rfl rfl h (fun h => ?_) (fun h => ?_)
        · refine wp_iconst (0 : Int32) dX9_unsaid_49 ic_0 rfl ?_
          refine wp_iadd dX9_unsaid_50 rfl ?_
          refine wm_nm h (fun y7 h => ?_)
          refine wp_istore_n (L' := [some (.ref 85), some (.int s.1), some (.int s.2.1), some (.int y7), some (.int s.2.2.2.1)]) dX9_unsaid_51 (by decide) rfl rfl rfl ?_
          refine wm_inc dX9_unsaid_52 rfl ii_1 (by decide) rfl rfl h (fun y8 h => ?_)
          refine wm_list (L' := [some (.ref 85), some (.int s.1), some (.int s.2.1), some (.int y7), some (.int y8)]) rfl ?_
          refine wp_goto 5 dX9_unsaid_55 rfl ?_
          have hB := wm_back h hP
          exact wm_mask (L' := [some (.ref 85), some (.int s.1), some (.int s.2.1), some (.int y7), some (.int y8)]) [true, true, true, true, true] rfl (hB)
        · refine wp_iconst (1 : Int32) dX9_unsaid_45 ic_1 rfl ?_
          refine wp_goto 50 dX9_unsaid_46 rfl ?_
          refine wp_iadd dX9_unsaid_50 rfl ?_
          refine wm_nm h (fun y9 h => ?_)
          refine wp_istore_n (L' := [some (.ref 85), some (.int s.1), some (.int s.2.1), some (.int y9), some (.int s.2.2.2.1)]) dX9_unsaid_51 (by decide) rfl rfl rfl ?_
          refine wm_inc dX9_unsaid_52 rfl ii_1 (by decide) rfl rfl h (fun y10 h => ?_)
          refine wm_list (L' := [some (.ref 85), some (.int s.1), some (.int s.2.1), some (.int y9), some (.int y10)]) rfl ?_
          refine wp_goto 5 dX9_unsaid_55 rfl ?_
          have hB := wm_back h hP
          exact wm_mask (L' := [some (.ref 85), some (.int s.1), some (.int s.2.1), some (.int y9), some (.int y10)]) [true, true, true, true, true] rfl (hB)
noncomputable def f_X9_unsaid  (p1 : Int32) (p2 : Int32) (m : Mem) : Option (Int32 × Mem) := wh (f_X9_unsaid_L5) (p1, p2, (0 : Int32), (0 : Int32), m)
theorem k_X9_unsaid_E {g : Gx}  {p1 : Int32} {p2 : Int32} {Q : Qy} {m : Mem} {t : Int32 × Mem} (h : f_X9_unsaid p1 p2 m = some t) (hP : pI Q t) : WpM g 2 mi_X9_unsaid 0 [some (.ref 85), some (.int p1), some (.int p2), none, none] [] m (zM g mi_X9_unsaid Q) := by
  refine wp_iconst (0 : Int32) dX9_unsaid_0 ic_0 rfl ?_
  refine wp_istore_n (L' := [some (.ref 85), some (.int p1), some (.int p2), some (.int (0 : Int32)), none]) dX9_unsaid_1 (by decide) rfl rfl rfl ?_
  refine wp_iconst (0 : Int32) dX9_unsaid_2 ic_0 rfl ?_
  refine wp_istore (L' := [some (.ref 85), some (.int p1), some (.int p2), some (.int (0 : Int32)), some (.int (0 : Int32))]) dX9_unsaid_3 (by decide) rfl rfl rfl ?_
  have hB := wh_ok (A := A_X9_unsaid_5 g Q) (B := pI Q) (fun s t h hP => k_X9_unsaid_L5  h hP) h hP
  exact wm_mask (L' := [some (.ref 85), some (.int p1), some (.int p2), some (.int (0 : Int32)), some (.int (0 : Int32))]) [true, true, true, true, true] rfl (hB)
theorem o_X9_unsaid {g : Gx}  {p1 : Int32} {p2 : Int32} {m : Mem} {t : Int32 × Mem} (h : f_X9_unsaid p1 p2 m = some t) : MxM g 2 mi_X9_unsaid [.ref 85, .int p1, .int p2] m (qI t) := mx_of pn_X9 (Nat.le_of_ble_eq_true rfl) (k_X9_unsaid_E h ⟨rfl, rfl, rfl, rfl, rfl⟩)
noncomputable def f_X9_wrong   (m : Mem) : Option (Int32 × Mem) := if 0 ≤ (gI m 85 23) then bnd (sI m 85 23 (gI m 85 23)) (fun m1 => some ((0 : Int32), m1)) else bnd (sI m 85 23 (gI m 85 21)) (fun m2 => some ((0 : Int32), m2))
theorem k_X9_wrong_E {g : Gx}   {Q : Qy} {m : Mem} {t : Int32 × Mem} (h : f_X9_wrong m = some t) (hP : pI Q t) : WpM g 1 mi_X9_wrong 0 [some (.ref 85)] [] m (zM g mi_X9_wrong Q) := by
  refine wp_aload_n dX9_wrong_0 rfl rfl ?_
  refine wp_aload_n dX9_wrong_1 rfl rfl ?_
  refine wm_getI dX9_wrong_2 s_85 fk_X9_239 rfl rfl ?_
  refine wm_if_ge 15 dX9_wrong_5 rfl rfl h (fun h => ?_) (fun h => ?_)
  · refine wp_aload_n dX9_wrong_15 rfl rfl ?_
    refine wm_getI dX9_wrong_16 s_85 fk_X9_239 rfl rfl ?_
    refine wm_putI dX9_wrong_19 s_85 fk_X9_239 rfl rfl h (fun m1 h => ?_)
    refine wp_iconst (0 : Int32) dX9_wrong_22 ic_0 rfl ?_
    exact wm_iret dX9_wrong_23 rfl ⟨rfl, rfl⟩ h hP
  · refine wp_aload_n dX9_wrong_8 rfl rfl ?_
    refine wm_getI dX9_wrong_9 s_85 fk_X9_230 rfl rfl ?_
    refine wp_goto 19 dX9_wrong_12 rfl ?_
    refine wm_putI dX9_wrong_19 s_85 fk_X9_239 rfl rfl h (fun m2 h => ?_)
    refine wp_iconst (0 : Int32) dX9_wrong_22 ic_0 rfl ?_
    exact wm_iret dX9_wrong_23 rfl ⟨rfl, rfl⟩ h hP
theorem o_X9_wrong {g : Gx}   {m : Mem} {t : Int32 × Mem} (h : f_X9_wrong m = some t) : MxM g 1 mi_X9_wrong [.ref 85] m (qI t) := mx_of pn_X9 (Nat.le_of_ble_eq_true rfl) (k_X9_wrong_E h ⟨rfl, rfl, rfl, rfl, rfl⟩)
noncomputable def f_X9_nameOf  (p1 : Int32) (m : Mem) : Option (Int32 × Mem) := sw p1 [((101 : Int32), some ((2 : Int32), m)), ((102 : Int32), some ((-1 : Int32), m)), ((103 : Int32), some ((-1 : Int32), m)), ((104 : Int32), some ((-1 : Int32), m)), ((105 : Int32), some ((-1 : Int32), m)), ((106 : Int32), some ((-1 : Int32), m)), ((107 : Int32), some ((-1 : Int32), m)), ((108 : Int32), some ((7 : Int32), m)), ((109 : Int32), some ((-1 : Int32), m)), ((110 : Int32), some ((3 : Int32), m)), ((111 : Int32), some ((-1 : Int32), m)), ((112 : Int32), some ((6 : Int32), m)), ((113 : Int32), some ((-1 : Int32), m)), ((114 : Int32), some ((0 : Int32), m)), ((115 : Int32), some ((4 : Int32), m)), ((116 : Int32), some ((5 : Int32), m)), ((117 : Int32), some ((-1 : Int32), m)), ((118 : Int32), some ((1 : Int32), m))] (some ((-1 : Int32), m))
theorem k_X9_nameOf_E {g : Gx}  {p1 : Int32} {Q : Qy} {m : Mem} {t : Int32 × Mem} (h : f_X9_nameOf p1 m = some t) (hP : pI Q t) : WpM g 1 mi_X9_nameOf 0 [some (.int p1)] [] m (zM g mi_X9_nameOf Q) := by
  refine wp_iload_n dX9_nameOf_0 rfl rfl ?_
  refine wm_tsw [((101 : Int32), 92), ((102 : Int32), 106), ((103 : Int32), 106), ((104 : Int32), 106), ((105 : Int32), 106), ((106 : Int32), 106), ((107 : Int32), 106), ((108 : Int32), 103), ((109 : Int32), 106), ((110 : Int32), 94), ((111 : Int32), 106), ((112 : Int32), 100), ((113 : Int32), 106), ((114 : Int32), 88), ((115 : Int32), 96), ((116 : Int32), 98), ((117 : Int32), 106), ((118 : Int32), 90)] 106 dX9_nameOf_1 rfl (by decide) (by decide +kernel) (by decide +kernel) (by decide +kernel) h rfl ⟨fun h => ?_, fun h => ?_, fun h => ?_, fun h => ?_, fun h => ?_, fun h => ?_, fun h => ?_, fun h => ?_, fun h => ?_, fun h => ?_, fun h => ?_, fun h => ?_, fun h => ?_, fun h => ?_, fun h => ?_, fun h => ?_, fun h => ?_, fun h => ?_, trivial⟩ (fun h => ?_)
  · refine wp_iconst (2 : Int32) dX9_nameOf_92 ic_2 rfl ?_
    exact wm_iret dX9_nameOf_93 rfl ⟨rfl, rfl⟩ h hP
  · refine wp_iconst (-1 : Int32) dX9_nameOf_106 ic_m1 rfl ?_
    exact wm_iret dX9_nameOf_107 rfl ⟨rfl, rfl⟩ h hP
  · refine wp_iconst (-1 : Int32) dX9_nameOf_106 ic_m1 rfl ?_
    exact wm_iret dX9_nameOf_107 rfl ⟨rfl, rfl⟩ h hP
  · refine wp_iconst (-1 : Int32) dX9_nameOf_106 ic_m1 rfl ?_
    exact wm_iret dX9_nameOf_107 rfl ⟨rfl, rfl⟩ h hP
  · refine wp_iconst (-1 : Int32) dX9_nameOf_106 ic_m1 rfl ?_
    exact wm_iret dX9_nameOf_107 rfl ⟨rfl, rfl⟩ h hP
  · refine wp_iconst (-1 : Int32) dX9_nameOf_106 ic_m1 rfl ?_
    exact wm_iret dX9_nameOf_107 rfl ⟨rfl, rfl⟩ h hP
  · refine wp_iconst (-1 : Int32) dX9_nameOf_106 ic_m1 rfl ?_
    exact wm_iret dX9_nameOf_107 rfl ⟨rfl, rfl⟩ h hP
  · refine wp_bipush (7 : Int32) dX9_nameOf_103 ib_7 rfl ?_
    exact wm_iret dX9_nameOf_105 rfl ⟨rfl, rfl⟩ h hP
  · refine wp_iconst (-1 : Int32) dX9_nameOf_106 ic_m1 rfl ?_
    exact wm_iret dX9_nameOf_107 rfl ⟨rfl, rfl⟩ h hP
  · refine wp_iconst (3 : Int32) dX9_nameOf_94 ic_3 rfl ?_
    exact wm_iret dX9_nameOf_95 rfl ⟨rfl, rfl⟩ h hP
  · refine wp_iconst (-1 : Int32) dX9_nameOf_106 ic_m1 rfl ?_
    exact wm_iret dX9_nameOf_107 rfl ⟨rfl, rfl⟩ h hP
  · refine wp_bipush (6 : Int32) dX9_nameOf_100 ib_6 rfl ?_
    exact wm_iret dX9_nameOf_102 rfl ⟨rfl, rfl⟩ h hP
  · refine wp_iconst (-1 : Int32) dX9_nameOf_106 ic_m1 rfl ?_
    exact wm_iret dX9_nameOf_107 rfl ⟨rfl, rfl⟩ h hP
  · refine wp_iconst (0 : Int32) dX9_nameOf_88 ic_0 rfl ?_
    exact wm_iret dX9_nameOf_89 rfl ⟨rfl, rfl⟩ h hP
  · refine wp_iconst (4 : Int32) dX9_nameOf_96 ic_4 rfl ?_
    exact wm_iret dX9_nameOf_97 rfl ⟨rfl, rfl⟩ h hP
  · refine wp_iconst (5 : Int32) dX9_nameOf_98 ic_5 rfl ?_
    exact wm_iret dX9_nameOf_99 rfl ⟨rfl, rfl⟩ h hP
  · refine wp_iconst (-1 : Int32) dX9_nameOf_106 ic_m1 rfl ?_
    exact wm_iret dX9_nameOf_107 rfl ⟨rfl, rfl⟩ h hP
  · refine wp_iconst (1 : Int32) dX9_nameOf_90 ic_1 rfl ?_
    exact wm_iret dX9_nameOf_91 rfl ⟨rfl, rfl⟩ h hP
  · refine wp_iconst (-1 : Int32) dX9_nameOf_106 ic_m1 rfl ?_
    exact wm_iret dX9_nameOf_107 rfl ⟨rfl, rfl⟩ h hP
theorem o_X9_nameOf {g : Gx}  {p1 : Int32} {m : Mem} {t : Int32 × Mem} (h : f_X9_nameOf p1 m = some t) : MxM g 1 mi_X9_nameOf [.int p1] m (qI t) := mx_of pn_X9 (Nat.le_of_ble_eq_true rfl) (k_X9_nameOf_E h ⟨rfl, rfl, rfl, rfl, rfl⟩)
noncomputable def f_X9_one_J104 (rc : Mem → Option (Int32 × Mem)) (v1 : Int32) (v2 : Int32) (m : Mem) : Option (Int32 × Mem) := bnd (sI m 85 24 ((gI m 85 24) - (1 : Int32))) (fun m5 => if ¬ v1 = (40 : Int32) then if ¬ v1 = (45 : Int32) then if ¬ v2 = 0 then some ((0 : Int32), m5) else some ((1 : Int32), m5) else some ((-v2), m5) else some (v2, m5))
theorem k_X9_one_J104 {g : Gx} {d0 : Nat} {rc : Mem → Option (Int32 × Mem)} (hrc : ∀ m t, rc m = some t → MxM g d0 mi_X9_one [.ref 85] m (qI t)) {v1 : Int32} {v2 : Int32}  {Q : Qy} {m : Mem} {t : Int32 × Mem} (h : f_X9_one_J104 rc v1 v2 m = some t) (hP : pI Q t) : WpM g (d0 + 7) mi_X9_one 104 [some (.ref 85), some (.int v1), some (.int v2), none, none] [] m (zM g mi_X9_one Q) := by
  refine wp_aload_n dX9_one_104 rfl rfl ?_
  refine wp_dup dX9_one_105 rfl rfl ?_
  refine wm_getI dX9_one_106 s_85 fk_X9_264 rfl rfl ?_
  refine wp_iconst (1 : Int32) dX9_one_109 ic_1 rfl ?_
  refine wp_isub dX9_one_110 rfl ?_
  refine wm_putI dX9_one_111 s_85 fk_X9_264 rfl rfl h (fun m5 h => ?_)
  refine wp_iload_n dX9_one_114 rfl rfl ?_
  refine wp_bipush (40 : Int32) dX9_one_115 ib_40 rfl ?_
  refine wm_icmp_ne 124 dX9_one_117 rfl rfl h (fun h => ?_) (fun h => ?_)
  · refine wp_iload_n dX9_one_124 rfl rfl ?_
    refine wp_bipush (45 : Int32) dX9_one_125 ib_45 rfl ?_
    refine wm_icmp_ne 135 dX9_one_127 rfl rfl h (fun h => ?_) (fun h => ?_)
    · refine wp_iload_n dX9_one_135 rfl rfl ?_
      refine wm_if_ne 143 dX9_one_136 rfl rfl h (fun h => ?_) (fun h => ?_)
      · refine wp_iconst (0 : Int32) dX9_one_143 ic_0 rfl ?_
        exact wm_iret dX9_one_144 rfl ⟨rfl, rfl⟩ h hP
      · refine wp_iconst (1 : Int32) dX9_one_139 ic_1 rfl ?_
        refine wp_goto 144 dX9_one_140 rfl ?_
        exact wm_iret dX9_one_144 rfl ⟨rfl, rfl⟩ h hP
    · refine wp_iload_n dX9_one_130 rfl rfl ?_
      refine wp_ineg dX9_one_131 rfl ?_
      refine wp_goto 144 dX9_one_132 rfl ?_
      exact wm_iret dX9_one_144 rfl ⟨rfl, rfl⟩ h hP
  · refine wp_iload_n dX9_one_120 rfl rfl ?_
    refine wp_goto 144 dX9_one_121 rfl ?_
    exact wm_iret dX9_one_144 rfl ⟨rfl, rfl⟩ h hP
noncomputable def f_X9_one_J83 (rc : Mem → Option (Int32 × Mem)) (v1 : Int32) (t0 : Int32) (m : Mem) : Option (Int32 × Mem) := if ¬ v1 = (40 : Int32) then f_X9_one_J104 rc v1 t0 m else (f_X9_takes (41 : Int32) m).bind (fun q6 => if ¬ q6.1 = 0 then f_X9_one_J104 rc v1 t0 q6.2 else (f_X9_wrong q6.2).bind (fun q7 => some (q7.1, q7.2)))
theorem k_X9_one_J83 {g : Gx} {d0 : Nat} {rc : Mem → Option (Int32 × Mem)} (hrc : ∀ m t, rc m = some t → MxM g d0 mi_X9_one [.ref 85] m (qI t)) {v1 : Int32} {t0 : Int32}  {Q : Qy} {m : Mem} {t : Int32 × Mem} (h : f_X9_one_J83 rc v1 t0 m = some t) (hP : pI Q t) : WpM g (d0 + 7) mi_X9_one 83 [some (.ref 85), some (.int v1), none, none, none] [.int t0] m (zM g mi_X9_one Q) := by
  refine wp_istore_n (L' := [some (.ref 85), some (.int v1), some (.int t0), none, none]) dX9_one_83 (by decide) rfl rfl rfl ?_
  refine wp_iload_n dX9_one_84 rfl rfl ?_
  refine wp_bipush (40 : Int32) dX9_one_85 ib_40 rfl ?_
  refine wm_icmp_ne 104 dX9_one_87 rfl rfl h (fun h => ?_) (fun h => ?_)
  · exact wm_mask (L' := [some (.ref 85), some (.int v1), some (.int t0), none, none]) [true, true, true, false, false] rfl (k_X9_one_J104 hrc h hP)
  · refine wp_aload_n dX9_one_90 rfl rfl ?_
    refine wp_bipush (41 : Int32) dX9_one_91 ib_41 rfl ?_
    refine wm_callVI (As := [.int (41 : Int32)]) (rest := []) dX9_one_93 ok_X9_249 (by omega) rfl s_85 ⟨_, rfl⟩ (Nat.le_of_ble_eq_true rfl) ⟨rfl, rfl⟩ rfl (fun t h => o_X9_takes h) h (fun q6 h => ?_)
    refine wm_if_ne 104 dX9_one_96 rfl rfl h (fun h => ?_) (fun h => ?_)
    · exact wm_mask (L' := [some (.ref 85), some (.int v1), some (.int t0), none, none]) [true, true, true, false, false] rfl (k_X9_one_J104 hrc h hP)
    · refine wp_aload_n dX9_one_99 rfl rfl ?_
      refine wm_callVI (As := []) (rest := []) dX9_one_100 ok_X9_267 (by omega) rfl s_85 ⟨_, rfl⟩ (Nat.le_of_ble_eq_true rfl) ⟨rfl, rfl⟩ rfl (fun t h => o_X9_wrong h) h (fun q7 h => ?_)
      exact wm_iret dX9_one_103 rfl ⟨rfl, rfl⟩ h hP
noncomputable def f_X9_one_J32 (rc : Mem → Option (Int32 × Mem)) (v1 : Int32) (m : Mem) : Option (Int32 × Mem) := if ¬ (gI m 85 24) = (6 : Int32) then bnd (sI m 85 24 ((gI m 85 24) + (1 : Int32))) (fun m2 => bnd (sI m2 85 21 ((gI m2 85 21) + (1 : Int32))) (fun m3 => if ¬ v1 = (40 : Int32) then (rc m3).bind (fun q4 => f_X9_one_J83 rc v1 q4.1 q4.2) else (f_X9_either rc m3).bind (fun q8 => f_X9_one_J83 rc v1 q8.1 q8.2))) else (f_X9_wrong m).bind (fun q9 => some (q9.1, q9.2))
theorem k_X9_one_J32 {g : Gx} {d0 : Nat} {rc : Mem → Option (Int32 × Mem)} (hrc : ∀ m t, rc m = some t → MxM g d0 mi_X9_one [.ref 85] m (qI t)) {v1 : Int32}  {Q : Qy} {m : Mem} {t : Int32 × Mem} (h : f_X9_one_J32 rc v1 m = some t) (hP : pI Q t) : WpM g (d0 + 7) mi_X9_one 32 [some (.ref 85), some (.int v1), none, none, none] [] m (zM g mi_X9_one Q) := by
  refine wp_aload_n dX9_one_32 rfl rfl ?_
  refine wm_getI dX9_one_33 s_85 fk_X9_264 rfl rfl ?_
  refine wp_bipush (6 : Int32) dX9_one_36 ib_6 rfl ?_
  refine wm_icmp_ne 46 dX9_one_38 rfl rfl h (fun h => ?_) (fun h => ?_)
  · refine wp_aload_n dX9_one_46 rfl rfl ?_
    refine wp_dup dX9_one_47 rfl rfl ?_
    refine wm_getI dX9_one_48 s_85 fk_X9_264 rfl rfl ?_
    refine wp_iconst (1 : Int32) dX9_one_51 ic_1 rfl ?_
    refine wp_iadd dX9_one_52 rfl ?_
    refine wm_putI dX9_one_53 s_85 fk_X9_264 rfl rfl h (fun m2 h => ?_)
    refine wp_aload_n dX9_one_56 rfl rfl ?_
    refine wp_dup dX9_one_57 rfl rfl ?_
    refine wm_getI dX9_one_58 s_85 fk_X9_230 rfl rfl ?_
    refine wp_iconst (1 : Int32) dX9_one_61 ic_1 rfl ?_
    refine wp_iadd dX9_one_62 rfl ?_
    refine wm_putI dX9_one_63 s_85 fk_X9_230 rfl rfl h (fun m3 h => ?_)
    refine wp_iload_n dX9_one_66 rfl rfl ?_
    refine wp_bipush (40 : Int32) dX9_one_67 ib_40 rfl ?_
    refine wm_icmp_ne 79 dX9_one_69 rfl rfl h (fun h => ?_) (fun h => ?_)
    · refine wp_aload_n dX9_one_79 rfl rfl ?_
      refine wm_callVI (As := []) (rest := []) dX9_one_80 ok_X9_261 (by omega) rfl s_85 ⟨_, rfl⟩ (Nat.le_of_ble_eq_true rfl) ⟨rfl, rfl⟩ rfl (hrc _) h (fun q4 h => ?_)
      exact wm_mask (L' := [some (.ref 85), some (.int v1), none, none, none]) [true, true, false, false, false] rfl (k_X9_one_J83 hrc h hP)
    · refine wp_aload_n dX9_one_72 rfl rfl ?_
      refine wm_callVI (As := []) (rest := []) dX9_one_73 ok_X9_270 (by omega) rfl s_85 ⟨_, rfl⟩ (Nat.le_of_ble_eq_true rfl) ⟨rfl, rfl⟩ rfl (fun t h => o_X9_either hrc h) h (fun q8 h => ?_)
      refine wp_goto 83 dX9_one_76 rfl ?_
      exact wm_mask (L' := [some (.ref 85), some (.int v1), none, none, none]) [true, true, false, false, false] rfl (k_X9_one_J83 hrc h hP)
  · refine wp_aload_n dX9_one_41 rfl rfl ?_
    refine wm_callVI (As := []) (rest := []) dX9_one_42 ok_X9_267 (by omega) rfl s_85 ⟨_, rfl⟩ (Nat.le_of_ble_eq_true rfl) ⟨rfl, rfl⟩ rfl (fun t h => o_X9_wrong h) h (fun q9 h => ?_)
    exact wm_iret dX9_one_45 rfl ⟨rfl, rfl⟩ h hP
abbrev A_X9_one_176 (g : Gx) (d0 : Nat) (Q : Qy) (s : Int32 × Int32 × Mem) : Prop := WpM g (d0 + 7) mi_X9_one 176 [some (.ref 85), none, none, some (.int s.1), some (.int s.2.1)] [] s.2.2 (zM g mi_X9_one Q)
abbrev P_X9_one_176 (g : Gx) (d0 : Nat) (Q : Qy) : ((Int32 × Int32 × Mem) ⊕ (Int32 × Mem)) → Prop := pS (A_X9_one_176 g d0 Q) (pI Q)
noncomputable def f_X9_one_J229 (rc : Mem → Option (Int32 × Mem)) (v3 : Int32) (v4 : Int32) (m : Mem) : Option (Int32 × Mem) := if ¬ v4 = 0 then some (v3, m) else (f_X9_wrong m).bind (fun q11 => some (q11.1, q11.2))
theorem k_X9_one_J229 {g : Gx} {d0 : Nat} {rc : Mem → Option (Int32 × Mem)} (hrc : ∀ m t, rc m = some t → MxM g d0 mi_X9_one [.ref 85] m (qI t)) {v3 : Int32} {v4 : Int32}  {Q : Qy} {m : Mem} {t : Int32 × Mem} (h : f_X9_one_J229 rc v3 v4 m = some t) (hP : pI Q t) : WpM g (d0 + 7) mi_X9_one 229 [some (.ref 85), none, none, some (.int v3), some (.int v4)] [] m (zM g mi_X9_one Q) := by
  refine wp_iload dX9_one_229 rfl rfl ?_
  refine wm_if_ne 241 dX9_one_231 rfl rfl h (fun h => ?_) (fun h => ?_)
  · refine wp_iload_n dX9_one_241 rfl rfl ?_
    exact wm_iret dX9_one_242 rfl ⟨rfl, rfl⟩ h hP
  · refine wp_aload_n dX9_one_234 rfl rfl ?_
    refine wm_callVI (As := []) (rest := []) dX9_one_235 ok_X9_267 (by omega) rfl s_85 ⟨_, rfl⟩ (Nat.le_of_ble_eq_true rfl) ⟨rfl, rfl⟩ rfl (fun t h => o_X9_wrong h) h (fun q11 h => ?_)
    refine wp_goto 242 dX9_one_238 rfl ?_
    exact wm_iret dX9_one_242 rfl ⟨rfl, rfl⟩ h hP
noncomputable def f_X9_one_L176 (rc : Mem → Option (Int32 × Mem)) (s : Int32 × Int32 × Mem) : Option ((Int32 × Int32 × Mem) ⊕ (Int32 × Mem)) := if (4 : Int32) ≤ s.2.1 then up (f_X9_one_J229 rc s.1 s.2.1 s.2.2) else (f_X9_byteAt s.2.2).bind (fun q12 => if q12.1 < (48 : Int32) then up (f_X9_one_J229 rc s.1 s.2.1 q12.2) else (f_X9_byteAt q12.2).bind (fun q13 => if (57 : Int32) < q13.1 then up (f_X9_one_J229 rc s.1 s.2.1 q13.2) else (f_X9_byteAt q13.2).bind (fun q14 => bnd ((((10 : Int32) * s.1) + q14.1) - (48 : Int32)) (fun y15 => bnd (s.2.1 + (1 : Int32)) (fun y16 => bnd (sI q14.2 85 21 ((gI q14.2 85 21) + (1 : Int32))) (fun m17 => some (Sum.inl (y15, y16, m17))))))))
theorem k_X9_one_L176 {g : Gx} {d0 : Nat} {rc : Mem → Option (Int32 × Mem)} (hrc : ∀ m t, rc m = some t → MxM g d0 mi_X9_one [.ref 85] m (qI t)) {Q : Qy} {s : Int32 × Int32 × Mem} {t : (Int32 × Int32 × Mem) ⊕ (Int32 × Mem)} (h : f_X9_one_L176 rc s = some t) (hP : P_X9_one_176 g d0 Q t) : A_X9_one_176 g d0 Q s := by
  refine wp_iload dX9_one_176 rfl rfl ?_
  refine wp_iconst (4 : Int32) dX9_one_178 ic_4 rfl ?_
  refine wm_icmp_ge 229 dX9_one_179 rfl rfl h (fun h => ?_) (fun h => ?_)
  · refine wm_up h hP (fun r h hP => ?_)
    exact wm_mask (L' := [some (.ref 85), none, none, some (.int s.1), some (.int s.2.1)]) [true, false, false, true, true] rfl (k_X9_one_J229 hrc h hP)
  · refine wp_aload_n dX9_one_182 rfl rfl ?_
    refine wm_callVI (As := []) (rest := []) dX9_one_183 ok_X9_242 (by omega) rfl s_85 ⟨_, rfl⟩ (Nat.le_of_ble_eq_true rfl) ⟨rfl, rfl⟩ rfl (fun t h => o_X9_byteAt h) h (fun q12 h => ?_)
    refine wp_bipush (48 : Int32) dX9_one_186 ib_48 rfl ?_
    refine wm_icmp_lt 229 dX9_one_188 rfl rfl h (fun h => ?_) (fun h => ?_)
    · refine wm_up h hP (fun r h hP => ?_)
      exact wm_mask (L' := [some (.ref 85), none, none, some (.int s.1), some (.int s.2.1)]) [true, false, false, true, true] rfl (k_X9_one_J229 hrc h hP)
    · refine wp_aload_n dX9_one_191 rfl rfl ?_
      refine wm_callVI (As := []) (rest := []) dX9_one_192 ok_X9_242 (by omega) rfl s_85 ⟨_, rfl⟩ (Nat.le_of_ble_eq_true rfl) ⟨rfl, rfl⟩ rfl (fun t h => o_X9_byteAt h) h (fun q13 h => ?_)
      refine wp_bipush (57 : Int32) dX9_one_195 ib_57 rfl ?_
      refine wm_icmp_gt 229 dX9_one_197 rfl rfl h (fun h => ?_) (fun h => ?_)
      · refine wm_up h hP (fun r h hP => ?_)
        exact wm_mask (L' := [some (.ref 85), none, none, some (.int s.1), some (.int s.2.1)]) [true, false, false, true, true] rfl (k_X9_one_J229 hrc h hP)
      · refine wp_bipush (10 : Int32) dX9_one_200 ib_10 rfl ?_
        refine wp_iload_n dX9_one_202 rfl rfl ?_
        refine wp_imul dX9_one_203 rfl ?_
        refine wp_aload_n dX9_one_204 rfl rfl ?_
        refine wm_callVI (As := []) (rest := [.int ((10 : Int32) * s.1)]) dX9_one_205 ok_X9_242 (by omega) rfl s_85 ⟨_, rfl⟩ (Nat.le_of_ble_eq_true rfl) ⟨rfl, rfl⟩ rfl (fun t h => o_X9_byteAt h) h (fun q14 h => ?_)
        refine wp_iadd dX9_one_208 rfl ?_
        refine wp_bipush (48 : Int32) dX9_one_209 ib_48 rfl ?_
        refine wp_isub dX9_one_211 rfl ?_
        refine wm_nm h (fun y15 h => ?_)
        refine wp_istore_n (L' := [some (.ref 85), none, none, some (.int y15), some (.int s.2.1)]) dX9_one_212 (by decide) rfl rfl rfl ?_
        refine wm_inc dX9_one_213 rfl ii_1 (by decide) rfl rfl h (fun y16 h => ?_)
        refine wm_list (L' := [some (.ref 85), none, none, some (.int y15), some (.int y16)]) rfl ?_
        refine wp_aload_n dX9_one_216 rfl rfl ?_
        refine wp_dup dX9_one_217 rfl rfl ?_
        refine wm_getI dX9_one_218 s_85 fk_X9_230 rfl rfl ?_
        refine wp_iconst (1 : Int32) dX9_one_221 ic_1 rfl ?_
        refine wp_iadd dX9_one_222 rfl ?_
        refine wm_putI dX9_one_223 s_85 fk_X9_230 rfl rfl h (fun m17 h => ?_)
        refine wp_goto 176 dX9_one_226 rfl ?_
        have hB := wm_back h hP
        exact wm_mask (L' := [some (.ref 85), none, none, some (.int y15), some (.int y16)]) [true, false, false, true, true] rfl (hB)
noncomputable def f_X9_one_B (rc : Mem → Option (Int32 × Mem))  (m : Mem) : Option (Int32 × Mem) := if (gI m 85 23) < 0 then (f_X9_byteAt m).bind (fun q1 => if q1.1 = (33 : Int32) then f_X9_one_J32 rc q1.1 q1.2 else if q1.1 = (45 : Int32) then f_X9_one_J32 rc q1.1 q1.2 else if ¬ q1.1 = (40 : Int32) then (f_X9_nameOf q1.1 q1.2).bind (fun q10 => if q10.1 < 0 then wh (f_X9_one_L176 rc) ((0 : Int32), (0 : Int32), q10.2) else bnd (sI q10.2 85 21 ((gI q10.2 85 21) + (1 : Int32))) (fun m18 => ck q10.1 8 (some ((gI m18 96 (ix q10.1)), m18)))) else f_X9_one_J32 rc q1.1 q1.2) else some ((0 : Int32), m)
theorem k_X9_one_E {g : Gx} {d0 : Nat} {rc : Mem → Option (Int32 × Mem)} (hrc : ∀ m t, rc m = some t → MxM g d0 mi_X9_one [.ref 85] m (qI t))  {Q : Qy} {m : Mem} {t : Int32 × Mem} (h : f_X9_one_B rc m = some t) (hP : pI Q t) : WpM g (d0 + 7) mi_X9_one 0 [some (.ref 85), none, none, none, none] [] m (zM g mi_X9_one Q) := by
  refine wp_aload_n dX9_one_0 rfl rfl ?_
  refine wm_getI dX9_one_1 s_85 fk_X9_239 rfl rfl ?_
  refine wm_if_lt 9 dX9_one_4 rfl rfl h (fun h => ?_) (fun h => ?_)
  · refine wp_aload_n dX9_one_9 rfl rfl ?_
    refine wm_callVI (As := []) (rest := []) dX9_one_10 ok_X9_242 (by omega) rfl s_85 ⟨_, rfl⟩ (Nat.le_of_ble_eq_true rfl) ⟨rfl, rfl⟩ rfl (fun t h => o_X9_byteAt h) h (fun q1 h => ?_)
    refine wp_istore_n (L' := [some (.ref 85), some (.int q1.1), none, none, none]) dX9_one_13 (by decide) rfl rfl rfl ?_
    refine wp_iload_n dX9_one_14 rfl rfl ?_
    refine wp_bipush (33 : Int32) dX9_one_15 ib_33 rfl ?_
    refine wm_icmp_eq 32 dX9_one_17 rfl rfl h (fun h => ?_) (fun h => ?_)
    · exact wm_mask (L' := [some (.ref 85), some (.int q1.1), none, none, none]) [true, true, false, false, false] rfl (k_X9_one_J32 hrc h hP)
    · refine wp_iload_n dX9_one_20 rfl rfl ?_
      refine wp_bipush (45 : Int32) dX9_one_21 ib_45 rfl ?_
      refine wm_icmp_eq 32 dX9_one_23 rfl rfl h (fun h => ?_) (fun h => ?_)
      · exact wm_mask (L' := [some (.ref 85), some (.int q1.1), none, none, none]) [true, true, false, false, false] rfl (k_X9_one_J32 hrc h hP)
      · refine wp_iload_n dX9_one_26 rfl rfl ?_
        refine wp_bipush (40 : Int32) dX9_one_27 ib_40 rfl ?_
        refine wm_icmp_ne 145 dX9_one_29 rfl rfl h (fun h => ?_) (fun h => ?_)
        · refine wp_iload_n dX9_one_145 rfl rfl ?_
          refine wm_callSI (As := [.int q1.1]) (rest := []) dX9_one_146 ok_X9_273 (by omega) rfl (Nat.le_of_ble_eq_true rfl) ⟨rfl, rfl⟩ rfl (fun t h => o_X9_nameOf h) h (fun q10 h => ?_)
          refine wp_istore_n (L' := [some (.ref 85), some (.int q1.1), some (.int q10.1), none, none]) dX9_one_149 (by decide) rfl rfl rfl ?_
          refine wp_iload_n dX9_one_150 rfl rfl ?_
          refine wm_if_lt 171 dX9_one_151 rfl rfl h (fun h => ?_) (fun h => ?_)
          · refine wp_iconst (0 : Int32) dX9_one_171 ic_0 rfl ?_
            refine wp_istore_n (L' := [some (.ref 85), some (.int q1.1), some (.int q10.1), some (.int (0 : Int32)), none]) dX9_one_172 (by decide) rfl rfl rfl ?_
            refine wp_iconst (0 : Int32) dX9_one_173 ic_0 rfl ?_
            refine wp_istore (L' := [some (.ref 85), some (.int q1.1), some (.int q10.1), some (.int (0 : Int32)), some (.int (0 : Int32))]) dX9_one_174 (by decide) rfl rfl rfl ?_
            have hB := wh_ok (A := A_X9_one_176 g d0 Q) (B := pI Q) (fun s t h hP => k_X9_one_L176 hrc h hP) h hP
            exact wm_mask (L' := [some (.ref 85), none, none, some (.int (0 : Int32)), some (.int (0 : Int32))]) [true, false, false, true, true] rfl (hB)
          · refine wp_aload_n dX9_one_154 rfl rfl ?_
            refine wp_dup dX9_one_155 rfl rfl ?_
            refine wm_getI dX9_one_156 s_85 fk_X9_230 rfl rfl ?_
            refine wp_iconst (1 : Int32) dX9_one_159 ic_1 rfl ?_
            refine wp_iadd dX9_one_160 rfl ?_
            refine wm_putI dX9_one_161 s_85 fk_X9_230 rfl rfl h (fun m18 h => ?_)
            refine wp_aload_n dX9_one_164 rfl rfl ?_
            refine wm_getR dX9_one_165 s_85 fk_X9_40 rfl r_85_25 rfl ?_
            refine wp_iload_n dX9_one_168 rfl rfl ?_
            refine wm_iald dX9_one_169 s_96 rfl h (fun h => ?_)
            exact wm_iret dX9_one_170 rfl ⟨rfl, rfl⟩ h hP
        · exact wm_mask (L' := [some (.ref 85), some (.int q1.1), none, none, none]) [true, true, false, false, false] rfl (k_X9_one_J32 hrc h hP)
  · refine wp_iconst (0 : Int32) dX9_one_7 ic_0 rfl ?_
    exact wm_iret dX9_one_8 rfl ⟨rfl, rfl⟩ h hP
theorem o_X9_one_B {g : Gx} {d0 : Nat} {rc : Mem → Option (Int32 × Mem)} (hrc : ∀ m t, rc m = some t → MxM g d0 mi_X9_one [.ref 85] m (qI t))  {m : Mem} {t : Int32 × Mem} (h : f_X9_one_B rc m = some t) : MxM g (d0 + 7) mi_X9_one [.ref 85] m (qI t) := mx_of pn_X9 (Nat.le_of_ble_eq_true rfl) (k_X9_one_E hrc h ⟨rfl, rfl, rfl, rfl, rfl⟩)
noncomputable def f_X9_one : Nat → Mem → Option (Int32 × Mem)
  | 0, _ => none
  | n + 1, m => f_X9_one_B (f_X9_one n) m
theorem o_X9_one {g : Gx} (n : Nat) : ∀ {m : Mem} {t : Int32 × Mem}, f_X9_one n m = some t → MxM g (7 * n) mi_X9_one [.ref 85] m (qI t) := by
  induction n with
  | zero => intro _ _ h; cases h
  | succ n ih => intro m t h; exact o_X9_one_B (d0 := 7 * n) (fun _ _ h => ih h) h
abbrev A_X9_workOut_33 (g : Gx)  (Q : Qy) (s : Int32 × Int32 × Int32 × Mem) : Prop := WpM g 63 mi_X9_workOut 33 [some (.ref 85), none, none, some (.int s.1), some (.int s.2.1), some (.int s.2.2.1), none, none] [] s.2.2.2 (zM g mi_X9_workOut Q)
abbrev P_X9_workOut_33 (g : Gx)  (Q : Qy) : ((Int32 × Int32 × Int32 × Mem) ⊕ (Int32 × Mem)) → Prop := pS (A_X9_workOut_33 g Q) (pI Q)
noncomputable def f_X9_workOut_J74  (v3 : Int32) (v4 : Int32) (v6 : Int32) (v7 : Int32) (m : Mem) : Option ((Int32 × Int32 × Int32 × Mem) ⊕ (Int32 × Mem)) := if 0 ≤ (gI m 85 23) then (f_X9_takes (59 : Int32) m).bind (fun q9 => some (Sum.inl (v3, v4, q9.1, q9.2))) else if v7 = 0 then (f_X9_takes (59 : Int32) m).bind (fun q10 => some (Sum.inl (v3, v4, q10.1, q10.2))) else if ¬ v3 = 0 then (f_X9_takes (59 : Int32) m).bind (fun q11 => some (Sum.inl (v3, v4, q11.1, q11.2))) else (f_X9_takes (59 : Int32) m).bind (fun q12 => some (Sum.inl ((1 : Int32), v6, q12.1, q12.2)))
theorem k_X9_workOut_J74 {g : Gx}  {v3 : Int32} {v4 : Int32} {v6 : Int32} {v7 : Int32}  {Q : Qy} {m : Mem} {t : (Int32 × Int32 × Int32 × Mem) ⊕ (Int32 × Mem)} (h : f_X9_workOut_J74 v3 v4 v6 v7 m = some t) (hP : P_X9_workOut_33 g Q t) : WpM g 63 mi_X9_workOut 74 [some (.ref 85), none, none, some (.int v3), some (.int v4), none, some (.int v6), some (.int v7)] [] m (zM g mi_X9_workOut Q) := by
  refine wp_aload_n dX9_workOut_74 rfl rfl ?_
  refine wm_getI dX9_workOut_75 s_85 fk_X9_239 rfl rfl ?_
  refine wm_if_ge 96 dX9_workOut_78 rfl rfl h (fun h => ?_) (fun h => ?_)
  · refine wp_aload_n dX9_workOut_96 rfl rfl ?_
    refine wp_bipush (59 : Int32) dX9_workOut_97 ib_59 rfl ?_
    refine wm_callVI (As := [.int (59 : Int32)]) (rest := []) dX9_workOut_99 ok_X9_249 (by decide) rfl s_85 ⟨_, rfl⟩ (Nat.le_of_ble_eq_true rfl) ⟨rfl, rfl⟩ rfl (fun t h => o_X9_takes h) h (fun q9 h => ?_)
    refine wp_istore (L' := [some (.ref 85), none, none, some (.int v3), some (.int v4), some (.int q9.1), some (.int v6), some (.int v7)]) dX9_workOut_102 (by decide) rfl rfl rfl ?_
    refine wp_goto 33 dX9_workOut_104 rfl ?_
    have hB := wm_back h hP
    exact wm_mask (L' := [some (.ref 85), none, none, some (.int v3), some (.int v4), some (.int q9.1), none, none]) [true, false, false, true, true, true, false, false] rfl (hB)
  · refine wp_iload dX9_workOut_81 rfl rfl ?_
    refine wm_if_eq 96 dX9_workOut_83 rfl rfl h (fun h => ?_) (fun h => ?_)
    · refine wp_aload_n dX9_workOut_96 rfl rfl ?_
      refine wp_bipush (59 : Int32) dX9_workOut_97 ib_59 rfl ?_
      refine wm_callVI (As := [.int (59 : Int32)]) (rest := []) dX9_workOut_99 ok_X9_249 (by decide) rfl s_85 ⟨_, rfl⟩ (Nat.le_of_ble_eq_true rfl) ⟨rfl, rfl⟩ rfl (fun t h => o_X9_takes h) h (fun q10 h => ?_)
      refine wp_istore (L' := [some (.ref 85), none, none, some (.int v3), some (.int v4), some (.int q10.1), some (.int v6), some (.int v7)]) dX9_workOut_102 (by decide) rfl rfl rfl ?_
      refine wp_goto 33 dX9_workOut_104 rfl ?_
      have hB := wm_back h hP
      exact wm_mask (L' := [some (.ref 85), none, none, some (.int v3), some (.int v4), some (.int q10.1), none, none]) [true, false, false, true, true, true, false, false] rfl (hB)
    · refine wp_iload_n dX9_workOut_86 rfl rfl ?_
      refine wm_if_ne 96 dX9_workOut_87 rfl rfl h (fun h => ?_) (fun h => ?_)
      · refine wp_aload_n dX9_workOut_96 rfl rfl ?_
        refine wp_bipush (59 : Int32) dX9_workOut_97 ib_59 rfl ?_
        refine wm_callVI (As := [.int (59 : Int32)]) (rest := []) dX9_workOut_99 ok_X9_249 (by decide) rfl s_85 ⟨_, rfl⟩ (Nat.le_of_ble_eq_true rfl) ⟨rfl, rfl⟩ rfl (fun t h => o_X9_takes h) h (fun q11 h => ?_)
        refine wp_istore (L' := [some (.ref 85), none, none, some (.int v3), some (.int v4), some (.int q11.1), some (.int v6), some (.int v7)]) dX9_workOut_102 (by decide) rfl rfl rfl ?_
        refine wp_goto 33 dX9_workOut_104 rfl ?_
        have hB := wm_back h hP
        exact wm_mask (L' := [some (.ref 85), none, none, some (.int v3), some (.int v4), some (.int q11.1), none, none]) [true, false, false, true, true, true, false, false] rfl (hB)
      · refine wp_iconst (1 : Int32) dX9_workOut_90 ic_1 rfl ?_
        refine wp_istore_n (L' := [some (.ref 85), none, none, some (.int (1 : Int32)), some (.int v4), none, some (.int v6), some (.int v7)]) dX9_workOut_91 (by decide) rfl rfl rfl ?_
        refine wp_iload dX9_workOut_92 rfl rfl ?_
        refine wp_istore (L' := [some (.ref 85), none, none, some (.int (1 : Int32)), some (.int v6), none, some (.int v6), some (.int v7)]) dX9_workOut_94 (by decide) rfl rfl rfl ?_
        refine wp_aload_n dX9_workOut_96 rfl rfl ?_
        refine wp_bipush (59 : Int32) dX9_workOut_97 ib_59 rfl ?_
        refine wm_callVI (As := [.int (59 : Int32)]) (rest := []) dX9_workOut_99 ok_X9_249 (by decide) rfl s_85 ⟨_, rfl⟩ (Nat.le_of_ble_eq_true rfl) ⟨rfl, rfl⟩ rfl (fun t h => o_X9_takes h) h (fun q12 h => ?_)
        refine wp_istore (L' := [some (.ref 85), none, none, some (.int (1 : Int32)), some (.int v6), some (.int q12.1), some (.int v6), some (.int v7)]) dX9_workOut_102 (by decide) rfl rfl rfl ?_
        refine wp_goto 33 dX9_workOut_104 rfl ?_
        have hB := wm_back h hP
        exact wm_mask (L' := [some (.ref 85), none, none, some (.int (1 : Int32)), some (.int v6), some (.int q12.1), none, none]) [true, false, false, true, true, true, false, false] rfl (hB)
noncomputable def f_X9_workOut_J66  (v3 : Int32) (v4 : Int32) (t0 : Int32) (m : Mem) : Option ((Int32 × Int32 × Int32 × Mem) ⊕ (Int32 × Mem)) := (f_X9_either (f_X9_one 8) m).bind (fun q13 => f_X9_workOut_J74 v3 v4 q13.1 t0 q13.2)
theorem k_X9_workOut_J66 {g : Gx}  {v3 : Int32} {v4 : Int32} {t0 : Int32}  {Q : Qy} {m : Mem} {t : (Int32 × Int32 × Int32 × Mem) ⊕ (Int32 × Mem)} (h : f_X9_workOut_J66 v3 v4 t0 m = some t) (hP : P_X9_workOut_33 g Q t) : WpM g 63 mi_X9_workOut 66 [some (.ref 85), none, none, some (.int v3), some (.int v4), none, none, none] [.int t0] m (zM g mi_X9_workOut Q) := by
  refine wp_istore (L' := [some (.ref 85), none, none, some (.int v3), some (.int v4), none, none, some (.int t0)]) dX9_workOut_66 (by decide) rfl rfl rfl ?_
  refine wp_aload_n dX9_workOut_68 rfl rfl ?_
  refine wm_callVI (As := []) (rest := []) dX9_workOut_69 ok_X9_270 (by decide) rfl s_85 ⟨_, rfl⟩ (Nat.le_of_ble_eq_true rfl) ⟨rfl, rfl⟩ rfl (fun t h => o_X9_either (fun _ _ h => o_X9_one 8 h) h) h (fun q13 h => ?_)
  refine wp_istore (L' := [some (.ref 85), none, none, some (.int v3), some (.int v4), none, some (.int q13.1), some (.int t0)]) dX9_workOut_72 (by decide) rfl rfl rfl ?_
  exact wm_mask (L' := [some (.ref 85), none, none, some (.int v3), some (.int v4), none, some (.int q13.1), some (.int t0)]) [true, false, false, true, true, false, true, true] rfl (k_X9_workOut_J74  h hP)
noncomputable def f_X9_workOut_L33  (s : Int32 × Int32 × Int32 × Mem) : Option ((Int32 × Int32 × Int32 × Mem) ⊕ (Int32 × Mem)) := if s.2.2.1 = 0 then up (if 0 ≤ (gI s.2.2.2 85 23) then some (s.2.1, s.2.2.2) else if (gI s.2.2.2 85 22) ≤ (gI s.2.2.2 85 21) then some (s.2.1, s.2.2.2) else (f_X9_wrong s.2.2.2).bind (fun q6 => some (q6.1, q6.2))) else (f_X9_either (f_X9_one 8) s.2.2.2).bind (fun q7 => (f_X9_takes (63 : Int32) q7.2).bind (fun q8 => if q8.1 = 0 then f_X9_workOut_J74 s.1 s.2.1 q7.1 (1 : Int32) q8.2 else if q7.1 = 0 then f_X9_workOut_J66 s.1 s.2.1 (0 : Int32) q8.2 else f_X9_workOut_J66 s.1 s.2.1 (1 : Int32) q8.2))
theorem k_X9_workOut_L33 {g : Gx}  {Q : Qy} {s : Int32 × Int32 × Int32 × Mem} {t : (Int32 × Int32 × Int32 × Mem) ⊕ (Int32 × Mem)} (h : f_X9_workOut_L33 s = some t) (hP : P_X9_workOut_33 g Q t) : A_X9_workOut_33 g Q s := by
  refine wp_iload dX9_workOut_33 rfl rfl ?_
  refine wm_if_eq 107 dX9_workOut_35 rfl rfl h (fun h => ?_) (fun h => ?_)
  · refine wm_up h hP (fun r h hP => ?_)
    refine wp_aload_n dX9_workOut_107 rfl rfl ?_
    refine wm_getI dX9_workOut_108 s_85 fk_X9_239 rfl rfl ?_
    refine wm_if_ge 130 dX9_workOut_111 rfl rfl h (fun h => ?_) (fun h => ?_)
    · refine wp_iload dX9_workOut_130 rfl rfl ?_
      exact wm_iret dX9_workOut_132 rfl ⟨rfl, rfl⟩ h hP
    · refine wp_aload_n dX9_workOut_114 rfl rfl ?_
      refine wm_getI dX9_workOut_115 s_85 fk_X9_230 rfl rfl ?_
      refine wp_aload_n dX9_workOut_118 rfl rfl ?_
      refine wm_getI dX9_workOut_119 s_85 fk_X9_233 rfl rfl ?_
      refine wm_icmp_ge 130 dX9_workOut_122 rfl rfl h (fun h => ?_) (fun h => ?_)
      · refine wp_iload dX9_workOut_130 rfl rfl ?_
        exact wm_iret dX9_workOut_132 rfl ⟨rfl, rfl⟩ h hP
      · refine wp_aload_n dX9_workOut_125 rfl rfl ?_
        refine wm_callVI (As := []) (rest := []) dX9_workOut_126 ok_X9_267 (by decide) rfl s_85 ⟨_, rfl⟩ (Nat.le_of_ble_eq_true rfl) ⟨rfl, rfl⟩ rfl (fun t h => o_X9_wrong h) h (fun q6 h => ?_)
        exact wm_iret dX9_workOut_129 rfl ⟨rfl, rfl⟩ h hP
  · refine wp_aload_n dX9_workOut_38 rfl rfl ?_
    refine wm_callVI (As := []) (rest := []) dX9_workOut_39 ok_X9_270 (by decide) rfl s_85 ⟨_, rfl⟩ (Nat.le_of_ble_eq_true rfl) ⟨rfl, rfl⟩ rfl (fun t h => o_X9_either (fun _ _ h => o_X9_one 8 h) h) h (fun q7 h => ?_)
    refine wp_istore (L' := [some (.ref 85), none, none, some (.int s.1), some (.int s.2.1), some (.int s.2.2.1), some (.int q7.1), none]) dX9_workOut_42 (by decide) rfl rfl rfl ?_
    refine wp_iconst (1 : Int32) dX9_workOut_44 ic_1 rfl ?_
    refine wp_istore (L' := [some (.ref 85), none, none, some (.int s.1), some (.int s.2.1), some (.int s.2.2.1), some (.int q7.1), some (.int (1 : Int32))]) dX9_workOut_45 (by decide) rfl rfl rfl ?_
    refine wp_aload_n dX9_workOut_47 rfl rfl ?_
    refine wp_bipush (63 : Int32) dX9_workOut_48 ib_63 rfl ?_
    refine wm_callVI (As := [.int (63 : Int32)]) (rest := []) dX9_workOut_50 ok_X9_249 (by decide) rfl s_85 ⟨_, rfl⟩ (Nat.le_of_ble_eq_true rfl) ⟨rfl, rfl⟩ rfl (fun t h => o_X9_takes h) h (fun q8 h => ?_)
    refine wm_if_eq 74 dX9_workOut_53 rfl rfl h (fun h => ?_) (fun h => ?_)
    · exact wm_mask (L' := [some (.ref 85), none, none, some (.int s.1), some (.int s.2.1), none, some (.int q7.1), some (.int (1 : Int32))]) [true, false, false, true, true, false, true, true] rfl (k_X9_workOut_J74  h hP)
    · refine wp_iload dX9_workOut_56 rfl rfl ?_
      refine wm_if_eq 65 dX9_workOut_58 rfl rfl h (fun h => ?_) (fun h => ?_)
      · refine wp_iconst (0 : Int32) dX9_workOut_65 ic_0 rfl ?_
        exact wm_mask (L' := [some (.ref 85), none, none, some (.int s.1), some (.int s.2.1), none, none, none]) [true, false, false, true, true, false, false, false] rfl (k_X9_workOut_J66  h hP)
      · refine wp_iconst (1 : Int32) dX9_workOut_61 ic_1 rfl ?_
        refine wp_goto 66 dX9_workOut_62 rfl ?_
        exact wm_mask (L' := [some (.ref 85), none, none, some (.int s.1), some (.int s.2.1), none, none, none]) [true, false, false, true, true, false, false, false] rfl (k_X9_workOut_J66  h hP)
noncomputable def f_X9_workOut  (p1 : Int32) (p2 : Int32) (m : Mem) : Option (Int32 × Mem) := bnd (sI m 85 20 p1) (fun m1 => bnd (sI m1 85 21 (0 : Int32)) (fun m2 => bnd (sI m2 85 22 p2) (fun m3 => bnd (sI m3 85 23 (-1 : Int32)) (fun m4 => bnd (sI m4 85 24 (0 : Int32)) (fun m5 => wh (f_X9_workOut_L33) ((0 : Int32), (0 : Int32), (1 : Int32), m5))))))
theorem k_X9_workOut_E {g : Gx}  {p1 : Int32} {p2 : Int32} {Q : Qy} {m : Mem} {t : Int32 × Mem} (h : f_X9_workOut p1 p2 m = some t) (hP : pI Q t) : WpM g 63 mi_X9_workOut 0 [some (.ref 85), some (.int p1), some (.int p2), none, none, none, none, none] [] m (zM g mi_X9_workOut Q) := by
  refine wp_aload_n dX9_workOut_0 rfl rfl ?_
  refine wp_iload_n dX9_workOut_1 rfl rfl ?_
  refine wm_putI dX9_workOut_2 s_85 fk_X9_236 rfl rfl h (fun m1 h => ?_)
  refine wp_aload_n dX9_workOut_5 rfl rfl ?_
  refine wp_iconst (0 : Int32) dX9_workOut_6 ic_0 rfl ?_
  refine wm_putI dX9_workOut_7 s_85 fk_X9_230 rfl rfl h (fun m2 h => ?_)
  refine wp_aload_n dX9_workOut_10 rfl rfl ?_
  refine wp_iload_n dX9_workOut_11 rfl rfl ?_
  refine wm_putI dX9_workOut_12 s_85 fk_X9_233 rfl rfl h (fun m3 h => ?_)
  refine wp_aload_n dX9_workOut_15 rfl rfl ?_
  refine wp_iconst (-1 : Int32) dX9_workOut_16 ic_m1 rfl ?_
  refine wm_putI dX9_workOut_17 s_85 fk_X9_239 rfl rfl h (fun m4 h => ?_)
  refine wp_aload_n dX9_workOut_20 rfl rfl ?_
  refine wp_iconst (0 : Int32) dX9_workOut_21 ic_0 rfl ?_
  refine wm_putI dX9_workOut_22 s_85 fk_X9_264 rfl rfl h (fun m5 h => ?_)
  refine wp_iconst (0 : Int32) dX9_workOut_25 ic_0 rfl ?_
  refine wp_istore_n (L' := [some (.ref 85), some (.int p1), some (.int p2), some (.int (0 : Int32)), none, none, none, none]) dX9_workOut_26 (by decide) rfl rfl rfl ?_
  refine wp_iconst (0 : Int32) dX9_workOut_27 ic_0 rfl ?_
  refine wp_istore (L' := [some (.ref 85), some (.int p1), some (.int p2), some (.int (0 : Int32)), some (.int (0 : Int32)), none, none, none]) dX9_workOut_28 (by decide) rfl rfl rfl ?_
  refine wp_iconst (1 : Int32) dX9_workOut_30 ic_1 rfl ?_
  refine wp_istore (L' := [some (.ref 85), some (.int p1), some (.int p2), some (.int (0 : Int32)), some (.int (0 : Int32)), some (.int (1 : Int32)), none, none]) dX9_workOut_31 (by decide) rfl rfl rfl ?_
  have hB := wh_ok (A := A_X9_workOut_33 g Q) (B := pI Q) (fun s t h hP => k_X9_workOut_L33  h hP) h hP
  exact wm_mask (L' := [some (.ref 85), none, none, some (.int (0 : Int32)), some (.int (0 : Int32)), some (.int (1 : Int32)), none, none]) [true, false, false, true, true, true, false, false] rfl (hB)
theorem o_X9_workOut {g : Gx}  {p1 : Int32} {p2 : Int32} {m : Mem} {t : Int32 × Mem} (h : f_X9_workOut p1 p2 m = some t) : MxM g 63 mi_X9_workOut [.ref 85, .int p1, .int p2] m (qI t) := mx_of pn_X9 (Nat.le_of_ble_eq_true rfl) (k_X9_workOut_E h ⟨rfl, rfl, rfl, rfl, rfl⟩)
noncomputable def f_X9_wishOf  (p1 : Int32) (p2 : Int32) (p3 : Int32) (p4 : Int32) (p5 : Int32) (p6 : Int32) (m : Mem) : Option (Int32 × Mem) := ck ((36 : Int32) + p2) 42 (bnd (gI m 86 (ix ((36 : Int32) + p2))) (fun y1 => ck ((10 : Int32) + p1) 42 (bnd (gI m 86 (ix ((10 : Int32) + p1))) (fun y2 => if 0 ≤ (gI m 85 19) then ck p1 42 (ck (0 : Int32) 8 (bnd (sI m 96 (ix (0 : Int32)) (gI m 86 (ix p1))) (fun m3 => ck (1 : Int32) 8 (bnd (sI m3 96 (ix (1 : Int32)) y2) (fun m4 => ck (2 : Int32) 8 (bnd (sI m4 96 (ix (2 : Int32)) y1) (fun m5 => ck (3 : Int32) 8 (bnd (sI m5 96 (ix (3 : Int32)) p3) (fun m6 => ck (4 : Int32) 8 (bnd (sI m6 96 (ix (4 : Int32)) p4) (fun m7 => ck (5 : Int32) 8 (bnd (sI m7 96 (ix (5 : Int32)) p5) (fun m8 => ck (6 : Int32) 8 (bnd (sI m8 96 (ix (6 : Int32)) p1) (fun m9 => ck (7 : Int32) 8 (bnd (sI m9 96 (ix (7 : Int32)) p6) (fun m10 => (f_X9_workOut (0 : Int32) (gI m10 85 19) m10).bind (fun q11 => some (q11.1, q11.2))))))))))))))))))) else some ((((((10 : Int32) * p3) + y1) + y2) - ((5 : Int32) * p4)), m)))))
theorem k_X9_wishOf_E {g : Gx}  {p1 : Int32} {p2 : Int32} {p3 : Int32} {p4 : Int32} {p5 : Int32} {p6 : Int32} {Q : Qy} {m : Mem} {t : Int32 × Mem} (h : f_X9_wishOf p1 p2 p3 p4 p5 p6 m = some t) (hP : pI Q t) : WpM g 64 mi_X9_wishOf 0 [some (.ref 85), some (.int p1), some (.int p2), some (.int p3), some (.int p4), some (.int p5), some (.int p6), none, none] [] m (zM g mi_X9_wishOf Q) := by
  refine wp_aload_n dX9_wishOf_0 rfl rfl ?_
  refine wm_getR dX9_wishOf_1 s_85 fk_X9_9 rfl r_85_0 rfl ?_
  refine wp_bipush (36 : Int32) dX9_wishOf_4 ib_36 rfl ?_
  refine wp_iload_n dX9_wishOf_6 rfl rfl ?_
  refine wp_iadd dX9_wishOf_7 rfl ?_
  refine wm_iald dX9_wishOf_8 s_86 rfl h (fun h => ?_)
  refine wm_nm h (fun y1 h => ?_)
  refine wp_istore (L' := [some (.ref 85), some (.int p1), some (.int p2), some (.int p3), some (.int p4), some (.int p5), some (.int p6), some (.int y1), none]) dX9_wishOf_9 (by decide) rfl rfl rfl ?_
  refine wp_aload_n dX9_wishOf_11 rfl rfl ?_
  refine wm_getR dX9_wishOf_12 s_85 fk_X9_9 rfl r_85_0 rfl ?_
  refine wp_bipush (10 : Int32) dX9_wishOf_15 ib_10 rfl ?_
  refine wp_iload_n dX9_wishOf_17 rfl rfl ?_
  refine wp_iadd dX9_wishOf_18 rfl ?_
  refine wm_iald dX9_wishOf_19 s_86 rfl h (fun h => ?_)
  refine wm_nm h (fun y2 h => ?_)
  refine wp_istore (L' := [some (.ref 85), some (.int p1), some (.int p2), some (.int p3), some (.int p4), some (.int p5), some (.int p6), some (.int y1), some (.int y2)]) dX9_wishOf_20 (by decide) rfl rfl rfl ?_
  refine wp_aload_n dX9_wishOf_22 rfl rfl ?_
  refine wm_getI dX9_wishOf_23 s_85 fk_X9_143 rfl rfl ?_
  refine wm_if_ge 45 dX9_wishOf_26 rfl rfl h (fun h => ?_) (fun h => ?_)
  · refine wp_aload_n dX9_wishOf_45 rfl rfl ?_
    refine wm_getR dX9_wishOf_46 s_85 fk_X9_40 rfl r_85_25 rfl ?_
    refine wp_iconst (0 : Int32) dX9_wishOf_49 ic_0 rfl ?_
    refine wp_aload_n dX9_wishOf_50 rfl rfl ?_
    refine wm_getR dX9_wishOf_51 s_85 fk_X9_9 rfl r_85_0 rfl ?_
    refine wp_iload_n dX9_wishOf_54 rfl rfl ?_
    refine wm_iald dX9_wishOf_55 s_86 rfl h (fun h => ?_)
    refine wm_iast dX9_wishOf_56 s_96 rfl h (fun m3 h => ?_)
    refine wp_aload_n dX9_wishOf_57 rfl rfl ?_
    refine wm_getR dX9_wishOf_58 s_85 fk_X9_40 rfl r_85_25 rfl ?_
    refine wp_iconst (1 : Int32) dX9_wishOf_61 ic_1 rfl ?_
    refine wp_iload dX9_wishOf_62 rfl rfl ?_
    refine wm_iast dX9_wishOf_64 s_96 rfl h (fun m4 h => ?_)
    refine wp_aload_n dX9_wishOf_65 rfl rfl ?_
    refine wm_getR dX9_wishOf_66 s_85 fk_X9_40 rfl r_85_25 rfl ?_
    refine wp_iconst (2 : Int32) dX9_wishOf_69 ic_2 rfl ?_
    refine wp_iload dX9_wishOf_70 rfl rfl ?_
    refine wm_iast dX9_wishOf_72 s_96 rfl h (fun m5 h => ?_)
    refine wp_aload_n dX9_wishOf_73 rfl rfl ?_
    refine wm_getR dX9_wishOf_74 s_85 fk_X9_40 rfl r_85_25 rfl ?_
    refine wp_iconst (3 : Int32) dX9_wishOf_77 ic_3 rfl ?_
    refine wp_iload_n dX9_wishOf_78 rfl rfl ?_
    refine wm_iast dX9_wishOf_79 s_96 rfl h (fun m6 h => ?_)
    refine wp_aload_n dX9_wishOf_80 rfl rfl ?_
    refine wm_getR dX9_wishOf_81 s_85 fk_X9_40 rfl r_85_25 rfl ?_
    refine wp_iconst (4 : Int32) dX9_wishOf_84 ic_4 rfl ?_
    refine wp_iload dX9_wishOf_85 rfl rfl ?_
    refine wm_iast dX9_wishOf_87 s_96 rfl h (fun m7 h => ?_)
    refine wp_aload_n dX9_wishOf_88 rfl rfl ?_
    refine wm_getR dX9_wishOf_89 s_85 fk_X9_40 rfl r_85_25 rfl ?_
    refine wp_iconst (5 : Int32) dX9_wishOf_92 ic_5 rfl ?_
    refine wp_iload dX9_wishOf_93 rfl rfl ?_
    refine wm_iast dX9_wishOf_95 s_96 rfl h (fun m8 h => ?_)
    refine wp_aload_n dX9_wishOf_96 rfl rfl ?_
    refine wm_getR dX9_wishOf_97 s_85 fk_X9_40 rfl r_85_25 rfl ?_
    refine wp_bipush (6 : Int32) dX9_wishOf_100 ib_6 rfl ?_
    refine wp_iload_n dX9_wishOf_102 rfl rfl ?_
    refine wm_iast dX9_wishOf_103 s_96 rfl h (fun m9 h => ?_)
    refine wp_aload_n dX9_wishOf_104 rfl rfl ?_
    refine wm_getR dX9_wishOf_105 s_85 fk_X9_40 rfl r_85_25 rfl ?_
    refine wp_bipush (7 : Int32) dX9_wishOf_108 ib_7 rfl ?_
    refine wp_iload dX9_wishOf_110 rfl rfl ?_
    refine wm_iast dX9_wishOf_112 s_96 rfl h (fun m10 h => ?_)
    refine wp_aload_n dX9_wishOf_113 rfl rfl ?_
    refine wp_iconst (0 : Int32) dX9_wishOf_114 ic_0 rfl ?_
    refine wp_aload_n dX9_wishOf_115 rfl rfl ?_
    refine wm_getI dX9_wishOf_116 s_85 fk_X9_143 rfl rfl ?_
    refine wm_callVI (As := [.int (0 : Int32), .int (gI m10 85 19)]) (rest := []) dX9_wishOf_119 ok_X9_277 (by decide) rfl s_85 ⟨_, rfl⟩ (Nat.le_of_ble_eq_true rfl) ⟨rfl, rfl⟩ rfl (fun t h => o_X9_workOut h) h (fun q11 h => ?_)
    exact wm_iret dX9_wishOf_122 rfl ⟨rfl, rfl⟩ h hP
  · refine wp_bipush (10 : Int32) dX9_wishOf_29 ib_10 rfl ?_
    refine wp_iload_n dX9_wishOf_31 rfl rfl ?_
    refine wp_imul dX9_wishOf_32 rfl ?_
    refine wp_iload dX9_wishOf_33 rfl rfl ?_
    refine wp_iadd dX9_wishOf_35 rfl ?_
    refine wp_iload dX9_wishOf_36 rfl rfl ?_
    refine wp_iadd dX9_wishOf_38 rfl ?_
    refine wp_iconst (5 : Int32) dX9_wishOf_39 ic_5 rfl ?_
    refine wp_iload dX9_wishOf_40 rfl rfl ?_
    refine wp_imul dX9_wishOf_42 rfl ?_
    refine wp_isub dX9_wishOf_43 rfl ?_
    exact wm_iret dX9_wishOf_44 rfl ⟨rfl, rfl⟩ h hP
theorem o_X9_wishOf {g : Gx}  {p1 : Int32} {p2 : Int32} {p3 : Int32} {p4 : Int32} {p5 : Int32} {p6 : Int32} {m : Mem} {t : Int32 × Mem} (h : f_X9_wishOf p1 p2 p3 p4 p5 p6 m = some t) : MxM g 64 mi_X9_wishOf [.ref 85, .int p1, .int p2, .int p3, .int p4, .int p5, .int p6] m (qI t) := mx_of pn_X9 (Nat.le_of_ble_eq_true rfl) (k_X9_wishOf_E h ⟨rfl, rfl, rfl, rfl, rfl⟩)
abbrev A_X9_leastSpoken_4 (g : Gx)  (Q : Qy) (s : Int32 × Int32 × Mem) : Prop := WpM g 3 mi_X9_leastSpoken 4 [some (.ref 85), some (.int s.1), some (.int s.2.1), none] [] s.2.2 (zM g mi_X9_leastSpoken Q)
abbrev P_X9_leastSpoken_4 (g : Gx)  (Q : Qy) : ((Int32 × Int32 × Mem) ⊕ (Int32 × Mem)) → Prop := pS (A_X9_leastSpoken_4 g Q) (pI Q)
noncomputable def f_X9_leastSpoken_J36  (v1 : Int32) (v2 : Int32) (t0 : Int32) (m : Mem) : Option ((Int32 × Int32 × Mem) ⊕ (Int32 × Mem)) := (f_X9_wishes v2 m).bind (fun q1 => if q1.1 = 0 then bnd (v2 + (1 : Int32)) (fun y2 => some (Sum.inl (v1, y2, q1.2))) else if v1 < 0 then bnd (v2 + (1 : Int32)) (fun y3 => some (Sum.inl (v2, y3, q1.2))) else ck v2 10 (ck v1 10 (if (gI q1.2 97 (ix v2)) < (gI q1.2 97 (ix v1)) then bnd (v2 + (1 : Int32)) (fun y4 => some (Sum.inl (v2, y4, q1.2))) else if t0 = 0 then bnd (v2 + (1 : Int32)) (fun y5 => some (Sum.inl (v1, y5, q1.2))) else ck v2 10 (ck v1 10 (if (gI q1.2 98 (ix v2)) ≤ (gI q1.2 98 (ix v1)) then bnd (v2 + (1 : Int32)) (fun y6 => some (Sum.inl (v1, y6, q1.2))) else bnd (v2 + (1 : Int32)) (fun y7 => some (Sum.inl (v2, y7, q1.2))))))))
theorem k_X9_leastSpoken_J36 {g : Gx}  {v1 : Int32} {v2 : Int32} {t0 : Int32}  {Q : Qy} {m : Mem} {t : (Int32 × Int32 × Mem) ⊕ (Int32 × Mem)} (h : f_X9_leastSpoken_J36 v1 v2 t0 m = some t) (hP : P_X9_leastSpoken_4 g Q t) : WpM g 3 mi_X9_leastSpoken 36 [some (.ref 85), some (.int v1), some (.int v2), none] [.int t0] m (zM g mi_X9_leastSpoken Q) := by
  refine wp_istore_n (L' := [some (.ref 85), some (.int v1), some (.int v2), some (.int t0)]) dX9_leastSpoken_36 (by decide) rfl rfl rfl ?_
  refine wp_aload_n dX9_leastSpoken_37 rfl rfl ?_
  refine wp_iload_n dX9_leastSpoken_38 rfl rfl ?_
  refine wm_callVI (As := [.int v2]) (rest := []) dX9_leastSpoken_39 ok_X9_302 (by decide) rfl s_85 ⟨_, rfl⟩ (Nat.le_of_ble_eq_true rfl) ⟨rfl, rfl⟩ rfl (fun t h => o_X9_wishes h) h (fun q1 h => ?_)
  refine wm_if_eq 85 dX9_leastSpoken_42 rfl rfl h (fun h => ?_) (fun h => ?_)
  · refine wm_inc dX9_leastSpoken_85 rfl ii_1 (by decide) rfl rfl h (fun y2 h => ?_)
    refine wm_list (L' := [some (.ref 85), some (.int v1), some (.int y2), some (.int t0)]) rfl ?_
    refine wp_goto 4 dX9_leastSpoken_88 rfl ?_
    have hB := wm_back h hP
    exact wm_mask (L' := [some (.ref 85), some (.int v1), some (.int y2), none]) [true, true, true, false] rfl (hB)
  · refine wp_iload_n dX9_leastSpoken_45 rfl rfl ?_
    refine wm_if_lt 83 dX9_leastSpoken_46 rfl rfl h (fun h => ?_) (fun h => ?_)
    · refine wp_iload_n dX9_leastSpoken_83 rfl rfl ?_
      refine wp_istore_n (L' := [some (.ref 85), some (.int v2), some (.int v2), some (.int t0)]) dX9_leastSpoken_84 (by decide) rfl rfl rfl ?_
      refine wm_inc dX9_leastSpoken_85 rfl ii_1 (by decide) rfl rfl h (fun y3 h => ?_)
      refine wm_list (L' := [some (.ref 85), some (.int v2), some (.int y3), some (.int t0)]) rfl ?_
      refine wp_goto 4 dX9_leastSpoken_88 rfl ?_
      have hB := wm_back h hP
      exact wm_mask (L' := [some (.ref 85), some (.int v2), some (.int y3), none]) [true, true, true, false] rfl (hB)
    · refine wp_aload_n dX9_leastSpoken_49 rfl rfl ?_
      refine wm_getR dX9_leastSpoken_50 s_85 fk_X9_43 rfl r_85_32 rfl ?_
      refine wp_iload_n dX9_leastSpoken_53 rfl rfl ?_
      refine wm_iald dX9_leastSpoken_54 s_97 rfl h (fun h => ?_)
      refine wp_aload_n dX9_leastSpoken_55 rfl rfl ?_
      refine wm_getR dX9_leastSpoken_56 s_85 fk_X9_43 rfl r_85_32 rfl ?_
      refine wp_iload_n dX9_leastSpoken_59 rfl rfl ?_
      refine wm_iald dX9_leastSpoken_60 s_97 rfl h (fun h => ?_)
      refine wm_icmp_lt 83 dX9_leastSpoken_61 rfl rfl h (fun h => ?_) (fun h => ?_)
      · refine wp_iload_n dX9_leastSpoken_83 rfl rfl ?_
        refine wp_istore_n (L' := [some (.ref 85), some (.int v2), some (.int v2), some (.int t0)]) dX9_leastSpoken_84 (by decide) rfl rfl rfl ?_
        refine wm_inc dX9_leastSpoken_85 rfl ii_1 (by decide) rfl rfl h (fun y4 h => ?_)
        refine wm_list (L' := [some (.ref 85), some (.int v2), some (.int y4), some (.int t0)]) rfl ?_
        refine wp_goto 4 dX9_leastSpoken_88 rfl ?_
        have hB := wm_back h hP
        exact wm_mask (L' := [some (.ref 85), some (.int v2), some (.int y4), none]) [true, true, true, false] rfl (hB)
      · refine wp_iload_n dX9_leastSpoken_64 rfl rfl ?_
        refine wm_if_eq 85 dX9_leastSpoken_65 rfl rfl h (fun h => ?_) (fun h => ?_)
        · refine wm_inc dX9_leastSpoken_85 rfl ii_1 (by decide) rfl rfl h (fun y5 h => ?_)
          refine wm_list (L' := [some (.ref 85), some (.int v1), some (.int y5), some (.int t0)]) rfl ?_
          refine wp_goto 4 dX9_leastSpoken_88 rfl ?_
          have hB := wm_back h hP
          exact wm_mask (L' := [some (.ref 85), some (.int v1), some (.int y5), none]) [true, true, true, false] rfl (hB)
        · refine wp_aload_n dX9_leastSpoken_68 rfl rfl ?_
          refine wm_getR dX9_leastSpoken_69 s_85 fk_X9_46 rfl r_85_33 rfl ?_
          refine wp_iload_n dX9_leastSpoken_72 rfl rfl ?_
          refine wm_iald dX9_leastSpoken_73 s_98 rfl h (fun h => ?_)
          refine wp_aload_n dX9_leastSpoken_74 rfl rfl ?_
          refine wm_getR dX9_leastSpoken_75 s_85 fk_X9_46 rfl r_85_33 rfl ?_
          refine wp_iload_n dX9_leastSpoken_78 rfl rfl ?_
          refine wm_iald dX9_leastSpoken_79 s_98 rfl h (fun h => ?_)
          refine wm_icmp_le 85 dX9_leastSpoken_80 rfl rfl h (fun h => ?_) (fun h => ?_)
          · refine wm_inc dX9_leastSpoken_85 rfl ii_1 (by decide) rfl rfl h (fun y6 h => ?_)
            refine wm_list (L' := [some (.ref 85), some (.int v1), some (.int y6), some (.int t0)]) rfl ?_
            refine wp_goto 4 dX9_leastSpoken_88 rfl ?_
            have hB := wm_back h hP
            exact wm_mask (L' := [some (.ref 85), some (.int v1), some (.int y6), none]) [true, true, true, false] rfl (hB)
          · refine wp_iload_n dX9_leastSpoken_83 rfl rfl ?_
            refine wp_istore_n (L' := [some (.ref 85), some (.int v2), some (.int v2), some (.int t0)]) dX9_leastSpoken_84 (by decide) rfl rfl rfl ?_
            refine wm_inc dX9_leastSpoken_85 rfl ii_1 (by decide) rfl rfl h (fun y7 h => ?_)
            refine wm_list (L' := [some (.ref 85), some (.int v2), some (.int y7), some (.int t0)]) rfl ?_
            refine wp_goto 4 dX9_leastSpoken_88 rfl ?_
            have hB := wm_back h hP
            exact wm_mask (L' := [some (.ref 85), some (.int v2), some (.int y7), none]) [true, true, true, false] rfl (hB)
noncomputable def f_X9_leastSpoken_J35  (v1 : Int32) (v2 : Int32) (m : Mem) : Option ((Int32 × Int32 × Mem) ⊕ (Int32 × Mem)) := f_X9_leastSpoken_J36 v1 v2 (0 : Int32) m
theorem k_X9_leastSpoken_J35 {g : Gx}  {v1 : Int32} {v2 : Int32}  {Q : Qy} {m : Mem} {t : (Int32 × Int32 × Mem) ⊕ (Int32 × Mem)} (h : f_X9_leastSpoken_J35 v1 v2 m = some t) (hP : P_X9_leastSpoken_4 g Q t) : WpM g 3 mi_X9_leastSpoken 35 [some (.ref 85), some (.int v1), some (.int v2), none] [] m (zM g mi_X9_leastSpoken Q) := by
  refine wp_iconst (0 : Int32) dX9_leastSpoken_35 ic_0 rfl ?_
  exact wm_mask (L' := [some (.ref 85), some (.int v1), some (.int v2), none]) [true, true, true, false] rfl (k_X9_leastSpoken_J36  h hP)
noncomputable def f_X9_leastSpoken_L4  (s : Int32 × Int32 × Mem) : Option ((Int32 × Int32 × Mem) ⊕ (Int32 × Mem)) := if (gI s.2.2 85 6) ≤ s.2.1 then up (some (s.1, s.2.2)) else if s.1 < 0 then f_X9_leastSpoken_J35 s.1 s.2.1 s.2.2 else ck s.2.1 10 (ck s.1 10 (if ¬ (gI s.2.2 97 (ix s.2.1)) = (gI s.2.2 97 (ix s.1)) then f_X9_leastSpoken_J35 s.1 s.2.1 s.2.2 else f_X9_leastSpoken_J36 s.1 s.2.1 (1 : Int32) s.2.2))
theorem k_X9_leastSpoken_L4 {g : Gx}  {Q : Qy} {s : Int32 × Int32 × Mem} {t : (Int32 × Int32 × Mem) ⊕ (Int32 × Mem)} (h : f_X9_leastSpoken_L4 s = some t) (hP : P_X9_leastSpoken_4 g Q t) : A_X9_leastSpoken_4 g Q s := by
  refine wp_iload_n dX9_leastSpoken_4 rfl rfl ?_
  refine wp_aload_n dX9_leastSpoken_5 rfl rfl ?_
  refine wm_getI dX9_leastSpoken_6 s_85 fk_X9_159 rfl rfl ?_
  refine wm_icmp_ge 91 dX9_leastSpoken_9 rfl rfl h (fun h => ?_) (fun h => ?_)
  · refine wm_up h hP (fun r h hP => ?_)
    refine wp_iload_n dX9_leastSpoken_91 rfl rfl ?_
    exact wm_iret dX9_leastSpoken_92 rfl ⟨rfl, rfl⟩ h hP
  · refine wp_iload_n dX9_leastSpoken_12 rfl rfl ?_
    refine wm_if_lt 35 dX9_leastSpoken_13 rfl rfl h (fun h => ?_) (fun h => ?_)
    · exact wm_mask (L' := [some (.ref 85), some (.int s.1), some (.int s.2.1), none]) [true, true, true, false] rfl (k_X9_leastSpoken_J35  h hP)
    · refine wp_aload_n dX9_leastSpoken_16 rfl rfl ?_
      refine wm_getR dX9_leastSpoken_17 s_85 fk_X9_43 rfl r_85_32 rfl ?_
      refine wp_iload_n dX9_leastSpoken_20 rfl rfl ?_
      refine wm_iald dX9_leastSpoken_21 s_97 rfl h (fun h => ?_)
      refine wp_aload_n dX9_leastSpoken_22 rfl rfl ?_
      refine wm_getR dX9_leastSpoken_23 s_85 fk_X9_43 rfl r_85_32 rfl ?_
      refine wp_iload_n dX9_leastSpoken_26 rfl rfl ?_
      refine wm_iald dX9_leastSpoken_27 s_97 rfl h (fun h => ?_)
      refine wm_icmp_ne 35 dX9_leastSpoken_28 rfl rfl h (fun h => ?_) (fun h => ?_)
      · exact wm_mask (L' := [some (.ref 85), some (.int s.1), some (.int s.2.1), none]) [true, true, true, false] rfl (k_X9_leastSpoken_J35  h hP)
      · refine wp_iconst (1 : Int32) dX9_leastSpoken_31 ic_1 rfl ?_
        refine wp_goto 36 dX9_leastSpoken_32 rfl ?_
        exact wm_mask (L' := [some (.ref 85), some (.int s.1), some (.int s.2.1), none]) [true, true, true, false] rfl (k_X9_leastSpoken_J36  h hP)
noncomputable def f_X9_leastSpoken   (m : Mem) : Option (Int32 × Mem) := wh (f_X9_leastSpoken_L4) ((-1 : Int32), (0 : Int32), m)
theorem k_X9_leastSpoken_E {g : Gx}   {Q : Qy} {m : Mem} {t : Int32 × Mem} (h : f_X9_leastSpoken m = some t) (hP : pI Q t) : WpM g 3 mi_X9_leastSpoken 0 [some (.ref 85), none, none, none] [] m (zM g mi_X9_leastSpoken Q) := by
  refine wp_iconst (-1 : Int32) dX9_leastSpoken_0 ic_m1 rfl ?_
  refine wp_istore_n (L' := [some (.ref 85), some (.int (-1 : Int32)), none, none]) dX9_leastSpoken_1 (by decide) rfl rfl rfl ?_
  refine wp_iconst (0 : Int32) dX9_leastSpoken_2 ic_0 rfl ?_
  refine wp_istore_n (L' := [some (.ref 85), some (.int (-1 : Int32)), some (.int (0 : Int32)), none]) dX9_leastSpoken_3 (by decide) rfl rfl rfl ?_
  have hB := wh_ok (A := A_X9_leastSpoken_4 g Q) (B := pI Q) (fun s t h hP => k_X9_leastSpoken_L4  h hP) h hP
  exact wm_mask (L' := [some (.ref 85), some (.int (-1 : Int32)), some (.int (0 : Int32)), none]) [true, true, true, false] rfl (hB)
theorem o_X9_leastSpoken {g : Gx}   {m : Mem} {t : Int32 × Mem} (h : f_X9_leastSpoken m = some t) : MxM g 3 mi_X9_leastSpoken [.ref 85] m (qI t) := mx_of pn_X9 (Nat.le_of_ble_eq_true rfl) (k_X9_leastSpoken_E h ⟨rfl, rfl, rfl, rfl, rfl⟩)
noncomputable def f_X9_nextSpeaker   (m : Mem) : Option (Int32 × Mem) := sw (gI m 85 26) [((1 : Int32), (f_X9_byTurns m).bind (fun q1 => some (q1.1, q1.2))), ((2 : Int32), (f_X9_leastSpoken m).bind (fun q2 => some (q2.1, q2.2))), ((3 : Int32), if (gI m 85 31) < 0 then (f_X9_byTurns m).bind (fun q3 => some (q3.1, q3.2)) else (f_X9_wishes (gI m 85 31) m).bind (fun q4 => if q4.1 = 0 then (f_X9_byTurns q4.2).bind (fun q5 => some (q5.1, q5.2)) else some ((gI q4.2 85 31), q4.2))), ((4 : Int32), (f_X9_chiefLast m).bind (fun q6 => some (q6.1, q6.2)))] ((f_X9_mostWishing (1 : Int32) (0 : Int32) m).bind (fun q7 => some (q7.1, q7.2)))
theorem k_X9_nextSpeaker_E {g : Gx}   {Q : Qy} {m : Mem} {t : Int32 × Mem} (h : f_X9_nextSpeaker m = some t) (hP : pI Q t) : WpM g 5 mi_X9_nextSpeaker 0 [some (.ref 85)] [] m (zM g mi_X9_nextSpeaker Q) := by
  refine wp_aload_n dX9_nextSpeaker_0 rfl rfl ?_
  refine wm_getI dX9_nextSpeaker_1 s_85 fk_X9_280 rfl rfl ?_
  refine wm_tsw [((1 : Int32), 36), ((2 : Int32), 41), ((3 : Int32), 46), ((4 : Int32), 76)] 81 dX9_nextSpeaker_4 rfl (by decide) (by decide +kernel) (by decide +kernel) (by decide +kernel) h rfl ⟨fun h => ?_, fun h => ?_, fun h => ?_, fun h => ?_, trivial⟩ (fun h => ?_)
  · refine wp_aload_n dX9_nextSpeaker_36 rfl rfl ?_
    refine wm_callVI (As := []) (rest := []) dX9_nextSpeaker_37 ok_X9_312 (by decide) rfl s_85 ⟨_, rfl⟩ (Nat.le_of_ble_eq_true rfl) ⟨rfl, rfl⟩ rfl (fun t h => o_X9_byTurns h) h (fun q1 h => ?_)
    exact wm_iret dX9_nextSpeaker_40 rfl ⟨rfl, rfl⟩ h hP
  · refine wp_aload_n dX9_nextSpeaker_41 rfl rfl ?_
    refine wm_callVI (As := []) (rest := []) dX9_nextSpeaker_42 ok_X9_315 (by decide) rfl s_85 ⟨_, rfl⟩ (Nat.le_of_ble_eq_true rfl) ⟨rfl, rfl⟩ rfl (fun t h => o_X9_leastSpoken h) h (fun q2 h => ?_)
    exact wm_iret dX9_nextSpeaker_45 rfl ⟨rfl, rfl⟩ h hP
  · refine wp_aload_n dX9_nextSpeaker_46 rfl rfl ?_
    refine wm_getI dX9_nextSpeaker_47 s_85 fk_X9_305 rfl rfl ?_
    refine wm_if_lt 71 dX9_nextSpeaker_50 rfl rfl h (fun h => ?_) (fun h => ?_)
    · refine wp_aload_n dX9_nextSpeaker_71 rfl rfl ?_
      refine wm_callVI (As := []) (rest := []) dX9_nextSpeaker_72 ok_X9_312 (by decide) rfl s_85 ⟨_, rfl⟩ (Nat.le_of_ble_eq_true rfl) ⟨rfl, rfl⟩ rfl (fun t h => o_X9_byTurns h) h (fun q3 h => ?_)
      exact wm_iret dX9_nextSpeaker_75 rfl ⟨rfl, rfl⟩ h hP
    · refine wp_aload_n dX9_nextSpeaker_53 rfl rfl ?_
      refine wp_aload_n dX9_nextSpeaker_54 rfl rfl ?_
      refine wm_getI dX9_nextSpeaker_55 s_85 fk_X9_305 rfl rfl ?_
      refine wm_callVI (As := [.int (gI m 85 31)]) (rest := []) dX9_nextSpeaker_58 ok_X9_302 (by decide) rfl s_85 ⟨_, rfl⟩ (Nat.le_of_ble_eq_true rfl) ⟨rfl, rfl⟩ rfl (fun t h => o_X9_wishes h) h (fun q4 h => ?_)
      refine wm_if_eq 71 dX9_nextSpeaker_61 rfl rfl h (fun h => ?_) (fun h => ?_)
      · refine wp_aload_n dX9_nextSpeaker_71 rfl rfl ?_
        refine wm_callVI (As := []) (rest := []) dX9_nextSpeaker_72 ok_X9_312 (by decide) rfl s_85 ⟨_, rfl⟩ (Nat.le_of_ble_eq_true rfl) ⟨rfl, rfl⟩ rfl (fun t h => o_X9_byTurns h) h (fun q5 h => ?_)
        exact wm_iret dX9_nextSpeaker_75 rfl ⟨rfl, rfl⟩ h hP
      · refine wp_aload_n dX9_nextSpeaker_64 rfl rfl ?_
        refine wm_getI dX9_nextSpeaker_65 s_85 fk_X9_305 rfl rfl ?_
        refine wp_goto 75 dX9_nextSpeaker_68 rfl ?_
        exact wm_iret dX9_nextSpeaker_75 rfl ⟨rfl, rfl⟩ h hP
  · refine wp_aload_n dX9_nextSpeaker_76 rfl rfl ?_
    refine wm_callVI (As := []) (rest := []) dX9_nextSpeaker_77 ok_X9_318 (by decide) rfl s_85 ⟨_, rfl⟩ (Nat.le_of_ble_eq_true rfl) ⟨rfl, rfl⟩ rfl (fun t h => o_X9_chiefLast h) h (fun q6 h => ?_)
    exact wm_iret dX9_nextSpeaker_80 rfl ⟨rfl, rfl⟩ h hP
  · refine wp_aload_n dX9_nextSpeaker_81 rfl rfl ?_
    refine wp_iconst (1 : Int32) dX9_nextSpeaker_82 ic_1 rfl ?_
    refine wp_iconst (0 : Int32) dX9_nextSpeaker_83 ic_0 rfl ?_
    refine wm_callVI (As := [.int (1 : Int32), .int (0 : Int32)]) (rest := []) dX9_nextSpeaker_84 ok_X9_308 (by decide) rfl s_85 ⟨_, rfl⟩ (Nat.le_of_ble_eq_true rfl) ⟨rfl, rfl⟩ rfl (fun t h => o_X9_mostWishing h) h (fun q7 h => ?_)
    exact wm_iret dX9_nextSpeaker_87 rfl ⟨rfl, rfl⟩ h hP
theorem o_X9_nextSpeaker {g : Gx}   {m : Mem} {t : Int32 × Mem} (h : f_X9_nextSpeaker m = some t) : MxM g 5 mi_X9_nextSpeaker [.ref 85] m (qI t) := mx_of pn_X9 (Nat.le_of_ble_eq_true rfl) (k_X9_nextSpeaker_E h ⟨rfl, rfl, rfl, rfl, rfl⟩)
abbrev A_X9_stopper_2 (g : Gx)  (Q : Qy) (s : Int32 × Int32 × Mem) : Prop := WpM g 2 mi_X9_stopper 2 [some (.ref 85), some (.int s.1), some (.int s.2.1), none] [] s.2.2 (zM g mi_X9_stopper Q)
abbrev P_X9_stopper_2 (g : Gx)  (Q : Qy) : ((Int32 × Int32 × Mem) ⊕ (Int32 × Mem)) → Prop := pS (A_X9_stopper_2 g Q) (pI Q)
noncomputable def f_X9_stopper_J66  (v1 : Int32) (v2 : Int32) (t0 : Int32) (m : Mem) : Option ((Int32 × Int32 × Mem) ⊕ (Int32 × Mem)) := if t0 = 0 then bnd (v2 + (1 : Int32)) (fun y1 => some (Sum.inl (v1, y1, m))) else ck v1 10 (if (gI m 99 (ix v1)) = v2 then bnd (v2 + (1 : Int32)) (fun y2 => some (Sum.inl (v1, y2, m))) else up (some (v2, m)))
theorem k_X9_stopper_J66 {g : Gx}  {v1 : Int32} {v2 : Int32} {t0 : Int32}  {Q : Qy} {m : Mem} {t : (Int32 × Int32 × Mem) ⊕ (Int32 × Mem)} (h : f_X9_stopper_J66 v1 v2 t0 m = some t) (hP : P_X9_stopper_2 g Q t) : WpM g 2 mi_X9_stopper 66 [some (.ref 85), some (.int v1), some (.int v2), none] [.int t0] m (zM g mi_X9_stopper Q) := by
  refine wp_istore_n (L' := [some (.ref 85), some (.int v1), some (.int v2), some (.int t0)]) dX9_stopper_66 (by decide) rfl rfl rfl ?_
  refine wp_iload_n dX9_stopper_67 rfl rfl ?_
  refine wm_if_eq 83 dX9_stopper_68 rfl rfl h (fun h => ?_) (fun h => ?_)
  · refine wm_inc dX9_stopper_83 rfl ii_1 (by decide) rfl rfl h (fun y1 h => ?_)
    refine wm_list (L' := [some (.ref 85), some (.int v1), some (.int y1), some (.int t0)]) rfl ?_
    refine wp_goto 2 dX9_stopper_86 rfl ?_
    have hB := wm_back h hP
    exact wm_mask (L' := [some (.ref 85), some (.int v1), some (.int y1), none]) [true, true, true, false] rfl (hB)
  · refine wp_aload_n dX9_stopper_71 rfl rfl ?_
    refine wm_getR dX9_stopper_72 s_85 fk_X9_49 rfl r_85_34 rfl ?_
    refine wp_iload_n dX9_stopper_75 rfl rfl ?_
    refine wm_iald dX9_stopper_76 s_99 rfl h (fun h => ?_)
    refine wp_iload_n dX9_stopper_77 rfl rfl ?_
    refine wm_icmp_eq 83 dX9_stopper_78 rfl rfl h (fun h => ?_) (fun h => ?_)
    · refine wm_inc dX9_stopper_83 rfl ii_1 (by decide) rfl rfl h (fun y2 h => ?_)
      refine wm_list (L' := [some (.ref 85), some (.int v1), some (.int y2), some (.int t0)]) rfl ?_
      refine wp_goto 2 dX9_stopper_86 rfl ?_
      have hB := wm_back h hP
      exact wm_mask (L' := [some (.ref 85), some (.int v1), some (.int y2), none]) [true, true, true, false] rfl (hB)
    · refine wm_up h hP (fun r h hP => ?_)
      refine wp_iload_n dX9_stopper_81 rfl rfl ?_
      exact wm_iret dX9_stopper_82 rfl ⟨rfl, rfl⟩ h hP
noncomputable def f_X9_stopper_J65  (v1 : Int32) (v2 : Int32) (m : Mem) : Option ((Int32 × Int32 × Mem) ⊕ (Int32 × Mem)) := f_X9_stopper_J66 v1 v2 (0 : Int32) m
theorem k_X9_stopper_J65 {g : Gx}  {v1 : Int32} {v2 : Int32}  {Q : Qy} {m : Mem} {t : (Int32 × Int32 × Mem) ⊕ (Int32 × Mem)} (h : f_X9_stopper_J65 v1 v2 m = some t) (hP : P_X9_stopper_2 g Q t) : WpM g 2 mi_X9_stopper 65 [some (.ref 85), some (.int v1), some (.int v2), none] [] m (zM g mi_X9_stopper Q) := by
  refine wp_iconst (0 : Int32) dX9_stopper_65 ic_0 rfl ?_
  exact wm_mask (L' := [some (.ref 85), some (.int v1), some (.int v2), none]) [true, true, true, false] rfl (k_X9_stopper_J66  h hP)
noncomputable def f_X9_stopper_L2  (s : Int32 × Int32 × Mem) : Option ((Int32 × Int32 × Mem) ⊕ (Int32 × Mem)) := if (gI s.2.2 85 6) ≤ s.2.1 then up (some ((-2 : Int32), s.2.2)) else if s.2.1 = s.1 then f_X9_stopper_J65 s.1 s.2.1 s.2.2 else (f_X9_isThere s.2.1 s.2.2).bind (fun q3 => if q3.1 = 0 then f_X9_stopper_J65 s.1 s.2.1 q3.2 else ck ((10 : Int32) + s.2.1) 42 (ck ((10 : Int32) + s.1) 42 (if (gI q3.2 86 (ix ((10 : Int32) + s.2.1))) < ((gI q3.2 86 (ix ((10 : Int32) + s.1))) + (3 : Int32)) then f_X9_stopper_J65 s.1 s.2.1 q3.2 else ck s.2.1 10 (ck s.1 10 (if (gI q3.2 98 (ix s.2.1)) ≤ (gI q3.2 98 (ix s.1)) then f_X9_stopper_J65 s.1 s.2.1 q3.2 else f_X9_stopper_J66 s.1 s.2.1 (1 : Int32) q3.2)))))
theorem k_X9_stopper_L2 {g : Gx}  {Q : Qy} {s : Int32 × Int32 × Mem} {t : (Int32 × Int32 × Mem) ⊕ (Int32 × Mem)} (h : f_X9_stopper_L2 s = some t) (hP : P_X9_stopper_2 g Q t) : A_X9_stopper_2 g Q s := by
  refine wp_iload_n dX9_stopper_2 rfl rfl ?_
  refine wp_aload_n dX9_stopper_3 rfl rfl ?_
  refine wm_getI dX9_stopper_4 s_85 fk_X9_159 rfl rfl ?_
  refine wm_icmp_ge 89 dX9_stopper_7 rfl rfl h (fun h => ?_) (fun h => ?_)
  · refine wm_up h hP (fun r h hP => ?_)
    refine wp_bipush (-2 : Int32) dX9_stopper_89 ib_m2 rfl ?_
    exact wm_iret dX9_stopper_91 rfl ⟨rfl, rfl⟩ h hP
  · refine wp_iload_n dX9_stopper_10 rfl rfl ?_
    refine wp_iload_n dX9_stopper_11 rfl rfl ?_
    refine wm_icmp_eq 65 dX9_stopper_12 rfl rfl h (fun h => ?_) (fun h => ?_)
    · exact wm_mask (L' := [some (.ref 85), some (.int s.1), some (.int s.2.1), none]) [true, true, true, false] rfl (k_X9_stopper_J65  h hP)
    · refine wp_aload_n dX9_stopper_15 rfl rfl ?_
      refine wp_iload_n dX9_stopper_16 rfl rfl ?_
      refine wm_callVI (As := [.int s.2.1]) (rest := []) dX9_stopper_17 ok_X9_299 (by decide) rfl s_85 ⟨_, rfl⟩ (Nat.le_of_ble_eq_true rfl) ⟨rfl, rfl⟩ rfl (fun t h => o_X9_isThere h) h (fun q3 h => ?_)
      refine wm_if_eq 65 dX9_stopper_20 rfl rfl h (fun h => ?_) (fun h => ?_)
      · exact wm_mask (L' := [some (.ref 85), some (.int s.1), some (.int s.2.1), none]) [true, true, true, false] rfl (k_X9_stopper_J65  h hP)
      · refine wp_aload_n dX9_stopper_23 rfl rfl ?_
        refine wm_getR dX9_stopper_24 s_85 fk_X9_9 rfl r_85_0 rfl ?_
        refine wp_bipush (10 : Int32) dX9_stopper_27 ib_10 rfl ?_
        refine wp_iload_n dX9_stopper_29 rfl rfl ?_
        refine wp_iadd dX9_stopper_30 rfl ?_
        refine wm_iald dX9_stopper_31 s_86 rfl h (fun h => ?_)
        refine wp_aload_n dX9_stopper_32 rfl rfl ?_
        refine wm_getR dX9_stopper_33 s_85 fk_X9_9 rfl r_85_0 rfl ?_
        refine wp_bipush (10 : Int32) dX9_stopper_36 ib_10 rfl ?_
        refine wp_iload_n dX9_stopper_38 rfl rfl ?_
        refine wp_iadd dX9_stopper_39 rfl ?_
        refine wm_iald dX9_stopper_40 s_86 rfl h (fun h => ?_)
        refine wp_iconst (3 : Int32) dX9_stopper_41 ic_3 rfl ?_
        refine wp_iadd dX9_stopper_42 rfl ?_
        refine wm_icmp_lt 65 dX9_stopper_43 rfl rfl h (fun h => ?_) (fun h => ?_)
        · exact wm_mask (L' := [some (.ref 85), some (.int s.1), some (.int s.2.1), none]) [true, true, true, false] rfl (k_X9_stopper_J65  h hP)
        · refine wp_aload_n dX9_stopper_46 rfl rfl ?_
          refine wm_getR dX9_stopper_47 s_85 fk_X9_46 rfl r_85_33 rfl ?_
          refine wp_iload_n dX9_stopper_50 rfl rfl ?_
          refine wm_iald dX9_stopper_51 s_98 rfl h (fun h => ?_)
          refine wp_aload_n dX9_stopper_52 rfl rfl ?_
          refine wm_getR dX9_stopper_53 s_85 fk_X9_46 rfl r_85_33 rfl ?_
          refine wp_iload_n dX9_stopper_56 rfl rfl ?_
          refine wm_iald dX9_stopper_57 s_98 rfl h (fun h => ?_)
          refine wm_icmp_le 65 dX9_stopper_58 rfl rfl h (fun h => ?_) (fun h => ?_)
          · exact wm_mask (L' := [some (.ref 85), some (.int s.1), some (.int s.2.1), none]) [true, true, true, false] rfl (k_X9_stopper_J65  h hP)
          · refine wp_iconst (1 : Int32) dX9_stopper_61 ic_1 rfl ?_
            refine wp_goto 66 dX9_stopper_62 rfl ?_
            exact wm_mask (L' := [some (.ref 85), some (.int s.1), some (.int s.2.1), none]) [true, true, true, false] rfl (k_X9_stopper_J66  h hP)
noncomputable def f_X9_stopper  (p1 : Int32) (m : Mem) : Option (Int32 × Mem) := wh (f_X9_stopper_L2) (p1, (0 : Int32), m)
theorem k_X9_stopper_E {g : Gx}  {p1 : Int32} {Q : Qy} {m : Mem} {t : Int32 × Mem} (h : f_X9_stopper p1 m = some t) (hP : pI Q t) : WpM g 2 mi_X9_stopper 0 [some (.ref 85), some (.int p1), none, none] [] m (zM g mi_X9_stopper Q) := by
  refine wp_iconst (0 : Int32) dX9_stopper_0 ic_0 rfl ?_
  refine wp_istore_n (L' := [some (.ref 85), some (.int p1), some (.int (0 : Int32)), none]) dX9_stopper_1 (by decide) rfl rfl rfl ?_
  have hB := wh_ok (A := A_X9_stopper_2 g Q) (B := pI Q) (fun s t h hP => k_X9_stopper_L2  h hP) h hP
  exact wm_mask (L' := [some (.ref 85), some (.int p1), some (.int (0 : Int32)), none]) [true, true, true, false] rfl (hB)
theorem o_X9_stopper {g : Gx}  {p1 : Int32} {m : Mem} {t : Int32 × Mem} (h : f_X9_stopper p1 m = some t) : MxM g 2 mi_X9_stopper [.ref 85, .int p1] m (qI t) := mx_of pn_X9 (Nat.le_of_ble_eq_true rfl) (k_X9_stopper_E h ⟨rfl, rfl, rfl, rfl, rfl⟩)
abbrev A_X9_saysNew_9 (g : Gx)  (Q : Qy) (s : Int32 × Int32 × Int32 × Int32 × Int32 × Int32 × Mem) : Prop := WpM g 2 mi_X9_saysNew 9 [some (.ref 85), some (.int s.1), some (.int s.2.1), some (.int s.2.2.1), some (.int s.2.2.2.1), some (.int s.2.2.2.2.1), some (.int s.2.2.2.2.2.1)] [] s.2.2.2.2.2.2 (zM g mi_X9_saysNew Q)
abbrev P_X9_saysNew_9 (g : Gx)  (Q : Qy) : ((Int32 × Int32 × Int32 × Int32 × Int32 × Int32 × Mem) ⊕ (Int32 × Mem)) → Prop := pS (A_X9_saysNew_9 g Q) (pI Q)
noncomputable def f_X9_saysNew_L9  (s : Int32 × Int32 × Int32 × Int32 × Int32 × Int32 × Mem) : Option ((Int32 × Int32 × Int32 × Int32 × Int32 × Int32 × Mem) ⊕ (Int32 × Mem)) := if (gI s.2.2.2.2.2.2 85 9) ≤ s.2.2.2.2.2.1 then up (some (s.2.2.2.1, s.2.2.2.2.2.2)) else if s.2.2.1 ≤ s.2.2.2.2.1 then bnd (s.2.2.2.2.2.1 + (1 : Int32)) (fun y1 => some (Sum.inl (s.1, s.2.1, s.2.2.1, s.2.2.2.1, s.2.2.2.2.1, y1, s.2.2.2.2.2.2))) else ck s.2.2.2.2.2.1 20 (if ¬ (gI s.2.2.2.2.2.2 91 (ix s.2.2.2.2.2.1)) = s.2.1 then bnd (s.2.2.2.2.2.1 + (1 : Int32)) (fun y2 => some (Sum.inl (s.1, s.2.1, s.2.2.1, s.2.2.2.1, s.2.2.2.2.1, y2, s.2.2.2.2.2.2))) else (f_X9_knows s.1 s.2.2.2.2.2.1 s.2.2.2.2.2.2).bind (fun q3 => if q3.1 = 0 then bnd (s.2.2.2.2.2.1 + (1 : Int32)) (fun y4 => some (Sum.inl (s.1, s.2.1, s.2.2.1, s.2.2.2.1, s.2.2.2.2.1, y4, q3.2))) else (f_X9_isSaid s.2.2.2.2.2.1 q3.2).bind (fun q5 => if ¬ q5.1 = 0 then bnd (s.2.2.2.2.2.1 + (1 : Int32)) (fun y6 => some (Sum.inl (s.1, s.2.1, s.2.2.1, s.2.2.2.1, s.2.2.2.2.1, y6, q5.2))) else ck s.2.2.2.2.2.1 20 (bnd (sI q5.2 100 (ix s.2.2.2.2.2.1) s.1) (fun m7 => ck s.2.2.2.2.2.1 20 (bnd (sI m7 101 (ix s.2.2.2.2.2.1) (gI m7 85 30)) (fun m8 => bnd (s.2.2.2.1 ||| ((1 : Int32) <<< (s.2.2.2.2.2.1 &&& 31))) (fun y9 => bnd (s.2.2.2.2.1 + (1 : Int32)) (fun y10 => bnd (s.2.2.2.2.2.1 + (1 : Int32)) (fun y11 => some (Sum.inl (s.1, s.2.1, s.2.2.1, y9, y10, y11, m8))))))))))))
theorem k_X9_saysNew_L9 {g : Gx}  {Q : Qy} {s : Int32 × Int32 × Int32 × Int32 × Int32 × Int32 × Mem} {t : (Int32 × Int32 × Int32 × Int32 × Int32 × Int32 × Mem) ⊕ (Int32 × Mem)} (h : f_X9_saysNew_L9 s = some t) (hP : P_X9_saysNew_9 g Q t) : A_X9_saysNew_9 g Q s := by
  refine wp_iload dX9_saysNew_9 rfl rfl ?_
  refine wp_aload_n dX9_saysNew_11 rfl rfl ?_
  refine wm_getI dX9_saysNew_12 s_85 fk_X9_169 rfl rfl ?_
  refine wm_icmp_ge 91 dX9_saysNew_15 rfl rfl h (fun h => ?_) (fun h => ?_)
  · refine wm_up h hP (fun r h hP => ?_)
    refine wp_iload dX9_saysNew_91 rfl rfl ?_
    exact wm_iret dX9_saysNew_93 rfl ⟨rfl, rfl⟩ h hP
  · refine wp_iload dX9_saysNew_18 rfl rfl ?_
    refine wp_iload_n dX9_saysNew_20 rfl rfl ?_
    refine wm_icmp_ge 85 dX9_saysNew_21 rfl rfl h (fun h => ?_) (fun h => ?_)
    · refine wm_inc dX9_saysNew_85 rfl ii_1 (by decide) rfl rfl h (fun y1 h => ?_)
      refine wm_list (L' := [some (.ref 85), some (.int s.1), some (.int s.2.1), some (.int s.2.2.1), some (.int s.2.2.2.1), some (.int s.2.2.2.2.1), some (.int y1)]) rfl ?_
      refine wp_goto 9 dX9_saysNew_88 rfl ?_
      have hB := wm_back h hP
      exact wm_mask (L' := [some (.ref 85), some (.int s.1), some (.int s.2.1), some (.int s.2.2.1), some (.int s.2.2.2.1), some (.int s.2.2.2.2.1), some (.int y1)]) [true, true, true, true, true, true, true] rfl (hB)
    · refine wp_aload_n dX9_saysNew_24 rfl rfl ?_
      refine wm_getR dX9_saysNew_25 s_85 fk_X9_25 rfl r_85_10 rfl ?_
      refine wp_iload dX9_saysNew_28 rfl rfl ?_
      refine wm_iald dX9_saysNew_30 s_91 rfl h (fun h => ?_)
      refine wp_iload_n dX9_saysNew_31 rfl rfl ?_
      refine wm_icmp_ne 85 dX9_saysNew_32 rfl rfl h (fun h => ?_) (fun h => ?_)
      · refine wm_inc dX9_saysNew_85 rfl ii_1 (by decide) rfl rfl h (fun y2 h => ?_)
        refine wm_list (L' := [some (.ref 85), some (.int s.1), some (.int s.2.1), some (.int s.2.2.1), some (.int s.2.2.2.1), some (.int s.2.2.2.2.1), some (.int y2)]) rfl ?_
        refine wp_goto 9 dX9_saysNew_88 rfl ?_
        have hB := wm_back h hP
        exact wm_mask (L' := [some (.ref 85), some (.int s.1), some (.int s.2.1), some (.int s.2.2.1), some (.int s.2.2.2.1), some (.int s.2.2.2.2.1), some (.int y2)]) [true, true, true, true, true, true, true] rfl (hB)
      · refine wp_aload_n dX9_saysNew_35 rfl rfl ?_
        refine wp_iload_n dX9_saysNew_36 rfl rfl ?_
        refine wp_iload dX9_saysNew_37 rfl rfl ?_
        refine wm_callVI (As := [.int s.1, .int s.2.2.2.2.2.1]) (rest := []) dX9_saysNew_39 ok_X9_292 (by decide) rfl s_85 ⟨_, rfl⟩ (Nat.le_of_ble_eq_true rfl) ⟨rfl, rfl⟩ rfl (fun t h => o_X9_knows h) h (fun q3 h => ?_)
        refine wm_if_eq 85 dX9_saysNew_42 rfl rfl h (fun h => ?_) (fun h => ?_)
        · refine wm_inc dX9_saysNew_85 rfl ii_1 (by decide) rfl rfl h (fun y4 h => ?_)
          refine wm_list (L' := [some (.ref 85), some (.int s.1), some (.int s.2.1), some (.int s.2.2.1), some (.int s.2.2.2.1), some (.int s.2.2.2.2.1), some (.int y4)]) rfl ?_
          refine wp_goto 9 dX9_saysNew_88 rfl ?_
          have hB := wm_back h hP
          exact wm_mask (L' := [some (.ref 85), some (.int s.1), some (.int s.2.1), some (.int s.2.2.1), some (.int s.2.2.2.1), some (.int s.2.2.2.2.1), some (.int y4)]) [true, true, true, true, true, true, true] rfl (hB)
        · refine wp_aload_n dX9_saysNew_45 rfl rfl ?_
          refine wp_iload dX9_saysNew_46 rfl rfl ?_
          refine wm_callVI (As := [.int s.2.2.2.2.2.1]) (rest := []) dX9_saysNew_48 ok_X9_296 (by decide) rfl s_85 ⟨_, rfl⟩ (Nat.le_of_ble_eq_true rfl) ⟨rfl, rfl⟩ rfl (fun t h => o_X9_isSaid h) h (fun q5 h => ?_)
          refine wm_if_ne 85 dX9_saysNew_51 rfl rfl h (fun h => ?_) (fun h => ?_)
          · refine wm_inc dX9_saysNew_85 rfl ii_1 (by decide) rfl rfl h (fun y6 h => ?_)
            refine wm_list (L' := [some (.ref 85), some (.int s.1), some (.int s.2.1), some (.int s.2.2.1), some (.int s.2.2.2.1), some (.int s.2.2.2.2.1), some (.int y6)]) rfl ?_
            refine wp_goto 9 dX9_saysNew_88 rfl ?_
            have hB := wm_back h hP
            exact wm_mask (L' := [some (.ref 85), some (.int s.1), some (.int s.2.1), some (.int s.2.2.1), some (.int s.2.2.2.1), some (.int s.2.2.2.2.1), some (.int y6)]) [true, true, true, true, true, true, true] rfl (hB)
          · refine wp_aload_n dX9_saysNew_54 rfl rfl ?_
            refine wm_getR dX9_saysNew_55 s_85 fk_X9_52 rfl r_85_35 rfl ?_
            refine wp_iload dX9_saysNew_58 rfl rfl ?_
            refine wp_iload_n dX9_saysNew_60 rfl rfl ?_
            refine wm_iast dX9_saysNew_61 s_100 rfl h (fun m7 h => ?_)
            refine wp_aload_n dX9_saysNew_62 rfl rfl ?_
            refine wm_getR dX9_saysNew_63 s_85 fk_X9_55 rfl r_85_36 rfl ?_
            refine wp_iload dX9_saysNew_66 rfl rfl ?_
            refine wp_aload_n dX9_saysNew_68 rfl rfl ?_
            refine wm_getI dX9_saysNew_69 s_85 fk_X9_321 rfl rfl ?_
            refine wm_iast dX9_saysNew_72 s_101 rfl h (fun m8 h => ?_)
            refine wp_iload dX9_saysNew_73 rfl rfl ?_
            refine wp_iconst (1 : Int32) dX9_saysNew_75 ic_1 rfl ?_
            refine wp_iload dX9_saysNew_76 rfl rfl ?_
            refine wp_ishl dX9_saysNew_78 rfl ?_
            refine wp_ior dX9_saysNew_79 rfl ?_
            refine wm_nm h (fun y9 h => ?_)
            refine wp_istore (L' := [some (.ref 85), some (.int s.1), some (.int s.2.1), some (.int s.2.2.1), some (.int y9), some (.int s.2.2.2.2.1), some (.int s.2.2.2.2.2.1)]) dX9_saysNew_80 (by decide) rfl rfl rfl ?_
            refine wm_inc dX9_saysNew_82 rfl ii_1 (by decide) rfl rfl h (fun y10 h => ?_)
            refine wm_list (L' := [some (.ref 85), some (.int s.1), some (.int s.2.1), some (.int s.2.2.1), some (.int y9), some (.int y10), some (.int s.2.2.2.2.2.1)]) rfl ?_
            refine wm_inc dX9_saysNew_85 rfl ii_1 (by decide) rfl rfl h (fun y11 h => ?_)
            refine wm_list (L' := [some (.ref 85), some (.int s.1), some (.int s.2.1), some (.int s.2.2.1), some (.int y9), some (.int y10), some (.int y11)]) rfl ?_
            refine wp_goto 9 dX9_saysNew_88 rfl ?_
            have hB := wm_back h hP
            exact wm_mask (L' := [some (.ref 85), some (.int s.1), some (.int s.2.1), some (.int s.2.2.1), some (.int y9), some (.int y10), some (.int y11)]) [true, true, true, true, true, true, true] rfl (hB)
noncomputable def f_X9_saysNew  (p1 : Int32) (p2 : Int32) (p3 : Int32) (m : Mem) : Option (Int32 × Mem) := wh (f_X9_saysNew_L9) (p1, p2, p3, (0 : Int32), (0 : Int32), (0 : Int32), m)
theorem k_X9_saysNew_E {g : Gx}  {p1 : Int32} {p2 : Int32} {p3 : Int32} {Q : Qy} {m : Mem} {t : Int32 × Mem} (h : f_X9_saysNew p1 p2 p3 m = some t) (hP : pI Q t) : WpM g 2 mi_X9_saysNew 0 [some (.ref 85), some (.int p1), some (.int p2), some (.int p3), none, none, none] [] m (zM g mi_X9_saysNew Q) := by
  refine wp_iconst (0 : Int32) dX9_saysNew_0 ic_0 rfl ?_
  refine wp_istore (L' := [some (.ref 85), some (.int p1), some (.int p2), some (.int p3), some (.int (0 : Int32)), none, none]) dX9_saysNew_1 (by decide) rfl rfl rfl ?_
  refine wp_iconst (0 : Int32) dX9_saysNew_3 ic_0 rfl ?_
  refine wp_istore (L' := [some (.ref 85), some (.int p1), some (.int p2), some (.int p3), some (.int (0 : Int32)), some (.int (0 : Int32)), none]) dX9_saysNew_4 (by decide) rfl rfl rfl ?_
  refine wp_iconst (0 : Int32) dX9_saysNew_6 ic_0 rfl ?_
  refine wp_istore (L' := [some (.ref 85), some (.int p1), some (.int p2), some (.int p3), some (.int (0 : Int32)), some (.int (0 : Int32)), some (.int (0 : Int32))]) dX9_saysNew_7 (by decide) rfl rfl rfl ?_
  have hB := wh_ok (A := A_X9_saysNew_9 g Q) (B := pI Q) (fun s t h hP => k_X9_saysNew_L9  h hP) h hP
  exact wm_mask (L' := [some (.ref 85), some (.int p1), some (.int p2), some (.int p3), some (.int (0 : Int32)), some (.int (0 : Int32)), some (.int (0 : Int32))]) [true, true, true, true, true, true, true] rfl (hB)
theorem o_X9_saysNew {g : Gx}  {p1 : Int32} {p2 : Int32} {p3 : Int32} {m : Mem} {t : Int32 × Mem} (h : f_X9_saysNew p1 p2 p3 m = some t) : MxM g 2 mi_X9_saysNew [.ref 85, .int p1, .int p2, .int p3] m (qI t) := mx_of pn_X9 (Nat.le_of_ble_eq_true rfl) (k_X9_saysNew_E h ⟨rfl, rfl, rfl, rfl, rfl⟩)
abbrev A_X9_saysAgain_2 (g : Gx)  (Q : Qy) (s : Int32 × Int32 × Int32 × Mem) : Prop := WpM g 2 mi_X9_saysAgain 2 [some (.ref 85), some (.int s.1), some (.int s.2.1), some (.int s.2.2.1)] [] s.2.2.2 (zM g mi_X9_saysAgain Q)
abbrev P_X9_saysAgain_2 (g : Gx)  (Q : Qy) : ((Int32 × Int32 × Int32 × Mem) ⊕ (Int32 × Mem)) → Prop := pS (A_X9_saysAgain_2 g Q) (pI Q)
noncomputable def f_X9_saysAgain_L2  (s : Int32 × Int32 × Int32 × Mem) : Option ((Int32 × Int32 × Int32 × Mem) ⊕ (Int32 × Mem)) := if (gI s.2.2.2 85 9) ≤ s.2.2.1 then up (some ((-2 : Int32), s.2.2.2)) else ck s.2.2.1 20 (if ¬ (gI s.2.2.2 91 (ix s.2.2.1)) = s.2.1 then bnd (s.2.2.1 + (1 : Int32)) (fun y1 => some (Sum.inl (s.1, s.2.1, y1, s.2.2.2))) else (f_X9_knows s.1 s.2.2.1 s.2.2.2).bind (fun q2 => if q2.1 = 0 then bnd (s.2.2.1 + (1 : Int32)) (fun y3 => some (Sum.inl (s.1, s.2.1, y3, q2.2))) else (f_X9_isSaid s.2.2.1 q2.2).bind (fun q4 => if q4.1 = 0 then bnd (s.2.2.1 + (1 : Int32)) (fun y5 => some (Sum.inl (s.1, s.2.1, y5, q4.2))) else up (some (s.2.2.1, q4.2)))))
theorem k_X9_saysAgain_L2 {g : Gx}  {Q : Qy} {s : Int32 × Int32 × Int32 × Mem} {t : (Int32 × Int32 × Int32 × Mem) ⊕ (Int32 × Mem)} (h : f_X9_saysAgain_L2 s = some t) (hP : P_X9_saysAgain_2 g Q t) : A_X9_saysAgain_2 g Q s := by
  refine wp_iload_n dX9_saysAgain_2 rfl rfl ?_
  refine wp_aload_n dX9_saysAgain_3 rfl rfl ?_
  refine wm_getI dX9_saysAgain_4 s_85 fk_X9_169 rfl rfl ?_
  refine wm_icmp_ge 45 dX9_saysAgain_7 rfl rfl h (fun h => ?_) (fun h => ?_)
  · refine wm_up h hP (fun r h hP => ?_)
    refine wp_bipush (-2 : Int32) dX9_saysAgain_45 ib_m2 rfl ?_
    exact wm_iret dX9_saysAgain_47 rfl ⟨rfl, rfl⟩ h hP
  · refine wp_aload_n dX9_saysAgain_10 rfl rfl ?_
    refine wm_getR dX9_saysAgain_11 s_85 fk_X9_25 rfl r_85_10 rfl ?_
    refine wp_iload_n dX9_saysAgain_14 rfl rfl ?_
    refine wm_iald dX9_saysAgain_15 s_91 rfl h (fun h => ?_)
    refine wp_iload_n dX9_saysAgain_16 rfl rfl ?_
    refine wm_icmp_ne 39 dX9_saysAgain_17 rfl rfl h (fun h => ?_) (fun h => ?_)
    · refine wm_inc dX9_saysAgain_39 rfl ii_1 (by decide) rfl rfl h (fun y1 h => ?_)
      refine wm_list (L' := [some (.ref 85), some (.int s.1), some (.int s.2.1), some (.int y1)]) rfl ?_
      refine wp_goto 2 dX9_saysAgain_42 rfl ?_
      have hB := wm_back h hP
      exact wm_mask (L' := [some (.ref 85), some (.int s.1), some (.int s.2.1), some (.int y1)]) [true, true, true, true] rfl (hB)
    · refine wp_aload_n dX9_saysAgain_20 rfl rfl ?_
      refine wp_iload_n dX9_saysAgain_21 rfl rfl ?_
      refine wp_iload_n dX9_saysAgain_22 rfl rfl ?_
      refine wm_callVI (As := [.int s.1, .int s.2.2.1]) (rest := []) dX9_saysAgain_23 ok_X9_292 (by decide) rfl s_85 ⟨_, rfl⟩ (Nat.le_of_ble_eq_true rfl) ⟨rfl, rfl⟩ rfl (fun t h => o_X9_knows h) h (fun q2 h => ?_)
      refine wm_if_eq 39 dX9_saysAgain_26 rfl rfl h (fun h => ?_) (fun h => ?_)
      · refine wm_inc dX9_saysAgain_39 rfl ii_1 (by decide) rfl rfl h (fun y3 h => ?_)
        refine wm_list (L' := [some (.ref 85), some (.int s.1), some (.int s.2.1), some (.int y3)]) rfl ?_
        refine wp_goto 2 dX9_saysAgain_42 rfl ?_
        have hB := wm_back h hP
        exact wm_mask (L' := [some (.ref 85), some (.int s.1), some (.int s.2.1), some (.int y3)]) [true, true, true, true] rfl (hB)
      · refine wp_aload_n dX9_saysAgain_29 rfl rfl ?_
        refine wp_iload_n dX9_saysAgain_30 rfl rfl ?_
        refine wm_callVI (As := [.int s.2.2.1]) (rest := []) dX9_saysAgain_31 ok_X9_296 (by decide) rfl s_85 ⟨_, rfl⟩ (Nat.le_of_ble_eq_true rfl) ⟨rfl, rfl⟩ rfl (fun t h => o_X9_isSaid h) h (fun q4 h => ?_)
        refine wm_if_eq 39 dX9_saysAgain_34 rfl rfl h (fun h => ?_) (fun h => ?_)
        · refine wm_inc dX9_saysAgain_39 rfl ii_1 (by decide) rfl rfl h (fun y5 h => ?_)
          refine wm_list (L' := [some (.ref 85), some (.int s.1), some (.int s.2.1), some (.int y5)]) rfl ?_
          refine wp_goto 2 dX9_saysAgain_42 rfl ?_
          have hB := wm_back h hP
          exact wm_mask (L' := [some (.ref 85), some (.int s.1), some (.int s.2.1), some (.int y5)]) [true, true, true, true] rfl (hB)
        · refine wm_up h hP (fun r h hP => ?_)
          refine wp_iload_n dX9_saysAgain_37 rfl rfl ?_
          exact wm_iret dX9_saysAgain_38 rfl ⟨rfl, rfl⟩ h hP
noncomputable def f_X9_saysAgain  (p1 : Int32) (p2 : Int32) (m : Mem) : Option (Int32 × Mem) := wh (f_X9_saysAgain_L2) (p1, p2, (0 : Int32), m)
theorem k_X9_saysAgain_E {g : Gx}  {p1 : Int32} {p2 : Int32} {Q : Qy} {m : Mem} {t : Int32 × Mem} (h : f_X9_saysAgain p1 p2 m = some t) (hP : pI Q t) : WpM g 2 mi_X9_saysAgain 0 [some (.ref 85), some (.int p1), some (.int p2), none] [] m (zM g mi_X9_saysAgain Q) := by
  refine wp_iconst (0 : Int32) dX9_saysAgain_0 ic_0 rfl ?_
  refine wp_istore_n (L' := [some (.ref 85), some (.int p1), some (.int p2), some (.int (0 : Int32))]) dX9_saysAgain_1 (by decide) rfl rfl rfl ?_
  have hB := wh_ok (A := A_X9_saysAgain_2 g Q) (B := pI Q) (fun s t h hP => k_X9_saysAgain_L2  h hP) h hP
  exact wm_mask (L' := [some (.ref 85), some (.int p1), some (.int p2), some (.int (0 : Int32))]) [true, true, true, true] rfl (hB)
theorem o_X9_saysAgain {g : Gx}  {p1 : Int32} {p2 : Int32} {m : Mem} {t : Int32 × Mem} (h : f_X9_saysAgain p1 p2 m = some t) : MxM g 2 mi_X9_saysAgain [.ref 85, .int p1, .int p2] m (qI t) := mx_of pn_X9 (Nat.le_of_ble_eq_true rfl) (k_X9_saysAgain_E h ⟨rfl, rfl, rfl, rfl, rfl⟩)
