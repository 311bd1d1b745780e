noncomputable def f_J6_bitCount_0f7a4  (p1 : Int32) (m : Mem) : Option (Int32 × Mem) := bnd (p1 - (((p1.toUInt32 >>> ((1 : Int32).toUInt32 &&& Int32.toUInt32 31)).toInt32) &&& (1431655765 : Int32))) (fun y1 => bnd ((y1 &&& (858993459 : Int32)) + (((y1.toUInt32 >>> ((2 : Int32).toUInt32 &&& Int32.toUInt32 31)).toInt32) &&& (858993459 : Int32))) (fun y2 => bnd ((y2 + ((y2.toUInt32 >>> ((4 : Int32).toUInt32 &&& Int32.toUInt32 31)).toInt32)) &&& (252645135 : Int32)) (fun y3 => bnd (y3 + ((y3.toUInt32 >>> ((8 : Int32).toUInt32 &&& Int32.toUInt32 31)).toInt32)) (fun y4 => bnd (y4 + ((y4.toUInt32 >>> ((16 : Int32).toUInt32 &&& Int32.toUInt32 31)).toInt32)) (fun y5 => some ((y5 &&& (63 : Int32)), m))))))
theorem k_J6_bitCount_0f7a4_E {g : Gx}  {p1 : Int32} {Q : Qy} {m : Mem} {t : Int32 × Mem} (h : f_J6_bitCount_0f7a4 p1 m = some t) (hP : pI Q t) : WpM g 1 mi_J6_bitCount_0f7a4 0 [some (.int p1)] [] m (zM g mi_J6_bitCount_0f7a4 Q) := by
  refine wp_iload_n dJ6_bitCount_0f7a4_0 rfl rfl ?_
  refine wp_iload_n dJ6_bitCount_0f7a4_1 rfl rfl ?_
  refine wp_iconst (1 : Int32) dJ6_bitCount_0f7a4_2 ic_1 rfl ?_
  refine wp_iushr dJ6_bitCount_0f7a4_3 rfl ?_
  refine wp_ldcw dJ6_bitCount_0f7a4_4 q816 rfl ?_
  refine wp_iand dJ6_bitCount_0f7a4_7 rfl ?_
  refine wp_isub dJ6_bitCount_0f7a4_8 rfl ?_
  refine wm_nm h (fun y1 h => ?_)
  refine wp_istore_n (L' := [some (.int y1)]) dJ6_bitCount_0f7a4_9 (by decide) rfl rfl rfl ?_
  refine wp_iload_n dJ6_bitCount_0f7a4_10 rfl rfl ?_
  refine wp_ldcw dJ6_bitCount_0f7a4_11 q817 rfl ?_
  refine wp_iand dJ6_bitCount_0f7a4_14 rfl ?_
  refine wp_iload_n dJ6_bitCount_0f7a4_15 rfl rfl ?_
  refine wp_iconst (2 : Int32) dJ6_bitCount_0f7a4_16 ic_2 rfl ?_
  refine wp_iushr dJ6_bitCount_0f7a4_17 rfl ?_
  refine wp_ldcw dJ6_bitCount_0f7a4_18 q817 rfl ?_
  refine wp_iand dJ6_bitCount_0f7a4_21 rfl ?_
  refine wp_iadd dJ6_bitCount_0f7a4_22 rfl ?_
  refine wm_nm h (fun y2 h => ?_)
  refine wp_istore_n (L' := [some (.int y2)]) dJ6_bitCount_0f7a4_23 (by decide) rfl rfl rfl ?_
  refine wp_iload_n dJ6_bitCount_0f7a4_24 rfl rfl ?_
  refine wp_iload_n dJ6_bitCount_0f7a4_25 rfl rfl ?_
  refine wp_iconst (4 : Int32) dJ6_bitCount_0f7a4_26 ic_4 rfl ?_
  refine wp_iushr dJ6_bitCount_0f7a4_27 rfl ?_
  refine wp_iadd dJ6_bitCount_0f7a4_28 rfl ?_
  refine wp_ldcw dJ6_bitCount_0f7a4_29 q818 rfl ?_
  refine wp_iand dJ6_bitCount_0f7a4_32 rfl ?_
  refine wm_nm h (fun y3 h => ?_)
  refine wp_istore_n (L' := [some (.int y3)]) dJ6_bitCount_0f7a4_33 (by decide) rfl rfl rfl ?_
  refine wp_iload_n dJ6_bitCount_0f7a4_34 rfl rfl ?_
  refine wp_iload_n dJ6_bitCount_0f7a4_35 rfl rfl ?_
  refine wp_bipush (8 : Int32) dJ6_bitCount_0f7a4_36 ib_8 rfl ?_
  refine wp_iushr dJ6_bitCount_0f7a4_38 rfl ?_
  refine wp_iadd dJ6_bitCount_0f7a4_39 rfl ?_
  refine wm_nm h (fun y4 h => ?_)
  refine wp_istore_n (L' := [some (.int y4)]) dJ6_bitCount_0f7a4_40 (by decide) rfl rfl rfl ?_
  refine wp_iload_n dJ6_bitCount_0f7a4_41 rfl rfl ?_
  refine wp_iload_n dJ6_bitCount_0f7a4_42 rfl rfl ?_
  refine wp_bipush (16 : Int32) dJ6_bitCount_0f7a4_43 ib_16 rfl ?_
  refine wp_iushr dJ6_bitCount_0f7a4_45 rfl ?_
  refine wp_iadd dJ6_bitCount_0f7a4_46 rfl ?_
  refine wm_nm h (fun y5 h => ?_)
  refine wp_istore_n (L' := [some (.int y5)]) dJ6_bitCount_0f7a4_47 (by decide) rfl rfl rfl ?_
  refine wp_iload_n dJ6_bitCount_0f7a4_48 rfl rfl ?_
  refine wp_bipush (63 : Int32) dJ6_bitCount_0f7a4_49 ib_63 rfl ?_
  refine wp_iand dJ6_bitCount_0f7a4_51 rfl ?_
  exact wm_iret dJ6_bitCount_0f7a4_52 rfl ⟨rfl, rfl⟩ h hP
theorem o_J6_bitCount_0f7a4 {g : Gx}  {p1 : Int32} {m : Mem} {t : Int32 × Mem} (h : f_J6_bitCount_0f7a4 p1 m = some t) : MxM g 1 mi_J6_bitCount_0f7a4 [.int p1] m (qI t) := mx_of pn_J6 (Nat.le_of_ble_eq_true rfl) (k_J6_bitCount_0f7a4_E h ⟨rfl, rfl, rfl, rfl, rfl⟩)
abbrev A_J7_fill_53178_5 (g : Gx) (ar : Nat) (an : Nat) (Q : Qy) (s : Int32 × Int32 × Int32 × Mem) : Prop := WpM g 1 mi_J7_fill_53178 5 [some (.ref ar), some (.int s.1), some (.int s.2.1), some (.int s.2.2.1)] [] s.2.2.2 (zM g mi_J7_fill_53178 Q)
abbrev P_J7_fill_53178_5 (g : Gx) (ar : Nat) (an : Nat) (Q : Qy) : ((Int32 × Int32 × Int32 × Mem) ⊕ Mem) → Prop := pS (A_J7_fill_53178_5 g ar an Q) (pV Q)
noncomputable def f_J7_fill_53178_L5 (ar : Nat) (an : Nat) (s : Int32 × Int32 × Int32 × Mem) : Option ((Int32 × Int32 × Int32 × Mem) ⊕ Mem) := if s.2.2.1 ≤ s.2.1 then up (some s.2.2.2) else ck s.2.1 an (bnd (sI s.2.2.2 ar (ix s.2.1) s.1) (fun m2 => bnd (s.2.1 + (1 : Int32)) (fun y3 => some (Sum.inl (s.1, y3, s.2.2.1, m2)))))
theorem k_J7_fill_53178_L5 {g : Gx} {ar : Nat} {an : Nat} (har : shF[ar]? = some (0, an)) {Q : Qy} {s : Int32 × Int32 × Int32 × Mem} {t : (Int32 × Int32 × Int32 × Mem) ⊕ Mem} (h : f_J7_fill_53178_L5 ar an s = some t) (hP : P_J7_fill_53178_5 g ar an Q t) : A_J7_fill_53178_5 g ar an Q s := by
  refine wp_iload_n dJ7_fill_53178_5 rfl rfl ?_
  refine wp_iload_n dJ7_fill_53178_6 rfl rfl ?_
  refine wm_icmp_ge 20 dJ7_fill_53178_7 rfl rfl h (fun h => ?_) (fun h => ?_)
  · refine wm_up h hP (fun r h hP => ?_)
    exact wm_vret dJ7_fill_53178_20 rfl ⟨rfl, rfl⟩ h hP
  · refine wp_aload_n dJ7_fill_53178_10 rfl rfl ?_
    refine wp_iload_n dJ7_fill_53178_11 rfl rfl ?_
    refine wp_iload_n dJ7_fill_53178_12 rfl rfl ?_
    refine wm_iast dJ7_fill_53178_13 har rfl h (fun m2 h => ?_)
    refine wm_inc dJ7_fill_53178_14 rfl ii_1 (by decide) rfl rfl h (fun y3 h => ?_)
    refine wm_list (L' := [some (.ref ar), some (.int s.1), some (.int y3), some (.int s.2.2.1)]) rfl ?_
    refine wp_goto 5 dJ7_fill_53178_17 rfl ?_
    have hB := wm_back h hP
    exact wm_mask (L' := [some (.ref ar), some (.int s.1), some (.int y3), some (.int s.2.2.1)]) [true, true, true, true] rfl (hB)
noncomputable def f_J7_fill_53178 (ar : Nat) (an : Nat) (p2 : Int32) (m : Mem) : Option Mem := bnd (nI an) (fun y1 => wh (f_J7_fill_53178_L5 ar an) (p2, (0 : Int32), y1, m))
theorem k_J7_fill_53178_E {g : Gx} {ar : Nat} {an : Nat} (har : shF[ar]? = some (0, an)) {p2 : Int32} {Q : Qy} {m : Mem} {t : Mem} (h : f_J7_fill_53178 ar an p2 m = some t) (hP : pV Q t) : WpM g 1 mi_J7_fill_53178 0 [some (.ref ar), some (.int p2), none, none] [] m (zM g mi_J7_fill_53178 Q) := by
  refine wp_iconst (0 : Int32) dJ7_fill_53178_0 ic_0 rfl ?_
  refine wp_istore_n (L' := [some (.ref ar), some (.int p2), some (.int (0 : Int32)), none]) dJ7_fill_53178_1 (by decide) rfl rfl rfl ?_
  refine wp_aload_n dJ7_fill_53178_2 rfl rfl ?_
  refine wp_alen (nI an) dJ7_fill_53178_3 har (by decide) rfl rfl ?_
  refine wm_nm h (fun y1 h => ?_)
  refine wp_istore_n (L' := [some (.ref ar), some (.int p2), some (.int (0 : Int32)), some (.int y1)]) dJ7_fill_53178_4 (by decide) rfl rfl rfl ?_
  have hB := wh_ok (A := A_J7_fill_53178_5 g ar an Q) (B := pV Q) (fun s t h hP => k_J7_fill_53178_L5 har h hP) h hP
  exact wm_mask (L' := [some (.ref ar), some (.int p2), some (.int (0 : Int32)), some (.int y1)]) [true, true, true, true] rfl (hB)
theorem o_J7_fill_53178 {g : Gx} {ar : Nat} {an : Nat} (har : shF[ar]? = some (0, an)) {p2 : Int32} {m : Mem} {t : Mem} (h : f_J7_fill_53178 ar an p2 m = some t) : MxM g 1 mi_J7_fill_53178 [.ref ar, .int p2] m (qV t) := mx_of pn_J7 (Nat.le_of_ble_eq_true rfl) (k_J7_fill_53178_E har h ⟨rfl, rfl, rfl, rfl, rfl⟩)
abbrev A_J7_fill_d0a16_6 (g : Gx) (ar : Nat) (an : Nat) (Q : Qy) (s : Int64 × Int32 × Int32 × Mem) : Prop := WpM g 1 mi_J7_fill_d0a16 6 [some (.ref ar), some (.long s.1), none, some (.int s.2.1), some (.int s.2.2.1)] [] s.2.2.2 (zM g mi_J7_fill_d0a16 Q)
abbrev P_J7_fill_d0a16_6 (g : Gx) (ar : Nat) (an : Nat) (Q : Qy) : ((Int64 × Int32 × Int32 × Mem) ⊕ Mem) → Prop := pS (A_J7_fill_d0a16_6 g ar an Q) (pV Q)
noncomputable def f_J7_fill_d0a16_L6 (ar : Nat) (an : Nat) (s : Int64 × Int32 × Int32 × Mem) : Option ((Int64 × Int32 × Int32 × Mem) ⊕ Mem) := if s.2.2.1 ≤ s.2.1 then up (some s.2.2.2) else ck s.2.1 an (bnd (sJ s.2.2.2 ar (ix s.2.1) s.1) (fun m2 => bnd (s.2.1 + (1 : Int32)) (fun y3 => some (Sum.inl (s.1, y3, s.2.2.1, m2)))))
theorem k_J7_fill_d0a16_L6 {g : Gx} {ar : Nat} {an : Nat} (har : shF[ar]? = some (1, an)) {Q : Qy} {s : Int64 × Int32 × Int32 × Mem} {t : (Int64 × Int32 × Int32 × Mem) ⊕ Mem} (h : f_J7_fill_d0a16_L6 ar an s = some t) (hP : P_J7_fill_d0a16_6 g ar an Q t) : A_J7_fill_d0a16_6 g ar an Q s := by
  refine wp_iload_n dJ7_fill_d0a16_6 rfl rfl ?_
  refine wp_iload dJ7_fill_d0a16_7 rfl rfl ?_
  refine wm_icmp_ge 22 dJ7_fill_d0a16_9 rfl rfl h (fun h => ?_) (fun h => ?_)
  · refine wm_up h hP (fun r h hP => ?_)
    exact wm_vret dJ7_fill_d0a16_22 rfl ⟨rfl, rfl⟩ h hP
  · refine wp_aload_n dJ7_fill_d0a16_12 rfl rfl ?_
    refine wp_iload_n dJ7_fill_d0a16_13 rfl rfl ?_
    refine wp_lload_n dJ7_fill_d0a16_14 rfl rfl ?_
    refine wm_last dJ7_fill_d0a16_15 har rfl h (fun m2 h => ?_)
    refine wm_inc dJ7_fill_d0a16_16 rfl ii_1 (by decide) rfl rfl h (fun y3 h => ?_)
    refine wm_list (L' := [some (.ref ar), some (.long s.1), none, some (.int y3), some (.int s.2.2.1)]) rfl ?_
    refine wp_goto 6 dJ7_fill_d0a16_19 rfl ?_
    have hB := wm_back h hP
    exact wm_mask (L' := [some (.ref ar), some (.long s.1), none, some (.int y3), some (.int s.2.2.1)]) [true, true, false, true, true] rfl (hB)
noncomputable def f_J7_fill_d0a16 (ar : Nat) (an : Nat) (p2 : Int64) (m : Mem) : Option Mem := bnd (nI an) (fun y1 => wh (f_J7_fill_d0a16_L6 ar an) (p2, (0 : Int32), y1, m))
theorem k_J7_fill_d0a16_E {g : Gx} {ar : Nat} {an : Nat} (har : shF[ar]? = some (1, an)) {p2 : Int64} {Q : Qy} {m : Mem} {t : Mem} (h : f_J7_fill_d0a16 ar an p2 m = some t) (hP : pV Q t) : WpM g 1 mi_J7_fill_d0a16 0 [some (.ref ar), some (.long p2), none, none, none] [] m (zM g mi_J7_fill_d0a16 Q) := by
  refine wp_iconst (0 : Int32) dJ7_fill_d0a16_0 ic_0 rfl ?_
  refine wp_istore_n (L' := [some (.ref ar), some (.long p2), none, some (.int (0 : Int32)), none]) dJ7_fill_d0a16_1 (by decide) rfl rfl rfl ?_
  refine wp_aload_n dJ7_fill_d0a16_2 rfl rfl ?_
  refine wp_alen (nI an) dJ7_fill_d0a16_3 har (by decide) rfl rfl ?_
  refine wm_nm h (fun y1 h => ?_)
  refine wp_istore (L' := [some (.ref ar), some (.long p2), none, some (.int (0 : Int32)), some (.int y1)]) dJ7_fill_d0a16_4 (by decide) rfl rfl rfl ?_
  have hB := wh_ok (A := A_J7_fill_d0a16_6 g ar an Q) (B := pV Q) (fun s t h hP => k_J7_fill_d0a16_L6 har h hP) h hP
  exact wm_mask (L' := [some (.ref ar), some (.long p2), none, some (.int (0 : Int32)), some (.int y1)]) [true, true, false, true, true] rfl (hB)
theorem o_J7_fill_d0a16 {g : Gx} {ar : Nat} {an : Nat} (har : shF[ar]? = some (1, an)) {p2 : Int64} {m : Mem} {t : Mem} (h : f_J7_fill_d0a16 ar an p2 m = some t) : MxM g 1 mi_J7_fill_d0a16 [.ref ar, .long p2] m (qV t) := mx_of pn_J7 (Nat.le_of_ble_eq_true rfl) (k_J7_fill_d0a16_E har h ⟨rfl, rfl, rfl, rfl, rfl⟩)
noncomputable def f_X0_addBody  (p1 : Int32) (m : Mem) : Option (Int32 × Mem) := ck (gI m 69 1) 50 (bnd (sI m 71 (ix (gI m 69 1)) p1) (fun m1 => bnd (sI m1 69 1 ((gI m1 69 1) + (1 : Int32))) (fun m2 => some ((gI m1 69 1), m2))))
theorem k_X0_addBody_E {g : Gx}  {p1 : Int32} {Q : Qy} {m : Mem} {t : Int32 × Mem} (h : f_X0_addBody p1 m = some t) (hP : pI Q t) : WpM g 1 mi_X0_addBody 0 [some (.ref 69), some (.int p1)] [] m (zM g mi_X0_addBody Q) := by
  refine wp_aload_n dX0_addBody_0 rfl rfl ?_
  refine wm_getR dX0_addBody_1 s_69 fk_X0_13 rfl r_69_3 rfl ?_
  refine wp_aload_n dX0_addBody_4 rfl rfl ?_
  refine wm_getI dX0_addBody_5 s_69 fk_X0_16 rfl rfl ?_
  refine wp_iload_n dX0_addBody_8 rfl rfl ?_
  refine wm_iast dX0_addBody_9 s_71 rfl h (fun m1 h => ?_)
  refine wp_aload_n dX0_addBody_10 rfl rfl ?_
  refine wp_dup dX0_addBody_11 rfl rfl ?_
  refine wm_getI dX0_addBody_12 s_69 fk_X0_16 rfl rfl ?_
  refine wp_dup_x1 dX0_addBody_15 rfl rfl rfl ?_
  refine wp_iconst (1 : Int32) dX0_addBody_16 ic_1 rfl ?_
  refine wp_iadd dX0_addBody_17 rfl ?_
  refine wm_putI dX0_addBody_18 s_69 fk_X0_16 rfl rfl h (fun m2 h => ?_)
  exact wm_iret dX0_addBody_21 rfl ⟨rfl, rfl⟩ h hP
theorem o_X0_addBody {g : Gx}  {p1 : Int32} {m : Mem} {t : Int32 × Mem} (h : f_X0_addBody p1 m = some t) : MxM g 1 mi_X0_addBody [.ref 69, .int p1] m (qI t) := mx_of pn_X0 (Nat.le_of_ble_eq_true rfl) (k_X0_addBody_E h ⟨rfl, rfl, rfl, rfl, rfl⟩)
noncomputable def f_X0_kindOf  (p1 : Int32) (m : Mem) : Option (Int32 × Mem) := if p1 < 0 then some ((0 : Int32), m) else if (gI m 69 1) ≤ p1 then some ((0 : Int32), m) else ck p1 50 (some ((gI m 71 (ix p1)), m))
theorem k_X0_kindOf_E {g : Gx}  {p1 : Int32} {Q : Qy} {m : Mem} {t : Int32 × Mem} (h : f_X0_kindOf p1 m = some t) (hP : pI Q t) : WpM g 1 mi_X0_kindOf 0 [some (.ref 69), some (.int p1)] [] m (zM g mi_X0_kindOf Q) := by
  refine wp_iload_n dX0_kindOf_0 rfl rfl ?_
  refine wm_if_lt 21 dX0_kindOf_1 rfl rfl h (fun h => ?_) (fun h => ?_)
  · refine wp_iconst (0 : Int32) dX0_kindOf_21 ic_0 rfl ?_
    exact wm_iret dX0_kindOf_22 rfl ⟨rfl, rfl⟩ h hP
  · refine wp_iload_n dX0_kindOf_4 rfl rfl ?_
    refine wp_aload_n dX0_kindOf_5 rfl rfl ?_
    refine wm_getI dX0_kindOf_6 s_69 fk_X0_16 rfl rfl ?_
    refine wm_icmp_ge 21 dX0_kindOf_9 rfl rfl h (fun h => ?_) (fun h => ?_)
    · refine wp_iconst (0 : Int32) dX0_kindOf_21 ic_0 rfl ?_
      exact wm_iret dX0_kindOf_22 rfl ⟨rfl, rfl⟩ h hP
    · refine wp_aload_n dX0_kindOf_12 rfl rfl ?_
      refine wm_getR dX0_kindOf_13 s_69 fk_X0_13 rfl r_69_3 rfl ?_
      refine wp_iload_n dX0_kindOf_16 rfl rfl ?_
      refine wm_iald dX0_kindOf_17 s_71 rfl h (fun h => ?_)
      refine wp_goto 22 dX0_kindOf_18 rfl ?_
      exact wm_iret dX0_kindOf_22 rfl ⟨rfl, rfl⟩ h hP
theorem o_X0_kindOf {g : Gx}  {p1 : Int32} {m : Mem} {t : Int32 × Mem} (h : f_X0_kindOf p1 m = some t) : MxM g 1 mi_X0_kindOf [.ref 69, .int p1] m (qI t) := mx_of pn_X0 (Nat.le_of_ble_eq_true rfl) (k_X0_kindOf_E h ⟨rfl, rfl, rfl, rfl, rfl⟩)
noncomputable def f_X0_mark  (p1 : Int32) (m : Mem) : Option Mem := if (24 : Int32) ≤ (gI m 69 2) then bnd (sI m 69 2 ((gI m 69 2) + (1 : Int32))) (fun m1 => some m1) else ck (gI m 69 2) 24 (bnd (sI m 70 (ix (gI m 69 2)) p1) (fun m2 => bnd (sI m2 69 2 ((gI m2 69 2) + (1 : Int32))) (fun m3 => some m3)))
theorem k_X0_mark_E {g : Gx}  {p1 : Int32} {Q : Qy} {m : Mem} {t : Mem} (h : f_X0_mark p1 m = some t) (hP : pV Q t) : WpM g 1 mi_X0_mark 0 [some (.ref 69), some (.int p1)] [] m (zM g mi_X0_mark Q) := by
  refine wp_aload_n dX0_mark_0 rfl rfl ?_
  refine wm_getI dX0_mark_1 s_69 fk_X0_44 rfl rfl ?_
  refine wp_bipush (24 : Int32) dX0_mark_4 ib_24 rfl ?_
  refine wm_icmp_ge 19 dX0_mark_6 rfl rfl h (fun h => ?_) (fun h => ?_)
  · refine wp_aload_n dX0_mark_19 rfl rfl ?_
    refine wp_dup dX0_mark_20 rfl rfl ?_
    refine wm_getI dX0_mark_21 s_69 fk_X0_44 rfl rfl ?_
    refine wp_iconst (1 : Int32) dX0_mark_24 ic_1 rfl ?_
    refine wp_iadd dX0_mark_25 rfl ?_
    refine wm_putI dX0_mark_26 s_69 fk_X0_44 rfl rfl h (fun m1 h => ?_)
    exact wm_vret dX0_mark_29 rfl ⟨rfl, rfl⟩ h hP
  · refine wp_aload_n dX0_mark_9 rfl rfl ?_
    refine wm_getR dX0_mark_10 s_69 fk_X0_9 rfl r_69_0 rfl ?_
    refine wp_aload_n dX0_mark_13 rfl rfl ?_
    refine wm_getI dX0_mark_14 s_69 fk_X0_44 rfl rfl ?_
    refine wp_iload_n dX0_mark_17 rfl rfl ?_
    refine wm_iast dX0_mark_18 s_70 rfl h (fun m2 h => ?_)
    refine wp_aload_n dX0_mark_19 rfl rfl ?_
    refine wp_dup dX0_mark_20 rfl rfl ?_
    refine wm_getI dX0_mark_21 s_69 fk_X0_44 rfl rfl ?_
    refine wp_iconst (1 : Int32) dX0_mark_24 ic_1 rfl ?_
    refine wp_iadd dX0_mark_25 rfl ?_
    refine wm_putI dX0_mark_26 s_69 fk_X0_44 rfl rfl h (fun m3 h => ?_)
    exact wm_vret dX0_mark_29 rfl ⟨rfl, rfl⟩ h hP
theorem o_X0_mark {g : Gx}  {p1 : Int32} {m : Mem} {t : Mem} (h : f_X0_mark p1 m = some t) : MxM g 1 mi_X0_mark [.ref 69, .int p1] m (qV t) := mx_of pn_X0 (Nat.le_of_ble_eq_true rfl) (k_X0_mark_E h ⟨rfl, rfl, rfl, rfl, rfl⟩)
abbrev A_X0_run_6 (g : Gx) (d0 : Nat) (Q : Qy) (s : Int32 × Int32 × Int32 × Int32 × Int32 × Mem) : Prop := WpM g (d0 + 2) mi_X0_run 6 [some (.ref 69), none, some (.int s.1), some (.int s.2.1), some (.int s.2.2.1), some (.int s.2.2.2.1), some (.int s.2.2.2.2.1), none, none] [] s.2.2.2.2.2 (zM g mi_X0_run Q)
abbrev P_X0_run_6 (g : Gx) (d0 : Nat) (Q : Qy) : ((Int32 × Int32 × Int32 × Int32 × Int32 × Mem) ⊕ (Int32 × Mem)) → Prop := pS (A_X0_run_6 g d0 Q) (pI Q)
noncomputable def f_X0_run_J45 (rc : Int32 → Int32 → Int32 → Int32 → Mem → Option (Int32 × Mem)) (v2 : Int32) (v3 : Int32) (v4 : Int32) (v5 : Int32) (m : Mem) : Option (Int32 × Mem) := if v5 < 0 then some ((0 : Int32), m) else if v4 ≤ (40 : Int32) then ck ((v5 * (4 : Int32)) + v2) (st_5.length) (bnd (st_5.getD (ix ((v5 * (4 : Int32)) + v2)) 0) (fun y1 => (f_X0_mark y1 m).bind (fun q2 => ck v5 (st_4.length) (bnd (st_4.getD (ix v5) 0) (fun y3 => bnd (v4 + (1 : Int32)) (fun y4 => sw y1 [((1 : Int32), some ((v3 + (gI q2 69 4)), q2)), ((2 : Int32), (rc (gI q2 69 5) (1 : Int32) v3 y4 q2).bind (fun q5 => (rc (gI q5.2 69 5) (2 : Int32) (1 : Int32) y4 q5.2).bind (fun q6 => some ((q5.1 - q6.1), q6.2)))), ((10 : Int32), (rc (gI q2 69 5) (0 : Int32) v3 y4 q2).bind (fun q7 => some ((q7.1 * (2 : Int32)), q7.2))), ((11 : Int32), some ((v3 ^^^ (gI q2 69 4)), q2)), ((20 : Int32), (rc y3 (0 : Int32) v3 y4 q2).bind (fun q8 => some ((q8.1 + (3 : Int32)), q8.2))), ((30 : Int32), (rc y3 (1 : Int32) v3 y4 q2).bind (fun q9 => some ((-q9.1), q9.2))), ((40 : Int32), (rc y3 (2 : Int32) v3 y4 q2).bind (fun q10 => some ((q10.1 * (3 : Int32)), q10.2))), ((41 : Int32), (rc y3 (1 : Int32) (v3 + (1 : Int32)) y4 q2).bind (fun q11 => some (q11.1, q11.2))), ((50 : Int32), (rc y3 (2 : Int32) v3 y4 q2).bind (fun q12 => (rc (gI q12.2 69 5) (0 : Int32) (2 : Int32) y4 q12.2).bind (fun q13 => some ((q12.1 - q13.1), q13.2)))), ((60 : Int32), (rc y3 (3 : Int32) v3 y4 q2).bind (fun q14 => some ((q14.1 ^^^ (5 : Int32)), q14.2))), ((70 : Int32), (rc y3 (0 : Int32) v3 y4 q2).bind (fun q15 => some ((q15.1 * (2 : Int32)), q15.2))), ((80 : Int32), (rc y3 (1 : Int32) v3 y4 q2).bind (fun q16 => (rc (gI q16.2 69 5) (2 : Int32) (2 : Int32) y4 q16.2).bind (fun q17 => some ((q16.1 + q17.1), q17.2)))), ((81 : Int32), (rc y3 (3 : Int32) v3 y4 q2).bind (fun q18 => some ((q18.1 - (1 : Int32)), q18.2)))] (some ((0 : Int32), q2)))))))) else some ((0 : Int32), m)
theorem k_X0_run_J45 {g : Gx} {d0 : Nat} {rc : Int32 → Int32 → Int32 → Int32 → Mem → Option (Int32 × Mem)} (hrc : ∀ p1 p2 p3 p4 m t, rc p1 p2 p3 p4 m = some t → MxM g d0 mi_X0_run [.ref 69, .int p1, .int p2, .int p3, .int p4] m (qI t)) {v2 : Int32} {v3 : Int32} {v4 : Int32} {v5 : Int32}  {Q : Qy} {m : Mem} {t : Int32 × Mem} (h : f_X0_run_J45 rc v2 v3 v4 v5 m = some t) (hP : pI Q t) : WpM g (d0 + 2) mi_X0_run 45 [some (.ref 69), none, some (.int v2), some (.int v3), some (.int v4), some (.int v5), none, none, none] [] m (zM g mi_X0_run Q) := by
  refine wp_iload dX0_run_45 rfl rfl ?_
  refine wm_if_lt 57 dX0_run_47 rfl rfl h (fun h => ?_) (fun h => ?_)
  · refine wp_iconst (0 : Int32) dX0_run_57 ic_0 rfl ?_
    exact wm_iret dX0_run_58 rfl ⟨rfl, rfl⟩ h hP
  · refine wp_iload dX0_run_50 rfl rfl ?_
    refine wp_bipush (40 : Int32) dX0_run_52 ib_40 rfl ?_
    refine wm_icmp_le 59 dX0_run_54 rfl rfl h (fun h => ?_) (fun h => ?_)
    · refine wp_gets (j := 5) dX0_run_59 rfl q1079 rfl ?_
      refine wp_iload dX0_run_62 rfl rfl ?_
      refine wp_iconst (4 : Int32) dX0_run_64 ic_4 rfl ?_
      refine wp_imul dX0_run_65 rfl ?_
      refine wp_iload_n dX0_run_66 rfl rfl ?_
      refine wp_iadd dX0_run_67 rfl ?_
      refine wm_ti (j := 5) (xs := st_5) dX0_run_68 rfl rfl h (fun h => ?_)
      refine wm_nm h (fun y1 h => ?_)
      refine wp_istore (L' := [some (.ref 69), none, some (.int v2), some (.int v3), some (.int v4), some (.int v5), some (.int y1), none, none]) dX0_run_69 (by decide) rfl rfl rfl ?_
      refine wp_aload_n dX0_run_71 rfl rfl ?_
      refine wp_iload dX0_run_72 rfl rfl ?_
      refine wm_callVN (As := [.int y1]) (rest := []) dX0_run_74 ok_X0_40 (by omega) rfl s_69 ⟨_, rfl⟩ (Nat.le_of_ble_eq_true rfl) ⟨rfl, rfl⟩ rfl (fun t h => o_X0_mark h) h (fun q2 h => ?_)
      refine wp_gets (j := 4) dX0_run_77 rfl q1081 rfl ?_
      refine wp_iload dX0_run_80 rfl rfl ?_
      refine wm_ti (j := 4) (xs := st_4) dX0_run_82 rfl rfl h (fun h => ?_)
      refine wm_nm h (fun y3 h => ?_)
      refine wp_istore (L' := [some (.ref 69), none, some (.int v2), some (.int v3), some (.int v4), some (.int v5), some (.int y1), some (.int y3), none]) dX0_run_83 (by decide) rfl rfl rfl ?_
      refine wp_iload dX0_run_85 rfl rfl ?_
      refine wp_iconst (1 : Int32) dX0_run_87 ic_1 rfl ?_
      refine wp_iadd dX0_run_88 rfl ?_
      refine wm_nm h (fun y4 h => ?_)
      refine wp_istore (L' := [some (.ref 69), none, some (.int v2), some (.int v3), some (.int v4), some (.int v5), some (.int y1), some (.int y3), some (.int y4)]) dX0_run_89 (by decide) rfl rfl rfl ?_
      refine wp_iload dX0_run_91 rfl rfl ?_
      refine wm_lsw [((1 : Int32), 208), ((2 : Int32), 215), ((10 : Int32), 241), ((11 : Int32), 256), ((20 : Int32), 263), ((30 : Int32), 276), ((40 : Int32), 288), ((41 : Int32), 301), ((50 : Int32), 314), ((60 : Int32), 338), ((70 : Int32), 351), ((80 : Int32), 364), ((81 : Int32), 388)] 401 dX0_run_93 (by decide +kernel) rfl (by decide +kernel) (lsw_off (by decide +kernel)) (by decide +kernel) h rfl ⟨fun h => ?_, fun h => ?_, fun h => ?_, fun h => ?_, fun h => ?_, fun h => ?_, fun h => ?_, fun h => ?_, fun h => ?_, fun h => ?_, fun h => ?_, fun h => ?_, fun h => ?_, trivial⟩ (fun h => ?_)
      · refine wp_iload_n dX0_run_208 rfl rfl ?_
        refine wp_aload_n dX0_run_209 rfl rfl ?_
        refine wm_getI dX0_run_210 s_69 fk_X0_23 rfl rfl ?_
        refine wp_iadd dX0_run_213 rfl ?_
        exact wm_iret dX0_run_214 rfl ⟨rfl, rfl⟩ h hP
      · refine wp_aload_n dX0_run_215 rfl rfl ?_
        refine wp_aload_n dX0_run_216 rfl rfl ?_
        refine wm_getI dX0_run_217 s_69 fk_X0_30 rfl rfl ?_
        refine wp_iconst (1 : Int32) dX0_run_220 ic_1 rfl ?_
        refine wp_iload_n dX0_run_221 rfl rfl ?_
        refine wp_iload dX0_run_222 rfl rfl ?_
        refine wm_callVI (As := [.int (gI q2 69 5), .int (1 : Int32), .int v3, .int y4]) (rest := []) dX0_run_224 ok_X0_33 (by omega) rfl s_69 ⟨_, rfl⟩ (Nat.le_of_ble_eq_true rfl) ⟨rfl, rfl⟩ rfl (hrc _ _ _ _ _) h (fun q5 h => ?_)
        refine wp_aload_n dX0_run_227 rfl rfl ?_
        refine wp_aload_n dX0_run_228 rfl rfl ?_
        refine wm_getI dX0_run_229 s_69 fk_X0_30 rfl rfl ?_
        refine wp_iconst (2 : Int32) dX0_run_232 ic_2 rfl ?_
        refine wp_iconst (1 : Int32) dX0_run_233 ic_1 rfl ?_
        refine wp_iload dX0_run_234 rfl rfl ?_
        refine wm_callVI (As := [.int (gI q5.2 69 5), .int (2 : Int32), .int (1 : Int32), .int y4]) (rest := [.int q5.1]) dX0_run_236 ok_X0_33 (by omega) rfl s_69 ⟨_, rfl⟩ (Nat.le_of_ble_eq_true rfl) ⟨rfl, rfl⟩ rfl (hrc _ _ _ _ _) h (fun q6 h => ?_)
        refine wp_isub dX0_run_239 rfl ?_
        exact wm_iret dX0_run_240 rfl ⟨rfl, rfl⟩ h hP
      · refine wp_aload_n dX0_run_241 rfl rfl ?_
        refine wp_aload_n dX0_run_242 rfl rfl ?_
        refine wm_getI dX0_run_243 s_69 fk_X0_30 rfl rfl ?_
        refine wp_iconst (0 : Int32) dX0_run_246 ic_0 rfl ?_
        refine wp_iload_n dX0_run_247 rfl rfl ?_
        refine wp_iload dX0_run_248 rfl rfl ?_
        refine wm_callVI (As := [.int (gI q2 69 5), .int (0 : Int32), .int v3, .int y4]) (rest := []) dX0_run_250 ok_X0_33 (by omega) rfl s_69 ⟨_, rfl⟩ (Nat.le_of_ble_eq_true rfl) ⟨rfl, rfl⟩ rfl (hrc _ _ _ _ _) h (fun q7 h => ?_)
        refine wp_iconst (2 : Int32) dX0_run_253 ic_2 rfl ?_
        refine wp_imul dX0_run_254 rfl ?_
        exact wm_iret dX0_run_255 rfl ⟨rfl, rfl⟩ h hP
      · refine wp_iload_n dX0_run_256 rfl rfl ?_
        refine wp_aload_n dX0_run_257 rfl rfl ?_
        refine wm_getI dX0_run_258 s_69 fk_X0_23 rfl rfl ?_
        refine wp_ixor dX0_run_261 rfl ?_
        exact wm_iret dX0_run_262 rfl ⟨rfl, rfl⟩ h hP
      · refine wp_aload_n dX0_run_263 rfl rfl ?_
        refine wp_iload dX0_run_264 rfl rfl ?_
        refine wp_iconst (0 : Int32) dX0_run_266 ic_0 rfl ?_
        refine wp_iload_n dX0_run_267 rfl rfl ?_
        refine wp_iload dX0_run_268 rfl rfl ?_
        refine wm_callVI (As := [.int y3, .int (0 : Int32), .int v3, .int y4]) (rest := []) dX0_run_270 ok_X0_33 (by omega) rfl s_69 ⟨_, rfl⟩ (Nat.le_of_ble_eq_true rfl) ⟨rfl, rfl⟩ rfl (hrc _ _ _ _ _) h (fun q8 h => ?_)
        refine wp_iconst (3 : Int32) dX0_run_273 ic_3 rfl ?_
        refine wp_iadd dX0_run_274 rfl ?_
        exact wm_iret dX0_run_275 rfl ⟨rfl, rfl⟩ h hP
      · refine wp_aload_n dX0_run_276 rfl rfl ?_
        refine wp_iload dX0_run_277 rfl rfl ?_
        refine wp_iconst (1 : Int32) dX0_run_279 ic_1 rfl ?_
        refine wp_iload_n dX0_run_280 rfl rfl ?_
        refine wp_iload dX0_run_281 rfl rfl ?_
        refine wm_callVI (As := [.int y3, .int (1 : Int32), .int v3, .int y4]) (rest := []) dX0_run_283 ok_X0_33 (by omega) rfl s_69 ⟨_, rfl⟩ (Nat.le_of_ble_eq_true rfl) ⟨rfl, rfl⟩ rfl (hrc _ _ _ _ _) h (fun q9 h => ?_)
        refine wp_ineg dX0_run_286 rfl ?_
        exact wm_iret dX0_run_287 rfl ⟨rfl, rfl⟩ h hP
      · refine wp_aload_n dX0_run_288 rfl rfl ?_
        refine wp_iload dX0_run_289 rfl rfl ?_
        refine wp_iconst (2 : Int32) dX0_run_291 ic_2 rfl ?_
        refine wp_iload_n dX0_run_292 rfl rfl ?_
        refine wp_iload dX0_run_293 rfl rfl ?_
        refine wm_callVI (As := [.int y3, .int (2 : Int32), .int v3, .int y4]) (rest := []) dX0_run_295 ok_X0_33 (by omega) rfl s_69 ⟨_, rfl⟩ (Nat.le_of_ble_eq_true rfl) ⟨rfl, rfl⟩ rfl (hrc _ _ _ _ _) h (fun q10 h => ?_)
        refine wp_iconst (3 : Int32) dX0_run_298 ic_3 rfl ?_
        refine wp_imul dX0_run_299 rfl ?_
        exact wm_iret dX0_run_300 rfl ⟨rfl, rfl⟩ h hP
      · refine wp_aload_n dX0_run_301 rfl rfl ?_
        refine wp_iload dX0_run_302 rfl rfl ?_
        refine wp_iconst (1 : Int32) dX0_run_304 ic_1 rfl ?_
        refine wp_iload_n dX0_run_305 rfl rfl ?_
        refine wp_iconst (1 : Int32) dX0_run_306 ic_1 rfl ?_
        refine wp_iadd dX0_run_307 rfl ?_
        refine wp_iload dX0_run_308 rfl rfl ?_
        refine wm_callVI (As := [.int y3, .int (1 : Int32), .int (v3 + (1 : Int32)), .int y4]) (rest := []) dX0_run_310 ok_X0_33 (by omega) rfl s_69 ⟨_, rfl⟩ (Nat.le_of_ble_eq_true rfl) ⟨rfl, rfl⟩ rfl (hrc _ _ _ _ _) h (fun q11 h => ?_)
        exact wm_iret dX0_run_313 rfl ⟨rfl, rfl⟩ h hP
      · refine wp_aload_n dX0_run_314 rfl rfl ?_
        refine wp_iload dX0_run_315 rfl rfl ?_
        refine wp_iconst (2 : Int32) dX0_run_317 ic_2 rfl ?_
        refine wp_iload_n dX0_run_318 rfl rfl ?_
        refine wp_iload dX0_run_319 rfl rfl ?_
        refine wm_callVI (As := [.int y3, .int (2 : Int32), .int v3, .int y4]) (rest := []) dX0_run_321 ok_X0_33 (by omega) rfl s_69 ⟨_, rfl⟩ (Nat.le_of_ble_eq_true rfl) ⟨rfl, rfl⟩ rfl (hrc _ _ _ _ _) h (fun q12 h => ?_)
        refine wp_aload_n dX0_run_324 rfl rfl ?_
        refine wp_aload_n dX0_run_325 rfl rfl ?_
        refine wm_getI dX0_run_326 s_69 fk_X0_30 rfl rfl ?_
        refine wp_iconst (0 : Int32) dX0_run_329 ic_0 rfl ?_
        refine wp_iconst (2 : Int32) dX0_run_330 ic_2 rfl ?_
        refine wp_iload dX0_run_331 rfl rfl ?_
        refine wm_callVI (As := [.int (gI q12.2 69 5), .int (0 : Int32), .int (2 : Int32), .int y4]) (rest := [.int q12.1]) dX0_run_333 ok_X0_33 (by omega) rfl s_69 ⟨_, rfl⟩ (Nat.le_of_ble_eq_true rfl) ⟨rfl, rfl⟩ rfl (hrc _ _ _ _ _) h (fun q13 h => ?_)
        refine wp_isub dX0_run_336 rfl ?_
        exact wm_iret dX0_run_337 rfl ⟨rfl, rfl⟩ h hP
      · refine wp_aload_n dX0_run_338 rfl rfl ?_
        refine wp_iload dX0_run_339 rfl rfl ?_
        refine wp_iconst (3 : Int32) dX0_run_341 ic_3 rfl ?_
        refine wp_iload_n dX0_run_342 rfl rfl ?_
        refine wp_iload dX0_run_343 rfl rfl ?_
        refine wm_callVI (As := [.int y3, .int (3 : Int32), .int v3, .int y4]) (rest := []) dX0_run_345 ok_X0_33 (by omega) rfl s_69 ⟨_, rfl⟩ (Nat.le_of_ble_eq_true rfl) ⟨rfl, rfl⟩ rfl (hrc _ _ _ _ _) h (fun q14 h => ?_)
        refine wp_iconst (5 : Int32) dX0_run_348 ic_5 rfl ?_
        refine wp_ixor dX0_run_349 rfl ?_
        exact wm_iret dX0_run_350 rfl ⟨rfl, rfl⟩ h hP
      · refine wp_aload_n dX0_run_351 rfl rfl ?_
        refine wp_iload dX0_run_352 rfl rfl ?_
        refine wp_iconst (0 : Int32) dX0_run_354 ic_0 rfl ?_
        refine wp_iload_n dX0_run_355 rfl rfl ?_
        refine wp_iload dX0_run_356 rfl rfl ?_
        refine wm_callVI (As := [.int y3, .int (0 : Int32), .int v3, .int y4]) (rest := []) dX0_run_358 ok_X0_33 (by omega) rfl s_69 ⟨_, rfl⟩ (Nat.le_of_ble_eq_true rfl) ⟨rfl, rfl⟩ rfl (hrc _ _ _ _ _) h (fun q15 h => ?_)
        refine wp_iconst (2 : Int32) dX0_run_361 ic_2 rfl ?_
        refine wp_imul dX0_run_362 rfl ?_
        exact wm_iret dX0_run_363 rfl ⟨rfl, rfl⟩ h hP
      · refine wp_aload_n dX0_run_364 rfl rfl ?_
        refine wp_iload dX0_run_365 rfl rfl ?_
        refine wp_iconst (1 : Int32) dX0_run_367 ic_1 rfl ?_
        refine wp_iload_n dX0_run_368 rfl rfl ?_
        refine wp_iload dX0_run_369 rfl rfl ?_
        refine wm_callVI (As := [.int y3, .int (1 : Int32), .int v3, .int y4]) (rest := []) dX0_run_371 ok_X0_33 (by omega) rfl s_69 ⟨_, rfl⟩ (Nat.le_of_ble_eq_true rfl) ⟨rfl, rfl⟩ rfl (hrc _ _ _ _ _) h (fun q16 h => ?_)
        refine wp_aload_n dX0_run_374 rfl rfl ?_
        refine wp_aload_n dX0_run_375 rfl rfl ?_
        refine wm_getI dX0_run_376 s_69 fk_X0_30 rfl rfl ?_
        refine wp_iconst (2 : Int32) dX0_run_379 ic_2 rfl ?_
        refine wp_iconst (2 : Int32) dX0_run_380 ic_2 rfl ?_
        refine wp_iload dX0_run_381 rfl rfl ?_
        refine wm_callVI (As := [.int (gI q16.2 69 5), .int (2 : Int32), .int (2 : Int32), .int y4]) (rest := [.int q16.1]) dX0_run_383 ok_X0_33 (by omega) rfl s_69 ⟨_, rfl⟩ (Nat.le_of_ble_eq_true rfl) ⟨rfl, rfl⟩ rfl (hrc _ _ _ _ _) h (fun q17 h => ?_)
        refine wp_iadd dX0_run_386 rfl ?_
        exact wm_iret dX0_run_387 rfl ⟨rfl, rfl⟩ h hP
      · refine wp_aload_n dX0_run_388 rfl rfl ?_
        refine wp_iload dX0_run_389 rfl rfl ?_
        refine wp_iconst (3 : Int32) dX0_run_391 ic_3 rfl ?_
        refine wp_iload_n dX0_run_392 rfl rfl ?_
        refine wp_iload dX0_run_393 rfl rfl ?_
        refine wm_callVI (As := [.int y3, .int (3 : Int32), .int v3, .int y4]) (rest := []) dX0_run_395 ok_X0_33 (by omega) rfl s_69 ⟨_, rfl⟩ (Nat.le_of_ble_eq_true rfl) ⟨rfl, rfl⟩ rfl (hrc _ _ _ _ _) h (fun q18 h => ?_)
        refine wp_iconst (1 : Int32) dX0_run_398 ic_1 rfl ?_
        refine wp_isub dX0_run_399 rfl ?_
        exact wm_iret dX0_run_400 rfl ⟨rfl, rfl⟩ h hP
      · refine wp_iconst (0 : Int32) dX0_run_401 ic_0 rfl ?_
        exact wm_iret dX0_run_402 rfl ⟨rfl, rfl⟩ h hP
    · refine wp_iconst (0 : Int32) dX0_run_57 ic_0 rfl ?_
      exact wm_iret dX0_run_58 rfl ⟨rfl, rfl⟩ h hP
noncomputable def f_X0_run_L6 (rc : Int32 → Int32 → Int32 → Int32 → Mem → Option (Int32 × Mem)) (s : Int32 × Int32 × Int32 × Int32 × Int32 × Mem) : Option ((Int32 × Int32 × Int32 × Int32 × Int32 × Mem) ⊕ (Int32 × Mem)) := if (8 : Int32) ≤ s.2.2.2.2.1 then up (f_X0_run_J45 rc s.1 s.2.1 s.2.2.1 s.2.2.2.1 s.2.2.2.2.2) else if s.2.2.2.1 ≤ 0 then up (f_X0_run_J45 rc s.1 s.2.1 s.2.2.1 s.2.2.2.1 s.2.2.2.2.2) else ck ((s.2.2.2.1 * (4 : Int32)) + s.1) (st_5.length) (if ¬ (st_5.getD (ix ((s.2.2.2.1 * (4 : Int32)) + s.1)) 0) = 0 then up (f_X0_run_J45 rc s.1 s.2.1 s.2.2.1 s.2.2.2.1 s.2.2.2.2.2) else ck s.2.2.2.1 (st_4.length) (bnd (st_4.getD (ix s.2.2.2.1) 0) (fun y19 => bnd (s.2.2.2.2.1 + (1 : Int32)) (fun y20 => some (Sum.inl (s.1, s.2.1, s.2.2.1, y19, y20, s.2.2.2.2.2))))))
theorem k_X0_run_L6 {g : Gx} {d0 : Nat} {rc : Int32 → Int32 → Int32 → Int32 → Mem → Option (Int32 × Mem)} (hrc : ∀ p1 p2 p3 p4 m t, rc p1 p2 p3 p4 m = some t → MxM g d0 mi_X0_run [.ref 69, .int p1, .int p2, .int p3, .int p4] m (qI t)) {Q : Qy} {s : Int32 × Int32 × Int32 × Int32 × Int32 × Mem} {t : (Int32 × Int32 × Int32 × Int32 × Int32 × Mem) ⊕ (Int32 × Mem)} (h : f_X0_run_L6 rc s = some t) (hP : P_X0_run_6 g d0 Q t) : A_X0_run_6 g d0 Q s := by
  refine wp_iload dX0_run_6 rfl rfl ?_
  refine wp_bipush (8 : Int32) dX0_run_8 ib_8 rfl ?_
  refine wm_icmp_ge 45 dX0_run_10 rfl rfl h (fun h => ?_) (fun h => ?_)
  · refine wm_up h hP (fun r h hP => ?_)
    exact wm_mask (L' := [some (.ref 69), none, some (.int s.1), some (.int s.2.1), some (.int s.2.2.1), some (.int s.2.2.2.1), none, none, none]) [true, false, true, true, true, true, false, false, false] rfl (k_X0_run_J45 hrc h hP)
  · refine wp_iload dX0_run_13 rfl rfl ?_
    refine wm_if_le 45 dX0_run_15 rfl rfl h (fun h => ?_) (fun h => ?_)
    · refine wm_up h hP (fun r h hP => ?_)
      exact wm_mask (L' := [some (.ref 69), none, some (.int s.1), some (.int s.2.1), some (.int s.2.2.1), some (.int s.2.2.2.1), none, none, none]) [true, false, true, true, true, true, false, false, false] rfl (k_X0_run_J45 hrc h hP)
    · refine wp_gets (j := 5) dX0_run_18 rfl q1079 rfl ?_
      refine wp_iload dX0_run_21 rfl rfl ?_
      refine wp_iconst (4 : Int32) dX0_run_23 ic_4 rfl ?_
      refine wp_imul dX0_run_24 rfl ?_
      refine wp_iload_n dX0_run_25 rfl rfl ?_
      refine wp_iadd dX0_run_26 rfl ?_
      refine wm_ti (j := 5) (xs := st_5) dX0_run_27 rfl rfl h (fun h => ?_)
      refine wm_if_ne 45 dX0_run_28 rfl rfl h (fun h => ?_) (fun h => ?_)
      · refine wm_up h hP (fun r h hP => ?_)
        exact wm_mask (L' := [some (.ref 69), none, some (.int s.1), some (.int s.2.1), some (.int s.2.2.1), some (.int s.2.2.2.1), none, none, none]) [true, false, true, true, true, true, false, false, false] rfl (k_X0_run_J45 hrc h hP)
      · refine wp_gets (j := 4) dX0_run_31 rfl q1081 rfl ?_
        refine wp_iload dX0_run_34 rfl rfl ?_
        refine wm_ti (j := 4) (xs := st_4) dX0_run_36 rfl rfl h (fun h => ?_)
        refine wm_nm h (fun y19 h => ?_)
        refine wp_istore (L' := [some (.ref 69), none, some (.int s.1), some (.int s.2.1), some (.int s.2.2.1), some (.int y19), some (.int s.2.2.2.2.1), none, none]) dX0_run_37 (by decide) rfl rfl rfl ?_
        refine wm_inc dX0_run_39 rfl ii_1 (by decide) rfl rfl h (fun y20 h => ?_)
        refine wm_list (L' := [some (.ref 69), none, some (.int s.1), some (.int s.2.1), some (.int s.2.2.1), some (.int y19), some (.int y20), none, none]) rfl ?_
        refine wp_goto 6 dX0_run_42 rfl ?_
        have hB := wm_back h hP
        exact wm_mask (L' := [some (.ref 69), none, some (.int s.1), some (.int s.2.1), some (.int s.2.2.1), some (.int y19), some (.int y20), none, none]) [true, false, true, true, true, true, true, false, false] rfl (hB)
noncomputable def f_X0_run_B (rc : Int32 → Int32 → Int32 → Int32 → Mem → Option (Int32 × Mem)) (p1 : Int32) (p2 : Int32) (p3 : Int32) (p4 : Int32) (m : Mem) : Option (Int32 × Mem) := wh (f_X0_run_L6 rc) (p2, p3, p4, p1, (0 : Int32), m)
theorem k_X0_run_E {g : Gx} {d0 : Nat} {rc : Int32 → Int32 → Int32 → Int32 → Mem → Option (Int32 × Mem)} (hrc : ∀ p1 p2 p3 p4 m t, rc p1 p2 p3 p4 m = some t → MxM g d0 mi_X0_run [.ref 69, .int p1, .int p2, .int p3, .int p4] m (qI t)) {p1 : Int32} {p2 : Int32} {p3 : Int32} {p4 : Int32} {Q : Qy} {m : Mem} {t : Int32 × Mem} (h : f_X0_run_B rc p1 p2 p3 p4 m = some t) (hP : pI Q t) : WpM g (d0 + 2) mi_X0_run 0 [some (.ref 69), some (.int p1), some (.int p2), some (.int p3), some (.int p4), none, none, none, none] [] m (zM g mi_X0_run Q) := by
  refine wp_iload_n dX0_run_0 rfl rfl ?_
  refine wp_istore (L' := [some (.ref 69), some (.int p1), some (.int p2), some (.int p3), some (.int p4), some (.int p1), none, none, none]) dX0_run_1 (by decide) rfl rfl rfl ?_
  refine wp_iconst (0 : Int32) dX0_run_3 ic_0 rfl ?_
  refine wp_istore (L' := [some (.ref 69), some (.int p1), some (.int p2), some (.int p3), some (.int p4), some (.int p1), some (.int (0 : Int32)), none, none]) dX0_run_4 (by decide) rfl rfl rfl ?_
  have hB := wh_ok (A := A_X0_run_6 g d0 Q) (B := pI Q) (fun s t h hP => k_X0_run_L6 hrc h hP) h hP
  exact wm_mask (L' := [some (.ref 69), none, some (.int p2), some (.int p3), some (.int p4), some (.int p1), some (.int (0 : Int32)), none, none]) [true, false, true, true, true, true, true, false, false] rfl (hB)
theorem o_X0_run_B {g : Gx} {d0 : Nat} {rc : Int32 → Int32 → Int32 → Int32 → Mem → Option (Int32 × Mem)} (hrc : ∀ p1 p2 p3 p4 m t, rc p1 p2 p3 p4 m = some t → MxM g d0 mi_X0_run [.ref 69, .int p1, .int p2, .int p3, .int p4] m (qI t)) {p1 : Int32} {p2 : Int32} {p3 : Int32} {p4 : Int32} {m : Mem} {t : Int32 × Mem} (h : f_X0_run_B rc p1 p2 p3 p4 m = some t) : MxM g (d0 + 2) mi_X0_run [.ref 69, .int p1, .int p2, .int p3, .int p4] m (qI t) := mx_of pn_X0 (Nat.le_of_ble_eq_true rfl) (k_X0_run_E hrc h ⟨rfl, rfl, rfl, rfl, rfl⟩)
noncomputable def f_X0_run : Nat → Int32 → Int32 → Int32 → Int32 → Mem → Option (Int32 × Mem)
  | 0, _, _, _, _, _ => none
  | n + 1, p1, p2, p3, p4, m => f_X0_run_B (f_X0_run n) p1 p2 p3 p4 m
theorem o_X0_run {g : Gx} (n : Nat) : ∀ {p1 : Int32} {p2 : Int32} {p3 : Int32} {p4 : Int32} {m : Mem} {t : Int32 × Mem}, f_X0_run n p1 p2 p3 p4 m = some t → MxM g (2 * n) mi_X0_run [.ref 69, .int p1, .int p2, .int p3, .int p4] m (qI t) := by
  induction n with
  | zero => intro _ _ _ _ _ _ h; cases h
  | succ n ih => intro p1 p2 p3 p4 m t h; exact o_X0_run_B (d0 := 2 * n) (fun _ _ _ _ _ _ h => ih h) h
noncomputable def f_X0_begin  (p1 : Int32) (p2 : Int32) (p3 : Int32) (m : Mem) : Option (Int32 × Mem) := bnd (sI m 69 4 p1) (fun m1 => (f_X0_kindOf p1 m1).bind (fun q2 => bnd (sI q2.2 69 5 q2.1) (fun m3 => (f_X0_run 10 (gI m3 69 5) p2 p3 (0 : Int32) m3).bind (fun q4 => some (q4.1, q4.2)))))
theorem k_X0_begin_E {g : Gx}  {p1 : Int32} {p2 : Int32} {p3 : Int32} {Q : Qy} {m : Mem} {t : Int32 × Mem} (h : f_X0_begin p1 p2 p3 m = some t) (hP : pI Q t) : WpM g 21 mi_X0_begin 0 [some (.ref 69), some (.int p1), some (.int p2), some (.int p3)] [] m (zM g mi_X0_begin Q) := by
  refine wp_aload_n dX0_begin_0 rfl rfl ?_
  refine wp_iload_n dX0_begin_1 rfl rfl ?_
  refine wm_putI dX0_begin_2 s_69 fk_X0_23 rfl rfl h (fun m1 h => ?_)
  refine wp_aload_n dX0_begin_5 rfl rfl ?_
  refine wp_aload_n dX0_begin_6 rfl rfl ?_
  refine wp_iload_n dX0_begin_7 rfl rfl ?_
  refine wm_callVI (As := [.int p1]) (rest := [.ref 69]) dX0_begin_8 ok_X0_26 (by decide) rfl s_69 ⟨_, rfl⟩ (Nat.le_of_ble_eq_true rfl) ⟨rfl, rfl⟩ rfl (fun t h => o_X0_kindOf h) h (fun q2 h => ?_)
  refine wm_putI dX0_begin_11 s_69 fk_X0_30 rfl rfl h (fun m3 h => ?_)
  refine wp_aload_n dX0_begin_14 rfl rfl ?_
  refine wp_aload_n dX0_begin_15 rfl rfl ?_
  refine wm_getI dX0_begin_16 s_69 fk_X0_30 rfl rfl ?_
  refine wp_iload_n dX0_begin_19 rfl rfl ?_
  refine wp_iload_n dX0_begin_20 rfl rfl ?_
  refine wp_iconst (0 : Int32) dX0_begin_21 ic_0 rfl ?_
  refine wm_callVI (As := [.int (gI m3 69 5), .int p2, .int p3, .int (0 : Int32)]) (rest := []) dX0_begin_22 ok_X0_33 (by decide) rfl s_69 ⟨_, rfl⟩ (Nat.le_of_ble_eq_true rfl) ⟨rfl, rfl⟩ rfl (fun t h => o_X0_run 10 h) h (fun q4 h => ?_)
  exact wm_iret dX0_begin_25 rfl ⟨rfl, rfl⟩ h hP
theorem o_X0_begin {g : Gx}  {p1 : Int32} {p2 : Int32} {p3 : Int32} {m : Mem} {t : Int32 × Mem} (h : f_X0_begin p1 p2 p3 m = some t) : MxM g 21 mi_X0_begin [.ref 69, .int p1, .int p2, .int p3] m (qI t) := mx_of pn_X0 (Nat.le_of_ble_eq_true rfl) (k_X0_begin_E h ⟨rfl, rfl, rfl, rfl, rfl⟩)
abbrev A_X0_isUnder_4 (g : Gx)  (Q : Qy) (s : Int32 × Int32 × Int32 × Mem) : Prop := WpM g 1 mi_X0_isUnder 4 [none, some (.int s.1), some (.int s.2.1), some (.int s.2.2.1)] [] s.2.2.2 (zM g mi_X0_isUnder Q)
abbrev P_X0_isUnder_4 (g : Gx)  (Q : Qy) : ((Int32 × Int32 × Int32 × Mem) ⊕ (Int32 × Mem)) → Prop := pS (A_X0_isUnder_4 g Q) (pI Q)
noncomputable def f_X0_isUnder_L4  (s : Int32 × Int32 × Int32 × Mem) : Option ((Int32 × Int32 × Int32 × Mem) ⊕ (Int32 × Mem)) := if (8 : Int32) ≤ s.2.2.1 then up (bz (0 : Int32) (some ((0 : Int32), s.2.2.2))) else if s.2.1 < 0 then up (bz (0 : Int32) (some ((0 : Int32), s.2.2.2))) else if ¬ s.2.1 = s.1 then ck s.2.1 (st_4.length) (bnd (st_4.getD (ix s.2.1) 0) (fun y1 => bnd (s.2.2.1 + (1 : Int32)) (fun y2 => some (Sum.inl (s.1, y1, y2, s.2.2.2))))) else up (bz (1 : Int32) (some ((1 : Int32), s.2.2.2)))
theorem k_X0_isUnder_L4 {g : Gx}  {Q : Qy} {s : Int32 × Int32 × Int32 × Mem} {t : (Int32 × Int32 × Int32 × Mem) ⊕ (Int32 × Mem)} (h : f_X0_isUnder_L4 s = some t) (hP : P_X0_isUnder_4 g Q t) : A_X0_isUnder_4 g Q s := by
  refine wp_iload_n dX0_isUnder_4 rfl rfl ?_
  refine wp_bipush (8 : Int32) dX0_isUnder_5 ib_8 rfl ?_
  refine wm_icmp_ge 33 dX0_isUnder_7 rfl rfl h (fun h => ?_) (fun h => ?_)
  · refine wm_up h hP (fun r h hP => ?_)
    refine wp_iconst (0 : Int32) dX0_isUnder_33 ic_0 rfl ?_
    exact wm_zret dX0_isUnder_34 rfl ⟨rfl, rfl⟩ h hP
  · refine wp_iload_n dX0_isUnder_10 rfl rfl ?_
    refine wm_if_lt 33 dX0_isUnder_11 rfl rfl h (fun h => ?_) (fun h => ?_)
    · refine wm_up h hP (fun r h hP => ?_)
      refine wp_iconst (0 : Int32) dX0_isUnder_33 ic_0 rfl ?_
      exact wm_zret dX0_isUnder_34 rfl ⟨rfl, rfl⟩ h hP
    · refine wp_iload_n dX0_isUnder_14 rfl rfl ?_
      refine wp_iload_n dX0_isUnder_15 rfl rfl ?_
      refine wm_icmp_ne 21 dX0_isUnder_16 rfl rfl h (fun h => ?_) (fun h => ?_)
      · refine wp_gets (j := 4) dX0_isUnder_21 rfl q1081 rfl ?_
        refine wp_iload_n dX0_isUnder_24 rfl rfl ?_
        refine wm_ti (j := 4) (xs := st_4) dX0_isUnder_25 rfl rfl h (fun h => ?_)
        refine wm_nm h (fun y1 h => ?_)
        refine wp_istore_n (L' := [none, some (.int s.1), some (.int y1), some (.int s.2.2.1)]) dX0_isUnder_26 (by decide) rfl rfl rfl ?_
        refine wm_inc dX0_isUnder_27 rfl ii_1 (by decide) rfl rfl h (fun y2 h => ?_)
        refine wm_list (L' := [none, some (.int s.1), some (.int y1), some (.int y2)]) rfl ?_
        refine wp_goto 4 dX0_isUnder_30 rfl ?_
        have hB := wm_back h hP
        exact wm_mask (L' := [none, some (.int s.1), some (.int y1), some (.int y2)]) [false, true, true, true] rfl (hB)
      · refine wm_up h hP (fun r h hP => ?_)
        refine wp_iconst (1 : Int32) dX0_isUnder_19 ic_1 rfl ?_
        exact wm_zret dX0_isUnder_20 rfl ⟨rfl, rfl⟩ h hP
noncomputable def f_X0_isUnder  (p1 : Int32) (p2 : Int32) (m : Mem) : Option (Int32 × Mem) := wh (f_X0_isUnder_L4) (p2, p1, (0 : Int32), m)
theorem k_X0_isUnder_E {g : Gx}  {p1 : Int32} {p2 : Int32} {Q : Qy} {m : Mem} {t : Int32 × Mem} (h : f_X0_isUnder p1 p2 m = some t) (hP : pI Q t) : WpM g 1 mi_X0_isUnder 0 [some (.int p1), some (.int p2), none, none] [] m (zM g mi_X0_isUnder Q) := by
  refine wp_iload_n dX0_isUnder_0 rfl rfl ?_
  refine wp_istore_n (L' := [some (.int p1), some (.int p2), some (.int p1), none]) dX0_isUnder_1 (by decide) rfl rfl rfl ?_
  refine wp_iconst (0 : Int32) dX0_isUnder_2 ic_0 rfl ?_
  refine wp_istore_n (L' := [some (.int p1), some (.int p2), some (.int p1), some (.int (0 : Int32))]) dX0_isUnder_3 (by decide) rfl rfl rfl ?_
  have hB := wh_ok (A := A_X0_isUnder_4 g Q) (B := pI Q) (fun s t h hP => k_X0_isUnder_L4  h hP) h hP
  exact wm_mask (L' := [none, some (.int p2), some (.int p1), some (.int (0 : Int32))]) [false, true, true, true] rfl (hB)
theorem o_X0_isUnder {g : Gx}  {p1 : Int32} {p2 : Int32} {m : Mem} {t : Int32 × Mem} (h : f_X0_isUnder p1 p2 m = some t) : MxM g 1 mi_X0_isUnder [.int p1, .int p2] m (qI t) := mx_of pn_X0 (Nat.le_of_ble_eq_true rfl) (k_X0_isUnder_E h ⟨rfl, rfl, rfl, rfl, rfl⟩)
noncomputable def f_X1_dropOldest   (m : Mem) : Option Mem := cpk (1 : Int32) (0 : Int32) (39 : Int32) 40 40 (bnd (cI m 20 (1 : Int32) 20 (0 : Int32) (39 : Int32)) (fun m1 => cpk (1 : Int32) (0 : Int32) (39 : Int32) 40 40 (bnd (cI m1 21 (1 : Int32) 21 (0 : Int32) (39 : Int32)) (fun m2 => cpk (1 : Int32) (0 : Int32) (39 : Int32) 40 40 (bnd (cI m2 22 (1 : Int32) 22 (0 : Int32) (39 : Int32)) (fun m3 => cpk (1 : Int32) (0 : Int32) (39 : Int32) 40 40 (bnd (cI m3 23 (1 : Int32) 23 (0 : Int32) (39 : Int32)) (fun m4 => bnd (sI m4 19 4 (39 : Int32)) (fun m5 => some m5)))))))))
theorem k_X1_dropOldest_E {g : Gx}   {Q : Qy} {m : Mem} {t : Mem} (h : f_X1_dropOldest m = some t) (hP : pV Q t) : WpM g 1 mi_X1_dropOldest 0 [some (.ref 19)] [] m (zM g mi_X1_dropOldest Q) := by
  refine wp_aload_n dX1_dropOldest_0 rfl rfl ?_
  refine wm_getR dX1_dropOldest_1 s_19 fk_X1_9 rfl r_19_0 rfl ?_
  refine wp_iconst (1 : Int32) dX1_dropOldest_4 ic_1 rfl ?_
  refine wp_aload_n dX1_dropOldest_5 rfl rfl ?_
  refine wm_getR dX1_dropOldest_6 s_19 fk_X1_9 rfl r_19_0 rfl ?_
  refine wp_iconst (0 : Int32) dX1_dropOldest_9 ic_0 rfl ?_
  refine wp_bipush (39 : Int32) dX1_dropOldest_10 ib_39 rfl ?_
  refine wm_copyI dX1_dropOldest_12 s_20 s_20 ok_X1_32 rfl h (by decide) (Nat.le_of_ble_eq_true rfl) (fun m1 h => ?_)
  refine wp_aload_n dX1_dropOldest_15 rfl rfl ?_
  refine wm_getR dX1_dropOldest_16 s_19 fk_X1_13 rfl r_19_1 rfl ?_
  refine wp_iconst (1 : Int32) dX1_dropOldest_19 ic_1 rfl ?_
  refine wp_aload_n dX1_dropOldest_20 rfl rfl ?_
  refine wm_getR dX1_dropOldest_21 s_19 fk_X1_13 rfl r_19_1 rfl ?_
  refine wp_iconst (0 : Int32) dX1_dropOldest_24 ic_0 rfl ?_
  refine wp_bipush (39 : Int32) dX1_dropOldest_25 ib_39 rfl ?_
  refine wm_copyI dX1_dropOldest_27 s_21 s_21 ok_X1_32 rfl h (by decide) (Nat.le_of_ble_eq_true rfl) (fun m2 h => ?_)
  refine wp_aload_n dX1_dropOldest_30 rfl rfl ?_
  refine wm_getR dX1_dropOldest_31 s_19 fk_X1_16 rfl r_19_2 rfl ?_
  refine wp_iconst (1 : Int32) dX1_dropOldest_34 ic_1 rfl ?_
  refine wp_aload_n dX1_dropOldest_35 rfl rfl ?_
  refine wm_getR dX1_dropOldest_36 s_19 fk_X1_16 rfl r_19_2 rfl ?_
  refine wp_iconst (0 : Int32) dX1_dropOldest_39 ic_0 rfl ?_
  refine wp_bipush (39 : Int32) dX1_dropOldest_40 ib_39 rfl ?_
  refine wm_copyI dX1_dropOldest_42 s_22 s_22 ok_X1_32 rfl h (by decide) (Nat.le_of_ble_eq_true rfl) (fun m3 h => ?_)
  refine wp_aload_n dX1_dropOldest_45 rfl rfl ?_
  refine wm_getR dX1_dropOldest_46 s_19 fk_X1_19 rfl r_19_3 rfl ?_
  refine wp_iconst (1 : Int32) dX1_dropOldest_49 ic_1 rfl ?_
  refine wp_aload_n dX1_dropOldest_50 rfl rfl ?_
  refine wm_getR dX1_dropOldest_51 s_19 fk_X1_19 rfl r_19_3 rfl ?_
  refine wp_iconst (0 : Int32) dX1_dropOldest_54 ic_0 rfl ?_
  refine wp_bipush (39 : Int32) dX1_dropOldest_55 ib_39 rfl ?_
  refine wm_copyI dX1_dropOldest_57 s_23 s_23 ok_X1_32 rfl h (by decide) (Nat.le_of_ble_eq_true rfl) (fun m4 h => ?_)
  refine wp_aload_n dX1_dropOldest_60 rfl rfl ?_
  refine wp_bipush (39 : Int32) dX1_dropOldest_61 ib_39 rfl ?_
  refine wm_putI dX1_dropOldest_63 s_19 fk_X1_22 rfl rfl h (fun m5 h => ?_)
  exact wm_vret dX1_dropOldest_66 rfl ⟨rfl, rfl⟩ h hP
theorem o_X1_dropOldest {g : Gx}   {m : Mem} {t : Mem} (h : f_X1_dropOldest m = some t) : MxM g 1 mi_X1_dropOldest [.ref 19] m (qV t) := mx_of pn_X1 (Nat.le_of_ble_eq_true rfl) (k_X1_dropOldest_E h ⟨rfl, rfl, rfl, rfl, rfl⟩)
noncomputable def f_X1_goBack   (m : Mem) : Option (Int32 × Mem) := if ¬ (gI m 19 4) = 0 then bnd (sI m 19 4 ((gI m 19 4) - (1 : Int32))) (fun m1 => bz (1 : Int32) (some ((1 : Int32), m1))) else bz (0 : Int32) (some ((0 : Int32), m))
theorem k_X1_goBack_E {g : Gx}   {Q : Qy} {m : Mem} {t : Int32 × Mem} (h : f_X1_goBack m = some t) (hP : pI Q t) : WpM g 1 mi_X1_goBack 0 [some (.ref 19)] [] m (zM g mi_X1_goBack Q) := by
  refine wp_aload_n dX1_goBack_0 rfl rfl ?_
  refine wm_getI dX1_goBack_1 s_19 fk_X1_22 rfl rfl ?_
  refine wm_if_ne 9 dX1_goBack_4 rfl rfl h (fun h => ?_) (fun h => ?_)
  · refine wp_aload_n dX1_goBack_9 rfl rfl ?_
    refine wp_dup dX1_goBack_10 rfl rfl ?_
    refine wm_getI dX1_goBack_11 s_19 fk_X1_22 rfl rfl ?_
    refine wp_iconst (1 : Int32) dX1_goBack_14 ic_1 rfl ?_
    refine wp_isub dX1_goBack_15 rfl ?_
    refine wm_putI dX1_goBack_16 s_19 fk_X1_22 rfl rfl h (fun m1 h => ?_)
    refine wp_iconst (1 : Int32) dX1_goBack_19 ic_1 rfl ?_
    exact wm_zret dX1_goBack_20 rfl ⟨rfl, rfl⟩ h hP
  · refine wp_iconst (0 : Int32) dX1_goBack_7 ic_0 rfl ?_
    exact wm_zret dX1_goBack_8 rfl ⟨rfl, rfl⟩ h hP
theorem o_X1_goBack {g : Gx}   {m : Mem} {t : Int32 × Mem} (h : f_X1_goBack m = some t) : MxM g 1 mi_X1_goBack [.ref 19] m (qI t) := mx_of pn_X1 (Nat.le_of_ble_eq_true rfl) (k_X1_goBack_E h ⟨rfl, rfl, rfl, rfl, rfl⟩)
noncomputable def f_X1_goOn   (m : Mem) : Option (Int32 × Mem) := if (gI m 19 4) < (gI m 19 5) then bnd (sI m 19 4 ((gI m 19 4) + (1 : Int32))) (fun m1 => bz (1 : Int32) (some ((1 : Int32), m1))) else bz (0 : Int32) (some ((0 : Int32), m))
theorem k_X1_goOn_E {g : Gx}   {Q : Qy} {m : Mem} {t : Int32 × Mem} (h : f_X1_goOn m = some t) (hP : pI Q t) : WpM g 1 mi_X1_goOn 0 [some (.ref 19)] [] m (zM g mi_X1_goOn Q) := by
  refine wp_aload_n dX1_goOn_0 rfl rfl ?_
  refine wm_getI dX1_goOn_1 s_19 fk_X1_22 rfl rfl ?_
  refine wp_aload_n dX1_goOn_4 rfl rfl ?_
  refine wm_getI dX1_goOn_5 s_19 fk_X1_29 rfl rfl ?_
  refine wm_icmp_lt 13 dX1_goOn_8 rfl rfl h (fun h => ?_) (fun h => ?_)
  · refine wp_aload_n dX1_goOn_13 rfl rfl ?_
    refine wp_dup dX1_goOn_14 rfl rfl ?_
    refine wm_getI dX1_goOn_15 s_19 fk_X1_22 rfl rfl ?_
    refine wp_iconst (1 : Int32) dX1_goOn_18 ic_1 rfl ?_
    refine wp_iadd dX1_goOn_19 rfl ?_
    refine wm_putI dX1_goOn_20 s_19 fk_X1_22 rfl rfl h (fun m1 h => ?_)
    refine wp_iconst (1 : Int32) dX1_goOn_23 ic_1 rfl ?_
    exact wm_zret dX1_goOn_24 rfl ⟨rfl, rfl⟩ h hP
  · refine wp_iconst (0 : Int32) dX1_goOn_11 ic_0 rfl ?_
    exact wm_zret dX1_goOn_12 rfl ⟨rfl, rfl⟩ h hP
theorem o_X1_goOn {g : Gx}   {m : Mem} {t : Int32 × Mem} (h : f_X1_goOn m = some t) : MxM g 1 mi_X1_goOn [.ref 19] m (qI t) := mx_of pn_X1 (Nat.le_of_ble_eq_true rfl) (k_X1_goOn_E h ⟨rfl, rfl, rfl, rfl, rfl⟩)
noncomputable def f_X1_note_J13  (v1 : Int32) (v2 : Int32) (v3 : Int32) (v4 : Int32) (m : Mem) : Option Mem := ck (gI m 19 4) 40 (bnd (sI m 20 (ix (gI m 19 4)) v1) (fun m1 => ck (gI m1 19 4) 40 (bnd (sI m1 21 (ix (gI m1 19 4)) v2) (fun m2 => ck (gI m2 19 4) 40 (bnd (sI m2 22 (ix (gI m2 19 4)) v3) (fun m3 => ck (gI m3 19 4) 40 (bnd (sI m3 23 (ix (gI m3 19 4)) v4) (fun m4 => bnd (sI m4 19 4 ((gI m4 19 4) + (1 : Int32))) (fun m5 => bnd (sI m5 19 5 (gI m5 19 4)) (fun m6 => some m6))))))))))
theorem k_X1_note_J13 {g : Gx}  {v1 : Int32} {v2 : Int32} {v3 : Int32} {v4 : Int32}  {Q : Qy} {m : Mem} {t : Mem} (h : f_X1_note_J13 v1 v2 v3 v4 m = some t) (hP : pV Q t) : WpM g 2 mi_X1_note 13 [some (.ref 19), some (.int v1), some (.int v2), some (.int v3), some (.int v4)] [] m (zM g mi_X1_note Q) := by
  refine wp_aload_n dX1_note_13 rfl rfl ?_
  refine wm_getR dX1_note_14 s_19 fk_X1_9 rfl r_19_0 rfl ?_
  refine wp_aload_n dX1_note_17 rfl rfl ?_
  refine wm_getI dX1_note_18 s_19 fk_X1_22 rfl rfl ?_
  refine wp_iload_n dX1_note_21 rfl rfl ?_
  refine wm_iast dX1_note_22 s_20 rfl h (fun m1 h => ?_)
  refine wp_aload_n dX1_note_23 rfl rfl ?_
  refine wm_getR dX1_note_24 s_19 fk_X1_13 rfl r_19_1 rfl ?_
  refine wp_aload_n dX1_note_27 rfl rfl ?_
  refine wm_getI dX1_note_28 s_19 fk_X1_22 rfl rfl ?_
  refine wp_iload_n dX1_note_31 rfl rfl ?_
  refine wm_iast dX1_note_32 s_21 rfl h (fun m2 h => ?_)
  refine wp_aload_n dX1_note_33 rfl rfl ?_
  refine wm_getR dX1_note_34 s_19 fk_X1_16 rfl r_19_2 rfl ?_
  refine wp_aload_n dX1_note_37 rfl rfl ?_
  refine wm_getI dX1_note_38 s_19 fk_X1_22 rfl rfl ?_
  refine wp_iload_n dX1_note_41 rfl rfl ?_
  refine wm_iast dX1_note_42 s_22 rfl h (fun m3 h => ?_)
  refine wp_aload_n dX1_note_43 rfl rfl ?_
  refine wm_getR dX1_note_44 s_19 fk_X1_19 rfl r_19_3 rfl ?_
  refine wp_aload_n dX1_note_47 rfl rfl ?_
  refine wm_getI dX1_note_48 s_19 fk_X1_22 rfl rfl ?_
  refine wp_iload dX1_note_51 rfl rfl ?_
  refine wm_iast dX1_note_53 s_23 rfl h (fun m4 h => ?_)
  refine wp_aload_n dX1_note_54 rfl rfl ?_
  refine wp_dup dX1_note_55 rfl rfl ?_
  refine wm_getI dX1_note_56 s_19 fk_X1_22 rfl rfl ?_
  refine wp_iconst (1 : Int32) dX1_note_59 ic_1 rfl ?_
  refine wp_iadd dX1_note_60 rfl ?_
  refine wm_putI dX1_note_61 s_19 fk_X1_22 rfl rfl h (fun m5 h => ?_)
  refine wp_aload_n dX1_note_64 rfl rfl ?_
  refine wp_aload_n dX1_note_65 rfl rfl ?_
  refine wm_getI dX1_note_66 s_19 fk_X1_22 rfl rfl ?_
  refine wm_putI dX1_note_69 s_19 fk_X1_29 rfl rfl h (fun m6 h => ?_)
  exact wm_vret dX1_note_72 rfl ⟨rfl, rfl⟩ h hP
noncomputable def f_X1_note  (p1 : Int32) (p2 : Int32) (p3 : Int32) (p4 : Int32) (m : Mem) : Option Mem := if (gI m 19 4) < (40 : Int32) then f_X1_note_J13 p1 p2 p3 p4 m else (f_X1_dropOldest m).bind (fun q7 => f_X1_note_J13 p1 p2 p3 p4 q7)
theorem k_X1_note_E {g : Gx}  {p1 : Int32} {p2 : Int32} {p3 : Int32} {p4 : Int32} {Q : Qy} {m : Mem} {t : Mem} (h : f_X1_note p1 p2 p3 p4 m = some t) (hP : pV Q t) : WpM g 2 mi_X1_note 0 [some (.ref 19), some (.int p1), some (.int p2), some (.int p3), some (.int p4)] [] m (zM g mi_X1_note Q) := by
  refine wp_aload_n dX1_note_0 rfl rfl ?_
  refine wm_getI dX1_note_1 s_19 fk_X1_22 rfl rfl ?_
  refine wp_bipush (40 : Int32) dX1_note_4 ib_40 rfl ?_
  refine wm_icmp_lt 13 dX1_note_6 rfl rfl h (fun h => ?_) (fun h => ?_)
  · exact wm_mask (L' := [some (.ref 19), some (.int p1), some (.int p2), some (.int p3), some (.int p4)]) [true, true, true, true, true] rfl (k_X1_note_J13  h hP)
  · refine wp_aload_n dX1_note_9 rfl rfl ?_
    refine wm_callVN (As := []) (rest := []) dX1_note_10 ok_X1_26 (by decide) rfl s_19 ⟨_, rfl⟩ (Nat.le_of_ble_eq_true rfl) ⟨rfl, rfl⟩ rfl (fun t h => o_X1_dropOldest h) h (fun q7 h => ?_)
    exact wm_mask (L' := [some (.ref 19), some (.int p1), some (.int p2), some (.int p3), some (.int p4)]) [true, true, true, true, true] rfl (k_X1_note_J13  h hP)
theorem o_X1_note {g : Gx}  {p1 : Int32} {p2 : Int32} {p3 : Int32} {p4 : Int32} {m : Mem} {t : Mem} (h : f_X1_note p1 p2 p3 p4 m = some t) : MxM g 2 mi_X1_note [.ref 19, .int p1, .int p2, .int p3, .int p4] m (qV t) := mx_of pn_X1 (Nat.le_of_ble_eq_true rfl) (k_X1_note_E h ⟨rfl, rfl, rfl, rfl, rfl⟩)
noncomputable def f_X2_bit  (p1 : Int32) (m : Mem) : Option (Int32 × Mem) := if p1 = 0 then some ((0 : Int32), m) else some ((1 : Int32), m)
theorem k_X2_bit_E {g : Gx}  {p1 : Int32} {Q : Qy} {m : Mem} {t : Int32 × Mem} (h : f_X2_bit p1 m = some t) (hP : pI Q t) : WpM g 1 mi_X2_bit 0 [some (.int p1)] [] m (zM g mi_X2_bit Q) := by
  refine wp_iload_n dX2_bit_0 rfl rfl ?_
  refine wm_if_eq 8 dX2_bit_1 rfl rfl h (fun h => ?_) (fun h => ?_)
  · refine wp_iconst (0 : Int32) dX2_bit_8 ic_0 rfl ?_
    exact wm_iret dX2_bit_9 rfl ⟨rfl, rfl⟩ h hP
  · refine wp_iconst (1 : Int32) dX2_bit_4 ic_1 rfl ?_
    refine wp_goto 9 dX2_bit_5 rfl ?_
    exact wm_iret dX2_bit_9 rfl ⟨rfl, rfl⟩ h hP
theorem o_X2_bit {g : Gx}  {p1 : Int32} {m : Mem} {t : Int32 × Mem} (h : f_X2_bit p1 m = some t) : MxM g 1 mi_X2_bit [.int p1] m (qI t) := mx_of pn_X2 (Nat.le_of_ble_eq_true rfl) (k_X2_bit_E h ⟨rfl, rfl, rfl, rfl, rfl⟩)
noncomputable def f_X2_emit  (p1 : Int32) (m : Mem) : Option Mem := if (128 : Int32) ≤ (gI m 14 6) then some m else ck (gI m 14 6) 128 (bnd (sI m (cD m.2.2) (ix (gI m 14 6)) p1) (fun m1 => bnd (sI m1 14 6 ((gI m1 14 6) + (1 : Int32))) (fun m2 => some m2)))
theorem k_X2_emit_E {g : Gx}  {p1 : Int32} {Q : Qy} {m : Mem} {t : Mem} (h : f_X2_emit p1 m = some t) (hP : pV Q t) : WpM g 1 mi_X2_emit 0 [some (.ref 14), some (.int p1)] [] m (zM g mi_X2_emit Q) := by
  refine wp_aload_n dX2_emit_0 rfl rfl ?_
  refine wm_getI dX2_emit_1 s_14 fk_X2_32 rfl rfl ?_
  refine wp_sipush (128 : Int32) dX2_emit_4 is_128 rfl ?_
  refine wm_icmp_ge 30 dX2_emit_7 rfl rfl h (fun h => ?_) (fun h => ?_)
  · exact wm_vret dX2_emit_30 rfl ⟨rfl, rfl⟩ h hP
  · refine wp_aload_n dX2_emit_10 rfl rfl ?_
    refine wm_getC dX2_emit_11 s_14 fk_X2_19 rfl r_14_4 rfl ?_
    refine wp_aload_n dX2_emit_14 rfl rfl ?_
    refine wm_getI dX2_emit_15 s_14 fk_X2_32 rfl rfl ?_
    refine wp_iload_n dX2_emit_18 rfl rfl ?_
    refine wm_iast dX2_emit_19 (s_cD m.2.2) rfl h (fun m1 h => ?_)
    refine wp_aload_n dX2_emit_20 rfl rfl ?_
    refine wp_dup dX2_emit_21 rfl rfl ?_
    refine wm_getI dX2_emit_22 s_14 fk_X2_32 rfl rfl ?_
    refine wp_iconst (1 : Int32) dX2_emit_25 ic_1 rfl ?_
    refine wp_iadd dX2_emit_26 rfl ?_
    refine wm_putI dX2_emit_27 s_14 fk_X2_32 rfl rfl h (fun m2 h => ?_)
    exact wm_vret dX2_emit_30 rfl ⟨rfl, rfl⟩ h hP
theorem o_X2_emit {g : Gx}  {p1 : Int32} {m : Mem} {t : Mem} (h : f_X2_emit p1 m = some t) : MxM g 1 mi_X2_emit [.ref 14, .int p1] m (qV t) := mx_of pn_X2 (Nat.le_of_ble_eq_true rfl) (k_X2_emit_E h ⟨rfl, rfl, rfl, rfl, rfl⟩)
noncomputable def f_X2_next   (m : Mem) : Option (Int32 × Mem) := if (gI m 14 2) ≤ (gI m 14 7) then some ((-1 : Int32), m) else if (120 : Int32) ≤ (gI m 14 7) then some ((-1 : Int32), m) else ck (gI m 14 7) 120 (some ((gI m 15 (ix (gI m 14 7))), m))
theorem k_X2_next_E {g : Gx}   {Q : Qy} {m : Mem} {t : Int32 × Mem} (h : f_X2_next m = some t) (hP : pI Q t) : WpM g 1 mi_X2_next 0 [some (.ref 14)] [] m (zM g mi_X2_next Q) := by
  refine wp_aload_n dX2_next_0 rfl rfl ?_
  refine wm_getI dX2_next_1 s_14 fk_X2_26 rfl rfl ?_
  refine wp_aload_n dX2_next_4 rfl rfl ?_
  refine wm_getI dX2_next_5 s_14 fk_X2_22 rfl rfl ?_
  refine wm_icmp_ge 32 dX2_next_8 rfl rfl h (fun h => ?_) (fun h => ?_)
  · refine wp_iconst (-1 : Int32) dX2_next_32 ic_m1 rfl ?_
    exact wm_iret dX2_next_33 rfl ⟨rfl, rfl⟩ h hP
  · refine wp_aload_n dX2_next_11 rfl rfl ?_
    refine wm_getI dX2_next_12 s_14 fk_X2_26 rfl rfl ?_
    refine wp_bipush (120 : Int32) dX2_next_15 ib_120 rfl ?_
    refine wm_icmp_ge 32 dX2_next_17 rfl rfl h (fun h => ?_) (fun h => ?_)
    · refine wp_iconst (-1 : Int32) dX2_next_32 ic_m1 rfl ?_
      exact wm_iret dX2_next_33 rfl ⟨rfl, rfl⟩ h hP
    · refine wp_aload_n dX2_next_20 rfl rfl ?_
      refine wm_getR dX2_next_21 s_14 fk_X2_9 rfl r_14_0 rfl ?_
      refine wp_aload_n dX2_next_24 rfl rfl ?_
      refine wm_getI dX2_next_25 s_14 fk_X2_26 rfl rfl ?_
      refine wm_iald dX2_next_28 s_15 rfl h (fun h => ?_)
      refine wp_goto 33 dX2_next_29 rfl ?_
      exact wm_iret dX2_next_33 rfl ⟨rfl, rfl⟩ h hP
theorem o_X2_next {g : Gx}   {m : Mem} {t : Int32 × Mem} (h : f_X2_next m = some t) : MxM g 1 mi_X2_next [.ref 14] m (qI t) := mx_of pn_X2 (Nat.le_of_ble_eq_true rfl) (k_X2_next_E h ⟨rfl, rfl, rfl, rfl, rfl⟩)
noncomputable def f_X2_isDigit  (p1 : Int32) (m : Mem) : Option (Int32 × Mem) := if p1 < (48 : Int32) then bz (0 : Int32) (some ((0 : Int32), m)) else if (57 : Int32) < p1 then bz (0 : Int32) (some ((0 : Int32), m)) else bz (1 : Int32) (some ((1 : Int32), m))
theorem k_X2_isDigit_E {g : Gx}  {p1 : Int32} {Q : Qy} {m : Mem} {t : Int32 × Mem} (h : f_X2_isDigit p1 m = some t) (hP : pI Q t) : WpM g 1 mi_X2_isDigit 0 [some (.int p1)] [] m (zM g mi_X2_isDigit Q) := by
  refine wp_iload_n dX2_isDigit_0 rfl rfl ?_
  refine wp_bipush (48 : Int32) dX2_isDigit_1 ib_48 rfl ?_
  refine wm_icmp_lt 16 dX2_isDigit_3 rfl rfl h (fun h => ?_) (fun h => ?_)
  · refine wp_iconst (0 : Int32) dX2_isDigit_16 ic_0 rfl ?_
    exact wm_zret dX2_isDigit_17 rfl ⟨rfl, rfl⟩ h hP
  · refine wp_iload_n dX2_isDigit_6 rfl rfl ?_
    refine wp_bipush (57 : Int32) dX2_isDigit_7 ib_57 rfl ?_
    refine wm_icmp_gt 16 dX2_isDigit_9 rfl rfl h (fun h => ?_) (fun h => ?_)
    · refine wp_iconst (0 : Int32) dX2_isDigit_16 ic_0 rfl ?_
      exact wm_zret dX2_isDigit_17 rfl ⟨rfl, rfl⟩ h hP
    · refine wp_iconst (1 : Int32) dX2_isDigit_12 ic_1 rfl ?_
      refine wp_goto 17 dX2_isDigit_13 rfl ?_
      exact wm_zret dX2_isDigit_17 rfl ⟨rfl, rfl⟩ h hP
theorem o_X2_isDigit {g : Gx}  {p1 : Int32} {m : Mem} {t : Int32 × Mem} (h : f_X2_isDigit p1 m = some t) : MxM g 1 mi_X2_isDigit [.int p1] m (qI t) := mx_of pn_X2 (Nat.le_of_ble_eq_true rfl) (k_X2_isDigit_E h ⟨rfl, rfl, rfl, rfl, rfl⟩)
abbrev A_X2_readNumber_4 (g : Gx)  (Q : Qy) (s : Int32 × Int32 × Mem) : Prop := WpM g 2 mi_X2_readNumber 4 [some (.ref 14), some (.int s.1), some (.int s.2.1)] [] s.2.2 (zM g mi_X2_readNumber Q)
abbrev P_X2_readNumber_4 (g : Gx)  (Q : Qy) : ((Int32 × Int32 × Mem) ⊕ Mem) → Prop := pS (A_X2_readNumber_4 g Q) (pV Q)
noncomputable def f_X2_readNumber_L4  (s : Int32 × Int32 × Mem) : Option ((Int32 × Int32 × Mem) ⊕ Mem) := if (4 : Int32) ≤ s.2.1 then up ((f_X2_emit s.1 s.2.2).bind (fun q1 => some q1)) else (f_X2_next s.2.2).bind (fun q2 => (f_X2_isDigit q2.1 q2.2).bind (fun q3 => if q3.1 = 0 then up ((f_X2_emit s.1 q3.2).bind (fun q4 => some q4)) else (f_X2_next q3.2).bind (fun q5 => bnd (((s.1 * (10 : Int32)) + q5.1) - (48 : Int32)) (fun y6 => bnd (sI q5.2 14 7 ((gI q5.2 14 7) + (1 : Int32))) (fun m7 => bnd (s.2.1 + (1 : Int32)) (fun y8 => some (Sum.inl (y6, y8, m7))))))))
theorem k_X2_readNumber_L4 {g : Gx}  {Q : Qy} {s : Int32 × Int32 × Mem} {t : (Int32 × Int32 × Mem) ⊕ Mem} (h : f_X2_readNumber_L4 s = some t) (hP : P_X2_readNumber_4 g Q t) : A_X2_readNumber_4 g Q s := by
  refine wp_iload_n dX2_readNumber_4 rfl rfl ?_
  refine wp_iconst (4 : Int32) dX2_readNumber_5 ic_4 rfl ?_
  refine wm_icmp_ge 48 dX2_readNumber_6 rfl rfl h (fun h => ?_) (fun h => ?_)
  · refine wm_up h hP (fun r h hP => ?_)
    refine wp_aload_n dX2_readNumber_48 rfl rfl ?_
    refine wp_iload_n dX2_readNumber_49 rfl rfl ?_
    refine wm_callVN (As := [.int s.1]) (rest := []) dX2_readNumber_50 ok_X2_52 (by decide) rfl s_14 ⟨_, rfl⟩ (Nat.le_of_ble_eq_true rfl) ⟨rfl, rfl⟩ rfl (fun t h => o_X2_emit h) h (fun q1 h => ?_)
    exact wm_vret dX2_readNumber_53 rfl ⟨rfl, rfl⟩ h hP
  · refine wp_aload_n dX2_readNumber_9 rfl rfl ?_
    refine wm_callVI (As := []) (rest := []) dX2_readNumber_10 ok_X2_38 (by decide) rfl s_14 ⟨_, rfl⟩ (Nat.le_of_ble_eq_true rfl) ⟨rfl, rfl⟩ rfl (fun t h => o_X2_next h) h (fun q2 h => ?_)
    refine wm_callSI (As := [.int q2.1]) (rest := []) dX2_readNumber_13 ok_X2_78 (by decide) rfl (Nat.le_of_ble_eq_true rfl) ⟨rfl, rfl⟩ rfl (fun t h => o_X2_isDigit h) h (fun q3 h => ?_)
    refine wm_if_eq 48 dX2_readNumber_16 rfl rfl h (fun h => ?_) (fun h => ?_)
    · refine wm_up h hP (fun r h hP => ?_)
      refine wp_aload_n dX2_readNumber_48 rfl rfl ?_
      refine wp_iload_n dX2_readNumber_49 rfl rfl ?_
      refine wm_callVN (As := [.int s.1]) (rest := []) dX2_readNumber_50 ok_X2_52 (by decide) rfl s_14 ⟨_, rfl⟩ (Nat.le_of_ble_eq_true rfl) ⟨rfl, rfl⟩ rfl (fun t h => o_X2_emit h) h (fun q4 h => ?_)
      exact wm_vret dX2_readNumber_53 rfl ⟨rfl, rfl⟩ h hP
    · refine wp_iload_n dX2_readNumber_19 rfl rfl ?_
      refine wp_bipush (10 : Int32) dX2_readNumber_20 ib_10 rfl ?_
      refine wp_imul dX2_readNumber_22 rfl ?_
      refine wp_aload_n dX2_readNumber_23 rfl rfl ?_
      refine wm_callVI (As := []) (rest := [.int (s.1 * (10 : Int32))]) dX2_readNumber_24 ok_X2_38 (by decide) rfl s_14 ⟨_, rfl⟩ (Nat.le_of_ble_eq_true rfl) ⟨rfl, rfl⟩ rfl (fun t h => o_X2_next h) h (fun q5 h => ?_)
      refine wp_iadd dX2_readNumber_27 rfl ?_
      refine wp_bipush (48 : Int32) dX2_readNumber_28 ib_48 rfl ?_
      refine wp_isub dX2_readNumber_30 rfl ?_
      refine wm_nm h (fun y6 h => ?_)
      refine wp_istore_n (L' := [some (.ref 14), some (.int y6), some (.int s.2.1)]) dX2_readNumber_31 (by decide) rfl rfl rfl ?_
      refine wp_aload_n dX2_readNumber_32 rfl rfl ?_
      refine wp_dup dX2_readNumber_33 rfl rfl ?_
      refine wm_getI dX2_readNumber_34 s_14 fk_X2_26 rfl rfl ?_
      refine wp_iconst (1 : Int32) dX2_readNumber_37 ic_1 rfl ?_
      refine wp_iadd dX2_readNumber_38 rfl ?_
      refine wm_putI dX2_readNumber_39 s_14 fk_X2_26 rfl rfl h (fun m7 h => ?_)
      refine wm_inc dX2_readNumber_42 rfl ii_1 (by decide) rfl rfl h (fun y8 h => ?_)
      refine wm_list (L' := [some (.ref 14), some (.int y6), some (.int y8)]) rfl ?_
      refine wp_goto 4 dX2_readNumber_45 rfl ?_
      have hB := wm_back h hP
      exact wm_mask (L' := [some (.ref 14), some (.int y6), some (.int y8)]) [true, true, true] rfl (hB)
noncomputable def f_X2_readNumber   (m : Mem) : Option Mem := wh (f_X2_readNumber_L4) ((0 : Int32), (0 : Int32), m)
theorem k_X2_readNumber_E {g : Gx}   {Q : Qy} {m : Mem} {t : Mem} (h : f_X2_readNumber m = some t) (hP : pV Q t) : WpM g 2 mi_X2_readNumber 0 [some (.ref 14), none, none] [] m (zM g mi_X2_readNumber Q) := by
  refine wp_iconst (0 : Int32) dX2_readNumber_0 ic_0 rfl ?_
  refine wp_istore_n (L' := [some (.ref 14), some (.int (0 : Int32)), none]) dX2_readNumber_1 (by decide) rfl rfl rfl ?_
  refine wp_iconst (0 : Int32) dX2_readNumber_2 ic_0 rfl ?_
  refine wp_istore_n (L' := [some (.ref 14), some (.int (0 : Int32)), some (.int (0 : Int32))]) dX2_readNumber_3 (by decide) rfl rfl rfl ?_
  have hB := wh_ok (A := A_X2_readNumber_4 g Q) (B := pV Q) (fun s t h hP => k_X2_readNumber_L4  h hP) h hP
  exact wm_mask (L' := [some (.ref 14), some (.int (0 : Int32)), some (.int (0 : Int32))]) [true, true, true] rfl (hB)
theorem o_X2_readNumber {g : Gx}   {m : Mem} {t : Mem} (h : f_X2_readNumber m = some t) : MxM g 2 mi_X2_readNumber [.ref 14] m (qV t) := mx_of pn_X2 (Nat.le_of_ble_eq_true rfl) (k_X2_readNumber_E h ⟨rfl, rfl, rfl, rfl, rfl⟩)
noncomputable def f_X2_refuse   (m : Mem) : Option Mem := if 0 ≤ (gI m 14 8) then some m else bnd (sI m 14 8 (gI m 14 7)) (fun m1 => some m1)
theorem k_X2_refuse_E {g : Gx}   {Q : Qy} {m : Mem} {t : Mem} (h : f_X2_refuse m = some t) (hP : pV Q t) : WpM g 1 mi_X2_refuse 0 [some (.ref 14)] [] m (zM g mi_X2_refuse Q) := by
  refine wp_aload_n dX2_refuse_0 rfl rfl ?_
  refine wm_getI dX2_refuse_1 s_14 fk_X2_29 rfl rfl ?_
  refine wm_if_ge 15 dX2_refuse_4 rfl rfl h (fun h => ?_) (fun h => ?_)
  · exact wm_vret dX2_refuse_15 rfl ⟨rfl, rfl⟩ h hP
  · refine wp_aload_n dX2_refuse_7 rfl rfl ?_
    refine wp_aload_n dX2_refuse_8 rfl rfl ?_
    refine wm_getI dX2_refuse_9 s_14 fk_X2_26 rfl rfl ?_
    refine wm_putI dX2_refuse_12 s_14 fk_X2_29 rfl rfl h (fun m1 h => ?_)
    exact wm_vret dX2_refuse_15 rfl ⟨rfl, rfl⟩ h hP
theorem o_X2_refuse {g : Gx}   {m : Mem} {t : Mem} (h : f_X2_refuse m = some t) : MxM g 1 mi_X2_refuse [.ref 14] m (qV t) := mx_of pn_X2 (Nat.le_of_ble_eq_true rfl) (k_X2_refuse_E h ⟨rfl, rfl, rfl, rfl, rfl⟩)
noncomputable def f_X2_readOperand_J85 (rc : Int32 → Int32 → Mem → Option Mem) (v1 : Int32) (v2 : Int32) (m : Mem) : Option Mem := bnd (sI m 14 7 ((gI m 14 7) + (1 : Int32))) (fun m4 => (rc v2 (v1 + (1 : Int32)) m4).bind (fun q5 => some q5))
theorem k_X2_readOperand_J85 {g : Gx} {d0 : Nat} {rc : Int32 → Int32 → Mem → Option Mem} (hrc : ∀ p1 p2 m t, rc p1 p2 m = some t → MxM g d0 mi_X2_readOpened [.ref 14, .int p1, .int p2] m (qV t)) {v1 : Int32} {v2 : Int32}  {Q : Qy} {m : Mem} {t : Mem} (h : f_X2_readOperand_J85 rc v1 v2 m = some t) (hP : pV Q t) : WpM g (d0 + 11) mi_X2_readOperand 85 [some (.ref 14), some (.int v1), some (.int v2), none] [] m (zM g mi_X2_readOperand Q) := by
  refine wp_aload_n dX2_readOperand_85 rfl rfl ?_
  refine wp_dup dX2_readOperand_86 rfl rfl ?_
  refine wm_getI dX2_readOperand_87 s_14 fk_X2_26 rfl rfl ?_
  refine wp_iconst (1 : Int32) dX2_readOperand_90 ic_1 rfl ?_
  refine wp_iadd dX2_readOperand_91 rfl ?_
  refine wm_putI dX2_readOperand_92 s_14 fk_X2_26 rfl rfl h (fun m4 h => ?_)
  refine wp_aload_n dX2_readOperand_95 rfl rfl ?_
  refine wp_iload_n dX2_readOperand_96 rfl rfl ?_
  refine wp_iload_n dX2_readOperand_97 rfl rfl ?_
  refine wp_iconst (1 : Int32) dX2_readOperand_98 ic_1 rfl ?_
  refine wp_iadd dX2_readOperand_99 rfl ?_
  refine wm_callVN (As := [.int v2, .int (v1 + (1 : Int32))]) (rest := []) dX2_readOperand_100 ok_X2_85 (by omega) rfl s_14 ⟨_, rfl⟩ (Nat.le_of_ble_eq_true rfl) ⟨rfl, rfl⟩ rfl (hrc _ _ _) h (fun q5 h => ?_)
  refine wp_goto 110 dX2_readOperand_103 rfl ?_
  exact wm_vret dX2_readOperand_110 rfl ⟨rfl, rfl⟩ h hP
noncomputable def f_X2_readOperand_J20 (rc : Int32 → Int32 → Mem → Option Mem) (v1 : Int32) (v2 : Int32) (t0 : Int32) (m : Mem) : Option Mem := (f_X2_isDigit v2 m).bind (fun q2 => if q2.1 = 0 then if t0 < 0 then if (6 : Int32) ≤ v1 then (f_X2_refuse q2.2).bind (fun q3 => some q3) else if v2 = (40 : Int32) then f_X2_readOperand_J85 rc v1 v2 q2.2 else if v2 = (33 : Int32) then f_X2_readOperand_J85 rc v1 v2 q2.2 else if ¬ v2 = (45 : Int32) then (f_X2_refuse q2.2).bind (fun q6 => some q6) else f_X2_readOperand_J85 rc v1 v2 q2.2 else bnd (sI q2.2 14 7 ((gI q2.2 14 7) + (1 : Int32))) (fun m7 => (f_X2_emit ((10000 : Int32) + t0) m7).bind (fun q8 => some q8)) else (f_X2_readNumber q2.2).bind (fun q9 => some q9))
theorem k_X2_readOperand_J20 {g : Gx} {d0 : Nat} {rc : Int32 → Int32 → Mem → Option Mem} (hrc : ∀ p1 p2 m t, rc p1 p2 m = some t → MxM g d0 mi_X2_readOpened [.ref 14, .int p1, .int p2] m (qV t)) {v1 : Int32} {v2 : Int32} {t0 : Int32}  {Q : Qy} {m : Mem} {t : Mem} (h : f_X2_readOperand_J20 rc v1 v2 t0 m = some t) (hP : pV Q t) : WpM g (d0 + 11) mi_X2_readOperand 20 [some (.ref 14), some (.int v1), some (.int v2), none] [.int t0] m (zM g mi_X2_readOperand Q) := by
  refine wp_istore_n (L' := [some (.ref 14), some (.int v1), some (.int v2), some (.int t0)]) dX2_readOperand_20 (by decide) rfl rfl rfl ?_
  refine wp_iload_n dX2_readOperand_21 rfl rfl ?_
  refine wm_callSI (As := [.int v2]) (rest := []) dX2_readOperand_22 ok_X2_78 (by omega) rfl (Nat.le_of_ble_eq_true rfl) ⟨rfl, rfl⟩ rfl (fun t h => o_X2_isDigit h) h (fun q2 h => ?_)
  refine wm_if_eq 35 dX2_readOperand_25 rfl rfl h (fun h => ?_) (fun h => ?_)
  · refine wp_iload_n dX2_readOperand_35 rfl rfl ?_
    refine wm_if_lt 61 dX2_readOperand_36 rfl rfl h (fun h => ?_) (fun h => ?_)
    · refine wp_iload_n dX2_readOperand_61 rfl rfl ?_
      refine wp_bipush (6 : Int32) dX2_readOperand_62 ib_6 rfl ?_
      refine wm_icmp_ge 106 dX2_readOperand_64 rfl rfl h (fun h => ?_) (fun h => ?_)
      · refine wp_aload_n dX2_readOperand_106 rfl rfl ?_
        refine wm_callVN (As := []) (rest := []) dX2_readOperand_107 ok_X2_42 (by omega) rfl s_14 ⟨_, rfl⟩ (Nat.le_of_ble_eq_true rfl) ⟨rfl, rfl⟩ rfl (fun t h => o_X2_refuse h) h (fun q3 h => ?_)
        exact wm_vret dX2_readOperand_110 rfl ⟨rfl, rfl⟩ h hP
      · refine wp_iload_n dX2_readOperand_67 rfl rfl ?_
        refine wp_bipush (40 : Int32) dX2_readOperand_68 ib_40 rfl ?_
        refine wm_icmp_eq 85 dX2_readOperand_70 rfl rfl h (fun h => ?_) (fun h => ?_)
        · exact wm_mask (L' := [some (.ref 14), some (.int v1), some (.int v2), none]) [true, true, true, false] rfl (k_X2_readOperand_J85 hrc h hP)
        · refine wp_iload_n dX2_readOperand_73 rfl rfl ?_
          refine wp_bipush (33 : Int32) dX2_readOperand_74 ib_33 rfl ?_
          refine wm_icmp_eq 85 dX2_readOperand_76 rfl rfl h (fun h => ?_) (fun h => ?_)
          · exact wm_mask (L' := [some (.ref 14), some (.int v1), some (.int v2), none]) [true, true, true, false] rfl (k_X2_readOperand_J85 hrc h hP)
          · refine wp_iload_n dX2_readOperand_79 rfl rfl ?_
            refine wp_bipush (45 : Int32) dX2_readOperand_80 ib_45 rfl ?_
            refine wm_icmp_ne 106 dX2_readOperand_82 rfl rfl h (fun h => ?_) (fun h => ?_)
            · refine wp_aload_n dX2_readOperand_106 rfl rfl ?_
              refine wm_callVN (As := []) (rest := []) dX2_readOperand_107 ok_X2_42 (by omega) rfl s_14 ⟨_, rfl⟩ (Nat.le_of_ble_eq_true rfl) ⟨rfl, rfl⟩ rfl (fun t h => o_X2_refuse h) h (fun q6 h => ?_)
              exact wm_vret dX2_readOperand_110 rfl ⟨rfl, rfl⟩ h hP
            · exact wm_mask (L' := [some (.ref 14), some (.int v1), some (.int v2), none]) [true, true, true, false] rfl (k_X2_readOperand_J85 hrc h hP)
    · refine wp_aload_n dX2_readOperand_39 rfl rfl ?_
      refine wp_dup dX2_readOperand_40 rfl rfl ?_
      refine wm_getI dX2_readOperand_41 s_14 fk_X2_26 rfl rfl ?_
      refine wp_iconst (1 : Int32) dX2_readOperand_44 ic_1 rfl ?_
      refine wp_iadd dX2_readOperand_45 rfl ?_
      refine wm_putI dX2_readOperand_46 s_14 fk_X2_26 rfl rfl h (fun m7 h => ?_)
      refine wp_aload_n dX2_readOperand_49 rfl rfl ?_
      refine wp_sipush (10000 : Int32) dX2_readOperand_50 is_10000 rfl ?_
      refine wp_iload_n dX2_readOperand_53 rfl rfl ?_
      refine wp_iadd dX2_readOperand_54 rfl ?_
      refine wm_callVN (As := [.int ((10000 : Int32) + t0)]) (rest := []) dX2_readOperand_55 ok_X2_52 (by omega) rfl s_14 ⟨_, rfl⟩ (Nat.le_of_ble_eq_true rfl) ⟨rfl, rfl⟩ rfl (fun t h => o_X2_emit h) h (fun q8 h => ?_)
      refine wp_goto 110 dX2_readOperand_58 rfl ?_
      exact wm_vret dX2_readOperand_110 rfl ⟨rfl, rfl⟩ h hP
  · refine wp_aload_n dX2_readOperand_28 rfl rfl ?_
    refine wm_callVN (As := []) (rest := []) dX2_readOperand_29 ok_X2_82 (by omega) rfl s_14 ⟨_, rfl⟩ (Nat.le_of_ble_eq_true rfl) ⟨rfl, rfl⟩ rfl (fun t h => o_X2_readNumber h) h (fun q9 h => ?_)
    refine wp_goto 110 dX2_readOperand_32 rfl ?_
    exact wm_vret dX2_readOperand_110 rfl ⟨rfl, rfl⟩ h hP
noncomputable def f_X2_readOperand (rc : Int32 → Int32 → Mem → Option Mem) (p1 : Int32) (m : Mem) : Option Mem := (f_X2_next m).bind (fun q1 => if 0 ≤ q1.1 then f_X2_readOperand_J20 rc p1 q1.1 (nmIx ((q1.1.toUInt32 % 65536).toInt32)) q1.2 else f_X2_readOperand_J20 rc p1 q1.1 (-1 : Int32) q1.2)
theorem k_X2_readOperand_E {g : Gx} {d0 : Nat} {rc : Int32 → Int32 → Mem → Option Mem} (hrc : ∀ p1 p2 m t, rc p1 p2 m = some t → MxM g d0 mi_X2_readOpened [.ref 14, .int p1, .int p2] m (qV t)) {p1 : Int32} {Q : Qy} {m : Mem} {t : Mem} (h : f_X2_readOperand rc p1 m = some t) (hP : pV Q t) : WpM g (d0 + 11) mi_X2_readOperand 0 [some (.ref 14), some (.int p1), none, none] [] m (zM g mi_X2_readOperand Q) := by
  refine wp_aload_n dX2_readOperand_0 rfl rfl ?_
  refine wm_callVI (As := []) (rest := []) dX2_readOperand_1 ok_X2_38 (by omega) rfl s_14 ⟨_, rfl⟩ (Nat.le_of_ble_eq_true rfl) ⟨rfl, rfl⟩ rfl (fun t h => o_X2_next h) h (fun q1 h => ?_)
  refine wp_istore_n (L' := [some (.ref 14), some (.int p1), some (.int q1.1), none]) dX2_readOperand_4 (by decide) rfl rfl rfl ?_
  refine wp_iload_n dX2_readOperand_5 rfl rfl ?_
  refine wm_if_ge 13 dX2_readOperand_6 rfl rfl h (fun h => ?_) (fun h => ?_)
  · refine wp_str dX2_readOperand_13 rfl rfl ?_
    refine wp_iload_n dX2_readOperand_15 rfl rfl ?_
    refine wp_i2c dX2_readOperand_16 rfl ?_
    refine wm_indexOf dX2_readOperand_17 ok_X2_72 (by omega) (Nat.le_of_ble_eq_true rfl) rfl ?_
    exact wm_mask (L' := [some (.ref 14), some (.int p1), some (.int q1.1), none]) [true, true, true, false] rfl (k_X2_readOperand_J20 hrc h hP)
  · refine wp_iconst (-1 : Int32) dX2_readOperand_9 ic_m1 rfl ?_
    refine wp_goto 20 dX2_readOperand_10 rfl ?_
    exact wm_mask (L' := [some (.ref 14), some (.int p1), some (.int q1.1), none]) [true, true, true, false] rfl (k_X2_readOperand_J20 hrc h hP)
theorem o_X2_readOperand {g : Gx} {d0 : Nat} {rc : Int32 → Int32 → Mem → Option Mem} (hrc : ∀ p1 p2 m t, rc p1 p2 m = some t → MxM g d0 mi_X2_readOpened [.ref 14, .int p1, .int p2] m (qV t)) {p1 : Int32} {m : Mem} {t : Mem} (h : f_X2_readOperand rc p1 m = some t) : MxM g (d0 + 11) mi_X2_readOperand [.ref 14, .int p1] m (qV t) := mx_of pn_X2 (Nat.le_of_ble_eq_true rfl) (k_X2_readOperand_E hrc h ⟨rfl, rfl, rfl, rfl, rfl⟩)
abbrev A_X2_readProduct_7 (g : Gx) (d0 : Nat) (Q : Qy) (s : Int32 × Int32 × Mem) : Prop := WpM g (d0 + 12) mi_X2_readProduct 7 [some (.ref 14), some (.int s.1), some (.int s.2.1), none] [] s.2.2 (zM g mi_X2_readProduct Q)
abbrev P_X2_readProduct_7 (g : Gx) (d0 : Nat) (Q : Qy) : ((Int32 × Int32 × Mem) ⊕ Mem) → Prop := pS (A_X2_readProduct_7 g d0 Q) (pV Q)
noncomputable def f_X2_readProduct_J47 (rc : Int32 → Int32 → Mem → Option Mem) (v1 : Int32) (v2 : Int32) (m : Mem) : Option ((Int32 × Int32 × Mem) ⊕ Mem) := (f_X2_next m).bind (fun q3 => bnd (sI q3.2 14 7 ((gI q3.2 14 7) + (1 : Int32))) (fun m4 => (f_X2_readOperand rc v1 m4).bind (fun q5 => (f_X2_emit ((20000 : Int32) + q3.1) q5).bind (fun q6 => bnd (v2 + (1 : Int32)) (fun y7 => some (Sum.inl (v1, y7, q6)))))))
theorem k_X2_readProduct_J47 {g : Gx} {d0 : Nat} {rc : Int32 → Int32 → Mem → Option Mem} (hrc : ∀ p1 p2 m t, rc p1 p2 m = some t → MxM g d0 mi_X2_readOpened [.ref 14, .int p1, .int p2] m (qV t)) {v1 : Int32} {v2 : Int32}  {Q : Qy} {m : Mem} {t : (Int32 × Int32 × Mem) ⊕ Mem} (h : f_X2_readProduct_J47 rc v1 v2 m = some t) (hP : P_X2_readProduct_7 g d0 Q t) : WpM g (d0 + 12) mi_X2_readProduct 47 [some (.ref 14), some (.int v1), some (.int v2), none] [] m (zM g mi_X2_readProduct Q) := by
  refine wp_aload_n dX2_readProduct_47 rfl rfl ?_
  refine wm_callVI (As := []) (rest := []) dX2_readProduct_48 ok_X2_38 (by omega) rfl s_14 ⟨_, rfl⟩ (Nat.le_of_ble_eq_true rfl) ⟨rfl, rfl⟩ rfl (fun t h => o_X2_next h) h (fun q3 h => ?_)
  refine wp_istore_n (L' := [some (.ref 14), some (.int v1), some (.int v2), some (.int q3.1)]) dX2_readProduct_51 (by decide) rfl rfl rfl ?_
  refine wp_aload_n dX2_readProduct_52 rfl rfl ?_
  refine wp_dup dX2_readProduct_53 rfl rfl ?_
  refine wm_getI dX2_readProduct_54 s_14 fk_X2_26 rfl rfl ?_
  refine wp_iconst (1 : Int32) dX2_readProduct_57 ic_1 rfl ?_
  refine wp_iadd dX2_readProduct_58 rfl ?_
  refine wm_putI dX2_readProduct_59 s_14 fk_X2_26 rfl rfl h (fun m4 h => ?_)
  refine wp_aload_n dX2_readProduct_62 rfl rfl ?_
  refine wp_iload_n dX2_readProduct_63 rfl rfl ?_
  refine wm_callVN (As := [.int v1]) (rest := []) dX2_readProduct_64 ok_X2_67 (by omega) rfl s_14 ⟨_, rfl⟩ (Nat.le_of_ble_eq_true rfl) ⟨rfl, rfl⟩ rfl (fun t h => o_X2_readOperand hrc h) h (fun q5 h => ?_)
  refine wp_aload_n dX2_readProduct_67 rfl rfl ?_
  refine wp_sipush (20000 : Int32) dX2_readProduct_68 is_20000 rfl ?_
  refine wp_iload_n dX2_readProduct_71 rfl rfl ?_
  refine wp_iadd dX2_readProduct_72 rfl ?_
  refine wm_callVN (As := [.int ((20000 : Int32) + q3.1)]) (rest := []) dX2_readProduct_73 ok_X2_52 (by omega) rfl s_14 ⟨_, rfl⟩ (Nat.le_of_ble_eq_true rfl) ⟨rfl, rfl⟩ rfl (fun t h => o_X2_emit h) h (fun q6 h => ?_)
  refine wm_inc dX2_readProduct_76 rfl ii_1 (by decide) rfl rfl h (fun y7 h => ?_)
  refine wm_list (L' := [some (.ref 14), some (.int v1), some (.int y7), some (.int q3.1)]) rfl ?_
  refine wp_goto 7 dX2_readProduct_79 rfl ?_
  have hB := wm_back h hP
  exact wm_mask (L' := [some (.ref 14), some (.int v1), some (.int y7), none]) [true, true, true, false] rfl (hB)
noncomputable def f_X2_readProduct_L7 (rc : Int32 → Int32 → Mem → Option Mem) (s : Int32 × Int32 × Mem) : Option ((Int32 × Int32 × Mem) ⊕ Mem) := if (120 : Int32) ≤ s.2.1 then up (some s.2.2) else if 0 ≤ (gI s.2.2 14 8) then up (some s.2.2) else (f_X2_next s.2.2).bind (fun q2 => if q2.1 = (42 : Int32) then f_X2_readProduct_J47 rc s.1 s.2.1 q2.2 else (f_X2_next q2.2).bind (fun q8 => if q8.1 = (47 : Int32) then f_X2_readProduct_J47 rc s.1 s.2.1 q8.2 else (f_X2_next q8.2).bind (fun q9 => if ¬ q9.1 = (37 : Int32) then up (some q9.2) else f_X2_readProduct_J47 rc s.1 s.2.1 q9.2)))
theorem k_X2_readProduct_L7 {g : Gx} {d0 : Nat} {rc : Int32 → Int32 → Mem → Option Mem} (hrc : ∀ p1 p2 m t, rc p1 p2 m = some t → MxM g d0 mi_X2_readOpened [.ref 14, .int p1, .int p2] m (qV t)) {Q : Qy} {s : Int32 × Int32 × Mem} {t : (Int32 × Int32 × Mem) ⊕ Mem} (h : f_X2_readProduct_L7 rc s = some t) (hP : P_X2_readProduct_7 g d0 Q t) : A_X2_readProduct_7 g d0 Q s := by
  refine wp_iload_n dX2_readProduct_7 rfl rfl ?_
  refine wp_bipush (120 : Int32) dX2_readProduct_8 ib_120 rfl ?_
  refine wm_icmp_ge 82 dX2_readProduct_10 rfl rfl h (fun h => ?_) (fun h => ?_)
  · refine wm_up h hP (fun r h hP => ?_)
    exact wm_vret dX2_readProduct_82 rfl ⟨rfl, rfl⟩ h hP
  · refine wp_aload_n dX2_readProduct_13 rfl rfl ?_
    refine wm_getI dX2_readProduct_14 s_14 fk_X2_29 rfl rfl ?_
    refine wm_if_ge 82 dX2_readProduct_17 rfl rfl h (fun h => ?_) (fun h => ?_)
    · refine wm_up h hP (fun r h hP => ?_)
      exact wm_vret dX2_readProduct_82 rfl ⟨rfl, rfl⟩ h hP
    · refine wp_aload_n dX2_readProduct_20 rfl rfl ?_
      refine wm_callVI (As := []) (rest := []) dX2_readProduct_21 ok_X2_38 (by omega) rfl s_14 ⟨_, rfl⟩ (Nat.le_of_ble_eq_true rfl) ⟨rfl, rfl⟩ rfl (fun t h => o_X2_next h) h (fun q2 h => ?_)
      refine wp_bipush (42 : Int32) dX2_readProduct_24 ib_42 rfl ?_
      refine wm_icmp_eq 47 dX2_readProduct_26 rfl rfl h (fun h => ?_) (fun h => ?_)
      · exact wm_mask (L' := [some (.ref 14), some (.int s.1), some (.int s.2.1), none]) [true, true, true, false] rfl (k_X2_readProduct_J47 hrc h hP)
      · refine wp_aload_n dX2_readProduct_29 rfl rfl ?_
        refine wm_callVI (As := []) (rest := []) dX2_readProduct_30 ok_X2_38 (by omega) rfl s_14 ⟨_, rfl⟩ (Nat.le_of_ble_eq_true rfl) ⟨rfl, rfl⟩ rfl (fun t h => o_X2_next h) h (fun q8 h => ?_)
        refine wp_bipush (47 : Int32) dX2_readProduct_33 ib_47 rfl ?_
        refine wm_icmp_eq 47 dX2_readProduct_35 rfl rfl h (fun h => ?_) (fun h => ?_)
        · exact wm_mask (L' := [some (.ref 14), some (.int s.1), some (.int s.2.1), none]) [true, true, true, false] rfl (k_X2_readProduct_J47 hrc h hP)
        · refine wp_aload_n dX2_readProduct_38 rfl rfl ?_
          refine wm_callVI (As := []) (rest := []) dX2_readProduct_39 ok_X2_38 (by omega) rfl s_14 ⟨_, rfl⟩ (Nat.le_of_ble_eq_true rfl) ⟨rfl, rfl⟩ rfl (fun t h => o_X2_next h) h (fun q9 h => ?_)
          refine wp_bipush (37 : Int32) dX2_readProduct_42 ib_37 rfl ?_
          refine wm_icmp_ne 82 dX2_readProduct_44 rfl rfl h (fun h => ?_) (fun h => ?_)
          · refine wm_up h hP (fun r h hP => ?_)
            exact wm_vret dX2_readProduct_82 rfl ⟨rfl, rfl⟩ h hP
          · exact wm_mask (L' := [some (.ref 14), some (.int s.1), some (.int s.2.1), none]) [true, true, true, false] rfl (k_X2_readProduct_J47 hrc h hP)
noncomputable def f_X2_readProduct (rc : Int32 → Int32 → Mem → Option Mem) (p1 : Int32) (m : Mem) : Option Mem := (f_X2_readOperand rc p1 m).bind (fun q1 => wh (f_X2_readProduct_L7 rc) (p1, (0 : Int32), q1))
theorem k_X2_readProduct_E {g : Gx} {d0 : Nat} {rc : Int32 → Int32 → Mem → Option Mem} (hrc : ∀ p1 p2 m t, rc p1 p2 m = some t → MxM g d0 mi_X2_readOpened [.ref 14, .int p1, .int p2] m (qV t)) {p1 : Int32} {Q : Qy} {m : Mem} {t : Mem} (h : f_X2_readProduct rc p1 m = some t) (hP : pV Q t) : WpM g (d0 + 12) mi_X2_readProduct 0 [some (.ref 14), some (.int p1), none, none] [] m (zM g mi_X2_readProduct Q) := by
  refine wp_aload_n dX2_readProduct_0 rfl rfl ?_
  refine wp_iload_n dX2_readProduct_1 rfl rfl ?_
  refine wm_callVN (As := [.int p1]) (rest := []) dX2_readProduct_2 ok_X2_67 (by omega) rfl s_14 ⟨_, rfl⟩ (Nat.le_of_ble_eq_true rfl) ⟨rfl, rfl⟩ rfl (fun t h => o_X2_readOperand hrc h) h (fun q1 h => ?_)
  refine wp_iconst (0 : Int32) dX2_readProduct_5 ic_0 rfl ?_
  refine wp_istore_n (L' := [some (.ref 14), some (.int p1), some (.int (0 : Int32)), none]) dX2_readProduct_6 (by decide) rfl rfl rfl ?_
  have hB := wh_ok (A := A_X2_readProduct_7 g d0 Q) (B := pV Q) (fun s t h hP => k_X2_readProduct_L7 hrc h hP) h hP
  exact wm_mask (L' := [some (.ref 14), some (.int p1), some (.int (0 : Int32)), none]) [true, true, true, false] rfl (hB)
theorem o_X2_readProduct {g : Gx} {d0 : Nat} {rc : Int32 → Int32 → Mem → Option Mem} (hrc : ∀ p1 p2 m t, rc p1 p2 m = some t → MxM g d0 mi_X2_readOpened [.ref 14, .int p1, .int p2] m (qV t)) {p1 : Int32} {m : Mem} {t : Mem} (h : f_X2_readProduct rc p1 m = some t) : MxM g (d0 + 12) mi_X2_readProduct [.ref 14, .int p1] m (qV t) := mx_of pn_X2 (Nat.le_of_ble_eq_true rfl) (k_X2_readProduct_E hrc h ⟨rfl, rfl, rfl, rfl, rfl⟩)
abbrev A_X2_readSum_7 (g : Gx) (d0 : Nat) (Q : Qy) (s : Int32 × Int32 × Mem) : Prop := WpM g (d0 + 13) mi_X2_readSum 7 [some (.ref 14), some (.int s.1), some (.int s.2.1), none] [] s.2.2 (zM g mi_X2_readSum Q)
abbrev P_X2_readSum_7 (g : Gx) (d0 : Nat) (Q : Qy) : ((Int32 × Int32 × Mem) ⊕ Mem) → Prop := pS (A_X2_readSum_7 g d0 Q) (pV Q)
noncomputable def f_X2_readSum_J38 (rc : Int32 → Int32 → Mem → Option Mem) (v1 : Int32) (v2 : Int32) (m : Mem) : Option ((Int32 × Int32 × Mem) ⊕ Mem) := (f_X2_next m).bind (fun q3 => bnd (sI q3.2 14 7 ((gI q3.2 14 7) + (1 : Int32))) (fun m4 => (f_X2_readProduct rc v1 m4).bind (fun q5 => (f_X2_emit ((20000 : Int32) + q3.1) q5).bind (fun q6 => bnd (v2 + (1 : Int32)) (fun y7 => some (Sum.inl (v1, y7, q6)))))))
theorem k_X2_readSum_J38 {g : Gx} {d0 : Nat} {rc : Int32 → Int32 → Mem → Option Mem} (hrc : ∀ p1 p2 m t, rc p1 p2 m = some t → MxM g d0 mi_X2_readOpened [.ref 14, .int p1, .int p2] m (qV t)) {v1 : Int32} {v2 : Int32}  {Q : Qy} {m : Mem} {t : (Int32 × Int32 × Mem) ⊕ Mem} (h : f_X2_readSum_J38 rc v1 v2 m = some t) (hP : P_X2_readSum_7 g d0 Q t) : WpM g (d0 + 13) mi_X2_readSum 38 [some (.ref 14), some (.int v1), some (.int v2), none] [] m (zM g mi_X2_readSum Q) := by
  refine wp_aload_n dX2_readSum_38 rfl rfl ?_
  refine wm_callVI (As := []) (rest := []) dX2_readSum_39 ok_X2_38 (by omega) rfl s_14 ⟨_, rfl⟩ (Nat.le_of_ble_eq_true rfl) ⟨rfl, rfl⟩ rfl (fun t h => o_X2_next h) h (fun q3 h => ?_)
  refine wp_istore_n (L' := [some (.ref 14), some (.int v1), some (.int v2), some (.int q3.1)]) dX2_readSum_42 (by decide) rfl rfl rfl ?_
  refine wp_aload_n dX2_readSum_43 rfl rfl ?_
  refine wp_dup dX2_readSum_44 rfl rfl ?_
  refine wm_getI dX2_readSum_45 s_14 fk_X2_26 rfl rfl ?_
  refine wp_iconst (1 : Int32) dX2_readSum_48 ic_1 rfl ?_
  refine wp_iadd dX2_readSum_49 rfl ?_
  refine wm_putI dX2_readSum_50 s_14 fk_X2_26 rfl rfl h (fun m4 h => ?_)
  refine wp_aload_n dX2_readSum_53 rfl rfl ?_
  refine wp_iload_n dX2_readSum_54 rfl rfl ?_
  refine wm_callVN (As := [.int v1]) (rest := []) dX2_readSum_55 ok_X2_64 (by omega) rfl s_14 ⟨_, rfl⟩ (Nat.le_of_ble_eq_true rfl) ⟨rfl, rfl⟩ rfl (fun t h => o_X2_readProduct hrc h) h (fun q5 h => ?_)
  refine wp_aload_n dX2_readSum_58 rfl rfl ?_
  refine wp_sipush (20000 : Int32) dX2_readSum_59 is_20000 rfl ?_
  refine wp_iload_n dX2_readSum_62 rfl rfl ?_
  refine wp_iadd dX2_readSum_63 rfl ?_
  refine wm_callVN (As := [.int ((20000 : Int32) + q3.1)]) (rest := []) dX2_readSum_64 ok_X2_52 (by omega) rfl s_14 ⟨_, rfl⟩ (Nat.le_of_ble_eq_true rfl) ⟨rfl, rfl⟩ rfl (fun t h => o_X2_emit h) h (fun q6 h => ?_)
  refine wm_inc dX2_readSum_67 rfl ii_1 (by decide) rfl rfl h (fun y7 h => ?_)
  refine wm_list (L' := [some (.ref 14), some (.int v1), some (.int y7), some (.int q3.1)]) rfl ?_
  refine wp_goto 7 dX2_readSum_70 rfl ?_
  have hB := wm_back h hP
  exact wm_mask (L' := [some (.ref 14), some (.int v1), some (.int y7), none]) [true, true, true, false] rfl (hB)
noncomputable def f_X2_readSum_L7 (rc : Int32 → Int32 → Mem → Option Mem) (s : Int32 × Int32 × Mem) : Option ((Int32 × Int32 × Mem) ⊕ Mem) := if (120 : Int32) ≤ s.2.1 then up (some s.2.2) else if 0 ≤ (gI s.2.2 14 8) then up (some s.2.2) else (f_X2_next s.2.2).bind (fun q2 => if q2.1 = (43 : Int32) then f_X2_readSum_J38 rc s.1 s.2.1 q2.2 else (f_X2_next q2.2).bind (fun q8 => if ¬ q8.1 = (45 : Int32) then up (some q8.2) else f_X2_readSum_J38 rc s.1 s.2.1 q8.2))
theorem k_X2_readSum_L7 {g : Gx} {d0 : Nat} {rc : Int32 → Int32 → Mem → Option Mem} (hrc : ∀ p1 p2 m t, rc p1 p2 m = some t → MxM g d0 mi_X2_readOpened [.ref 14, .int p1, .int p2] m (qV t)) {Q : Qy} {s : Int32 × Int32 × Mem} {t : (Int32 × Int32 × Mem) ⊕ Mem} (h : f_X2_readSum_L7 rc s = some t) (hP : P_X2_readSum_7 g d0 Q t) : A_X2_readSum_7 g d0 Q s := by
  refine wp_iload_n dX2_readSum_7 rfl rfl ?_
  refine wp_bipush (120 : Int32) dX2_readSum_8 ib_120 rfl ?_
  refine wm_icmp_ge 73 dX2_readSum_10 rfl rfl h (fun h => ?_) (fun h => ?_)
  · refine wm_up h hP (fun r h hP => ?_)
    exact wm_vret dX2_readSum_73 rfl ⟨rfl, rfl⟩ h hP
  · refine wp_aload_n dX2_readSum_13 rfl rfl ?_
    refine wm_getI dX2_readSum_14 s_14 fk_X2_29 rfl rfl ?_
    refine wm_if_ge 73 dX2_readSum_17 rfl rfl h (fun h => ?_) (fun h => ?_)
    · refine wm_up h hP (fun r h hP => ?_)
      exact wm_vret dX2_readSum_73 rfl ⟨rfl, rfl⟩ h hP
    · refine wp_aload_n dX2_readSum_20 rfl rfl ?_
      refine wm_callVI (As := []) (rest := []) dX2_readSum_21 ok_X2_38 (by omega) rfl s_14 ⟨_, rfl⟩ (Nat.le_of_ble_eq_true rfl) ⟨rfl, rfl⟩ rfl (fun t h => o_X2_next h) h (fun q2 h => ?_)
      refine wp_bipush (43 : Int32) dX2_readSum_24 ib_43 rfl ?_
      refine wm_icmp_eq 38 dX2_readSum_26 rfl rfl h (fun h => ?_) (fun h => ?_)
      · exact wm_mask (L' := [some (.ref 14), some (.int s.1), some (.int s.2.1), none]) [true, true, true, false] rfl (k_X2_readSum_J38 hrc h hP)
      · refine wp_aload_n dX2_readSum_29 rfl rfl ?_
        refine wm_callVI (As := []) (rest := []) dX2_readSum_30 ok_X2_38 (by omega) rfl s_14 ⟨_, rfl⟩ (Nat.le_of_ble_eq_true rfl) ⟨rfl, rfl⟩ rfl (fun t h => o_X2_next h) h (fun q8 h => ?_)
        refine wp_bipush (45 : Int32) dX2_readSum_33 ib_45 rfl ?_
        refine wm_icmp_ne 73 dX2_readSum_35 rfl rfl h (fun h => ?_) (fun h => ?_)
        · refine wm_up h hP (fun r h hP => ?_)
          exact wm_vret dX2_readSum_73 rfl ⟨rfl, rfl⟩ h hP
        · exact wm_mask (L' := [some (.ref 14), some (.int s.1), some (.int s.2.1), none]) [true, true, true, false] rfl (k_X2_readSum_J38 hrc h hP)
noncomputable def f_X2_readSum (rc : Int32 → Int32 → Mem → Option Mem) (p1 : Int32) (m : Mem) : Option Mem := (f_X2_readProduct rc p1 m).bind (fun q1 => wh (f_X2_readSum_L7 rc) (p1, (0 : Int32), q1))
theorem k_X2_readSum_E {g : Gx} {d0 : Nat} {rc : Int32 → Int32 → Mem → Option Mem} (hrc : ∀ p1 p2 m t, rc p1 p2 m = some t → MxM g d0 mi_X2_readOpened [.ref 14, .int p1, .int p2] m (qV t)) {p1 : Int32} {Q : Qy} {m : Mem} {t : Mem} (h : f_X2_readSum rc p1 m = some t) (hP : pV Q t) : WpM g (d0 + 13) mi_X2_readSum 0 [some (.ref 14), some (.int p1), none, none] [] m (zM g mi_X2_readSum Q) := by
  refine wp_aload_n dX2_readSum_0 rfl rfl ?_
  refine wp_iload_n dX2_readSum_1 rfl rfl ?_
  refine wm_callVN (As := [.int p1]) (rest := []) dX2_readSum_2 ok_X2_64 (by omega) rfl s_14 ⟨_, rfl⟩ (Nat.le_of_ble_eq_true rfl) ⟨rfl, rfl⟩ rfl (fun t h => o_X2_readProduct hrc h) h (fun q1 h => ?_)
  refine wp_iconst (0 : Int32) dX2_readSum_5 ic_0 rfl ?_
  refine wp_istore_n (L' := [some (.ref 14), some (.int p1), some (.int (0 : Int32)), none]) dX2_readSum_6 (by decide) rfl rfl rfl ?_
  have hB := wh_ok (A := A_X2_readSum_7 g d0 Q) (B := pV Q) (fun s t h hP => k_X2_readSum_L7 hrc h hP) h hP
  exact wm_mask (L' := [some (.ref 14), some (.int p1), some (.int (0 : Int32)), none]) [true, true, true, false] rfl (hB)
theorem o_X2_readSum {g : Gx} {d0 : Nat} {rc : Int32 → Int32 → Mem → Option Mem} (hrc : ∀ p1 p2 m t, rc p1 p2 m = some t → MxM g d0 mi_X2_readOpened [.ref 14, .int p1, .int p2] m (qV t)) {p1 : Int32} {m : Mem} {t : Mem} (h : f_X2_readSum rc p1 m = some t) : MxM g (d0 + 13) mi_X2_readSum [.ref 14, .int p1] m (qV t) := mx_of pn_X2 (Nat.le_of_ble_eq_true rfl) (k_X2_readSum_E hrc h ⟨rfl, rfl, rfl, rfl, rfl⟩)
noncomputable def f_X2_readCompared_J35 (rc : Int32 → Int32 → Mem → Option Mem) (v1 : Int32) (v2 : Int32) (m : Mem) : Option Mem := bnd (sI m 14 7 ((gI m 14 7) + (1 : Int32))) (fun m3 => (f_X2_readSum rc v1 m3).bind (fun q4 => (f_X2_emit ((20000 : Int32) + v2) q4).bind (fun q5 => some q5)))
theorem k_X2_readCompared_J35 {g : Gx} {d0 : Nat} {rc : Int32 → Int32 → Mem → Option Mem} (hrc : ∀ p1 p2 m t, rc p1 p2 m = some t → MxM g d0 mi_X2_readOpened [.ref 14, .int p1, .int p2] m (qV t)) {v1 : Int32} {v2 : Int32}  {Q : Qy} {m : Mem} {t : Mem} (h : f_X2_readCompared_J35 rc v1 v2 m = some t) (hP : pV Q t) : WpM g (d0 + 14) mi_X2_readCompared 35 [some (.ref 14), some (.int v1), some (.int v2)] [] m (zM g mi_X2_readCompared Q) := by
  refine wp_aload_n dX2_readCompared_35 rfl rfl ?_
  refine wp_dup dX2_readCompared_36 rfl rfl ?_
  refine wm_getI dX2_readCompared_37 s_14 fk_X2_26 rfl rfl ?_
  refine wp_iconst (1 : Int32) dX2_readCompared_40 ic_1 rfl ?_
  refine wp_iadd dX2_readCompared_41 rfl ?_
  refine wm_putI dX2_readCompared_42 s_14 fk_X2_26 rfl rfl h (fun m3 h => ?_)
  refine wp_aload_n dX2_readCompared_45 rfl rfl ?_
  refine wp_iload_n dX2_readCompared_46 rfl rfl ?_
  refine wm_callVN (As := [.int v1]) (rest := []) dX2_readCompared_47 ok_X2_61 (by omega) rfl s_14 ⟨_, rfl⟩ (Nat.le_of_ble_eq_true rfl) ⟨rfl, rfl⟩ rfl (fun t h => o_X2_readSum hrc h) h (fun q4 h => ?_)
  refine wp_aload_n dX2_readCompared_50 rfl rfl ?_
  refine wp_sipush (20000 : Int32) dX2_readCompared_51 is_20000 rfl ?_
  refine wp_iload_n dX2_readCompared_54 rfl rfl ?_
  refine wp_iadd dX2_readCompared_55 rfl ?_
  refine wm_callVN (As := [.int ((20000 : Int32) + v2)]) (rest := []) dX2_readCompared_56 ok_X2_52 (by omega) rfl s_14 ⟨_, rfl⟩ (Nat.le_of_ble_eq_true rfl) ⟨rfl, rfl⟩ rfl (fun t h => o_X2_emit h) h (fun q5 h => ?_)
  exact wm_vret dX2_readCompared_59 rfl ⟨rfl, rfl⟩ h hP
noncomputable def f_X2_readCompared (rc : Int32 → Int32 → Mem → Option Mem) (p1 : Int32) (m : Mem) : Option Mem := (f_X2_readSum rc p1 m).bind (fun q1 => (f_X2_next q1).bind (fun q2 => if 0 ≤ (gI q2.2 14 8) then some q2.2 else if q2.1 = (60 : Int32) then f_X2_readCompared_J35 rc p1 q2.1 q2.2 else if q2.1 = (61 : Int32) then f_X2_readCompared_J35 rc p1 q2.1 q2.2 else if ¬ q2.1 = (62 : Int32) then some q2.2 else f_X2_readCompared_J35 rc p1 q2.1 q2.2))
theorem k_X2_readCompared_E {g : Gx} {d0 : Nat} {rc : Int32 → Int32 → Mem → Option Mem} (hrc : ∀ p1 p2 m t, rc p1 p2 m = some t → MxM g d0 mi_X2_readOpened [.ref 14, .int p1, .int p2] m (qV t)) {p1 : Int32} {Q : Qy} {m : Mem} {t : Mem} (h : f_X2_readCompared rc p1 m = some t) (hP : pV Q t) : WpM g (d0 + 14) mi_X2_readCompared 0 [some (.ref 14), some (.int p1), none] [] m (zM g mi_X2_readCompared Q) := by
  refine wp_aload_n dX2_readCompared_0 rfl rfl ?_
  refine wp_iload_n dX2_readCompared_1 rfl rfl ?_
  refine wm_callVN (As := [.int p1]) (rest := []) dX2_readCompared_2 ok_X2_61 (by omega) rfl s_14 ⟨_, rfl⟩ (Nat.le_of_ble_eq_true rfl) ⟨rfl, rfl⟩ rfl (fun t h => o_X2_readSum hrc h) h (fun q1 h => ?_)
  refine wp_aload_n dX2_readCompared_5 rfl rfl ?_
  refine wm_callVI (As := []) (rest := []) dX2_readCompared_6 ok_X2_38 (by omega) rfl s_14 ⟨_, rfl⟩ (Nat.le_of_ble_eq_true rfl) ⟨rfl, rfl⟩ rfl (fun t h => o_X2_next h) h (fun q2 h => ?_)
  refine wp_istore_n (L' := [some (.ref 14), some (.int p1), some (.int q2.1)]) dX2_readCompared_9 (by decide) rfl rfl rfl ?_
  refine wp_aload_n dX2_readCompared_10 rfl rfl ?_
  refine wm_getI dX2_readCompared_11 s_14 fk_X2_29 rfl rfl ?_
  refine wm_if_ge 59 dX2_readCompared_14 rfl rfl h (fun h => ?_) (fun h => ?_)
  · exact wm_vret dX2_readCompared_59 rfl ⟨rfl, rfl⟩ h hP
  · refine wp_iload_n dX2_readCompared_17 rfl rfl ?_
    refine wp_bipush (60 : Int32) dX2_readCompared_18 ib_60 rfl ?_
    refine wm_icmp_eq 35 dX2_readCompared_20 rfl rfl h (fun h => ?_) (fun h => ?_)
    · exact wm_mask (L' := [some (.ref 14), some (.int p1), some (.int q2.1)]) [true, true, true] rfl (k_X2_readCompared_J35 hrc h hP)
    · refine wp_iload_n dX2_readCompared_23 rfl rfl ?_
      refine wp_bipush (61 : Int32) dX2_readCompared_24 ib_61 rfl ?_
      refine wm_icmp_eq 35 dX2_readCompared_26 rfl rfl h (fun h => ?_) (fun h => ?_)
      · exact wm_mask (L' := [some (.ref 14), some (.int p1), some (.int q2.1)]) [true, true, true] rfl (k_X2_readCompared_J35 hrc h hP)
      · refine wp_iload_n dX2_readCompared_29 rfl rfl ?_
        refine wp_bipush (62 : Int32) dX2_readCompared_30 ib_62 rfl ?_
        refine wm_icmp_ne 59 dX2_readCompared_32 rfl rfl h (fun h => ?_) (fun h => ?_)
        · exact wm_vret dX2_readCompared_59 rfl ⟨rfl, rfl⟩ h hP
        · exact wm_mask (L' := [some (.ref 14), some (.int p1), some (.int q2.1)]) [true, true, true] rfl (k_X2_readCompared_J35 hrc h hP)
theorem o_X2_readCompared {g : Gx} {d0 : Nat} {rc : Int32 → Int32 → Mem → Option Mem} (hrc : ∀ p1 p2 m t, rc p1 p2 m = some t → MxM g d0 mi_X2_readOpened [.ref 14, .int p1, .int p2] m (qV t)) {p1 : Int32} {m : Mem} {t : Mem} (h : f_X2_readCompared rc p1 m = some t) : MxM g (d0 + 14) mi_X2_readCompared [.ref 14, .int p1] m (qV t) := mx_of pn_X2 (Nat.le_of_ble_eq_true rfl) (k_X2_readCompared_E hrc h ⟨rfl, rfl, rfl, rfl, rfl⟩)
abbrev A_X2_readBoth_7 (g : Gx) (d0 : Nat) (Q : Qy) (s : Int32 × Int32 × Mem) : Prop := WpM g (d0 + 15) mi_X2_readBoth 7 [some (.ref 14), some (.int s.1), some (.int s.2.1)] [] s.2.2 (zM g mi_X2_readBoth Q)
abbrev P_X2_readBoth_7 (g : Gx) (d0 : Nat) (Q : Qy) : ((Int32 × Int32 × Mem) ⊕ Mem) → Prop := pS (A_X2_readBoth_7 g d0 Q) (pV Q)
noncomputable def f_X2_readBoth_L7 (rc : Int32 → Int32 → Mem → Option Mem) (s : Int32 × Int32 × Mem) : Option ((Int32 × Int32 × Mem) ⊕ Mem) := if (120 : Int32) ≤ s.2.1 then up (some s.2.2) else if 0 ≤ (gI s.2.2 14 8) then up (some s.2.2) else (f_X2_next s.2.2).bind (fun q2 => if ¬ q2.1 = (38 : Int32) then up (some q2.2) else bnd (sI q2.2 14 7 ((gI q2.2 14 7) + (1 : Int32))) (fun m3 => (f_X2_readCompared rc s.1 m3).bind (fun q4 => (f_X2_emit (20038 : Int32) q4).bind (fun q5 => bnd (s.2.1 + (1 : Int32)) (fun y6 => some (Sum.inl (s.1, y6, q5)))))))
theorem k_X2_readBoth_L7 {g : Gx} {d0 : Nat} {rc : Int32 → Int32 → Mem → Option Mem} (hrc : ∀ p1 p2 m t, rc p1 p2 m = some t → MxM g d0 mi_X2_readOpened [.ref 14, .int p1, .int p2] m (qV t)) {Q : Qy} {s : Int32 × Int32 × Mem} {t : (Int32 × Int32 × Mem) ⊕ Mem} (h : f_X2_readBoth_L7 rc s = some t) (hP : P_X2_readBoth_7 g d0 Q t) : A_X2_readBoth_7 g d0 Q s := by
  refine wp_iload_n dX2_readBoth_7 rfl rfl ?_
  refine wp_bipush (120 : Int32) dX2_readBoth_8 ib_120 rfl ?_
  refine wm_icmp_ge 57 dX2_readBoth_10 rfl rfl h (fun h => ?_) (fun h => ?_)
  · refine wm_up h hP (fun r h hP => ?_)
    exact wm_vret dX2_readBoth_57 rfl ⟨rfl, rfl⟩ h hP
  · refine wp_aload_n dX2_readBoth_13 rfl rfl ?_
    refine wm_getI dX2_readBoth_14 s_14 fk_X2_29 rfl rfl ?_
    refine wm_if_ge 57 dX2_readBoth_17 rfl rfl h (fun h => ?_) (fun h => ?_)
    · refine wm_up h hP (fun r h hP => ?_)
      exact wm_vret dX2_readBoth_57 rfl ⟨rfl, rfl⟩ h hP
    · refine wp_aload_n dX2_readBoth_20 rfl rfl ?_
      refine wm_callVI (As := []) (rest := []) dX2_readBoth_21 ok_X2_38 (by omega) rfl s_14 ⟨_, rfl⟩ (Nat.le_of_ble_eq_true rfl) ⟨rfl, rfl⟩ rfl (fun t h => o_X2_next h) h (fun q2 h => ?_)
      refine wp_bipush (38 : Int32) dX2_readBoth_24 ib_38 rfl ?_
      refine wm_icmp_ne 57 dX2_readBoth_26 rfl rfl h (fun h => ?_) (fun h => ?_)
      · refine wm_up h hP (fun r h hP => ?_)
        exact wm_vret dX2_readBoth_57 rfl ⟨rfl, rfl⟩ h hP
      · refine wp_aload_n dX2_readBoth_29 rfl rfl ?_
        refine wp_dup dX2_readBoth_30 rfl rfl ?_
        refine wm_getI dX2_readBoth_31 s_14 fk_X2_26 rfl rfl ?_
        refine wp_iconst (1 : Int32) dX2_readBoth_34 ic_1 rfl ?_
        refine wp_iadd dX2_readBoth_35 rfl ?_
        refine wm_putI dX2_readBoth_36 s_14 fk_X2_26 rfl rfl h (fun m3 h => ?_)
        refine wp_aload_n dX2_readBoth_39 rfl rfl ?_
        refine wp_iload_n dX2_readBoth_40 rfl rfl ?_
        refine wm_callVN (As := [.int s.1]) (rest := []) dX2_readBoth_41 ok_X2_58 (by omega) rfl s_14 ⟨_, rfl⟩ (Nat.le_of_ble_eq_true rfl) ⟨rfl, rfl⟩ rfl (fun t h => o_X2_readCompared hrc h) h (fun q4 h => ?_)
        refine wp_aload_n dX2_readBoth_44 rfl rfl ?_
        refine wp_sipush (20038 : Int32) dX2_readBoth_45 is_20038 rfl ?_
        refine wm_callVN (As := [.int (20038 : Int32)]) (rest := []) dX2_readBoth_48 ok_X2_52 (by omega) rfl s_14 ⟨_, rfl⟩ (Nat.le_of_ble_eq_true rfl) ⟨rfl, rfl⟩ rfl (fun t h => o_X2_emit h) h (fun q5 h => ?_)
        refine wm_inc dX2_readBoth_51 rfl ii_1 (by decide) rfl rfl h (fun y6 h => ?_)
        refine wm_list (L' := [some (.ref 14), some (.int s.1), some (.int y6)]) rfl ?_
        refine wp_goto 7 dX2_readBoth_54 rfl ?_
        have hB := wm_back h hP
        exact wm_mask (L' := [some (.ref 14), some (.int s.1), some (.int y6)]) [true, true, true] rfl (hB)
noncomputable def f_X2_readBoth (rc : Int32 → Int32 → Mem → Option Mem) (p1 : Int32) (m : Mem) : Option Mem := (f_X2_readCompared rc p1 m).bind (fun q1 => wh (f_X2_readBoth_L7 rc) (p1, (0 : Int32), q1))
theorem k_X2_readBoth_E {g : Gx} {d0 : Nat} {rc : Int32 → Int32 → Mem → Option Mem} (hrc : ∀ p1 p2 m t, rc p1 p2 m = some t → MxM g d0 mi_X2_readOpened [.ref 14, .int p1, .int p2] m (qV t)) {p1 : Int32} {Q : Qy} {m : Mem} {t : Mem} (h : f_X2_readBoth rc p1 m = some t) (hP : pV Q t) : WpM g (d0 + 15) mi_X2_readBoth 0 [some (.ref 14), some (.int p1), none] [] m (zM g mi_X2_readBoth Q) := by
  refine wp_aload_n dX2_readBoth_0 rfl rfl ?_
  refine wp_iload_n dX2_readBoth_1 rfl rfl ?_
  refine wm_callVN (As := [.int p1]) (rest := []) dX2_readBoth_2 ok_X2_58 (by omega) rfl s_14 ⟨_, rfl⟩ (Nat.le_of_ble_eq_true rfl) ⟨rfl, rfl⟩ rfl (fun t h => o_X2_readCompared hrc h) h (fun q1 h => ?_)
  refine wp_iconst (0 : Int32) dX2_readBoth_5 ic_0 rfl ?_
  refine wp_istore_n (L' := [some (.ref 14), some (.int p1), some (.int (0 : Int32))]) dX2_readBoth_6 (by decide) rfl rfl rfl ?_
  have hB := wh_ok (A := A_X2_readBoth_7 g d0 Q) (B := pV Q) (fun s t h hP => k_X2_readBoth_L7 hrc h hP) h hP
  exact wm_mask (L' := [some (.ref 14), some (.int p1), some (.int (0 : Int32))]) [true, true, true] rfl (hB)
theorem o_X2_readBoth {g : Gx} {d0 : Nat} {rc : Int32 → Int32 → Mem → Option Mem} (hrc : ∀ p1 p2 m t, rc p1 p2 m = some t → MxM g d0 mi_X2_readOpened [.ref 14, .int p1, .int p2] m (qV t)) {p1 : Int32} {m : Mem} {t : Mem} (h : f_X2_readBoth rc p1 m = some t) : MxM g (d0 + 15) mi_X2_readBoth [.ref 14, .int p1] m (qV t) := mx_of pn_X2 (Nat.le_of_ble_eq_true rfl) (k_X2_readBoth_E hrc h ⟨rfl, rfl, rfl, rfl, rfl⟩)
abbrev A_X2_readEither_7 (g : Gx) (d0 : Nat) (Q : Qy) (s : Int32 × Int32 × Mem) : Prop := WpM g (d0 + 16) mi_X2_readEither 7 [some (.ref 14), some (.int s.1), some (.int s.2.1)] [] s.2.2 (zM g mi_X2_readEither Q)
abbrev P_X2_readEither_7 (g : Gx) (d0 : Nat) (Q : Qy) : ((Int32 × Int32 × Mem) ⊕ Mem) → Prop := pS (A_X2_readEither_7 g d0 Q) (pV Q)
noncomputable def f_X2_readEither_L7 (rc : Int32 → Int32 → Mem → Option Mem) (s : Int32 × Int32 × Mem) : Option ((Int32 × Int32 × Mem) ⊕ Mem) := if (120 : Int32) ≤ s.2.1 then up (some s.2.2) else if 0 ≤ (gI s.2.2 14 8) then up (some s.2.2) else (f_X2_next s.2.2).bind (fun q2 => if ¬ q2.1 = (124 : Int32) then up (some q2.2) else bnd (sI q2.2 14 7 ((gI q2.2 14 7) + (1 : Int32))) (fun m3 => (f_X2_readBoth rc s.1 m3).bind (fun q4 => (f_X2_emit (20124 : Int32) q4).bind (fun q5 => bnd (s.2.1 + (1 : Int32)) (fun y6 => some (Sum.inl (s.1, y6, q5)))))))
theorem k_X2_readEither_L7 {g : Gx} {d0 : Nat} {rc : Int32 → Int32 → Mem → Option Mem} (hrc : ∀ p1 p2 m t, rc p1 p2 m = some t → MxM g d0 mi_X2_readOpened [.ref 14, .int p1, .int p2] m (qV t)) {Q : Qy} {s : Int32 × Int32 × Mem} {t : (Int32 × Int32 × Mem) ⊕ Mem} (h : f_X2_readEither_L7 rc s = some t) (hP : P_X2_readEither_7 g d0 Q t) : A_X2_readEither_7 g d0 Q s := by
  refine wp_iload_n dX2_readEither_7 rfl rfl ?_
  refine wp_bipush (120 : Int32) dX2_readEither_8 ib_120 rfl ?_
  refine wm_icmp_ge 57 dX2_readEither_10 rfl rfl h (fun h => ?_) (fun h => ?_)
  · refine wm_up h hP (fun r h hP => ?_)
    exact wm_vret dX2_readEither_57 rfl ⟨rfl, rfl⟩ h hP
  · refine wp_aload_n dX2_readEither_13 rfl rfl ?_
    refine wm_getI dX2_readEither_14 s_14 fk_X2_29 rfl rfl ?_
    refine wm_if_ge 57 dX2_readEither_17 rfl rfl h (fun h => ?_) (fun h => ?_)
    · refine wm_up h hP (fun r h hP => ?_)
      exact wm_vret dX2_readEither_57 rfl ⟨rfl, rfl⟩ h hP
    · refine wp_aload_n dX2_readEither_20 rfl rfl ?_
      refine wm_callVI (As := []) (rest := []) dX2_readEither_21 ok_X2_38 (by omega) rfl s_14 ⟨_, rfl⟩ (Nat.le_of_ble_eq_true rfl) ⟨rfl, rfl⟩ rfl (fun t h => o_X2_next h) h (fun q2 h => ?_)
      refine wp_bipush (124 : Int32) dX2_readEither_24 ib_124 rfl ?_
      refine wm_icmp_ne 57 dX2_readEither_26 rfl rfl h (fun h => ?_) (fun h => ?_)
      · refine wm_up h hP (fun r h hP => ?_)
        exact wm_vret dX2_readEither_57 rfl ⟨rfl, rfl⟩ h hP
      · refine wp_aload_n dX2_readEither_29 rfl rfl ?_
        refine wp_dup dX2_readEither_30 rfl rfl ?_
        refine wm_getI dX2_readEither_31 s_14 fk_X2_26 rfl rfl ?_
        refine wp_iconst (1 : Int32) dX2_readEither_34 ic_1 rfl ?_
        refine wp_iadd dX2_readEither_35 rfl ?_
        refine wm_putI dX2_readEither_36 s_14 fk_X2_26 rfl rfl h (fun m3 h => ?_)
        refine wp_aload_n dX2_readEither_39 rfl rfl ?_
        refine wp_iload_n dX2_readEither_40 rfl rfl ?_
        refine wm_callVN (As := [.int s.1]) (rest := []) dX2_readEither_41 ok_X2_55 (by omega) rfl s_14 ⟨_, rfl⟩ (Nat.le_of_ble_eq_true rfl) ⟨rfl, rfl⟩ rfl (fun t h => o_X2_readBoth hrc h) h (fun q4 h => ?_)
        refine wp_aload_n dX2_readEither_44 rfl rfl ?_
        refine wp_sipush (20124 : Int32) dX2_readEither_45 is_20124 rfl ?_
        refine wm_callVN (As := [.int (20124 : Int32)]) (rest := []) dX2_readEither_48 ok_X2_52 (by omega) rfl s_14 ⟨_, rfl⟩ (Nat.le_of_ble_eq_true rfl) ⟨rfl, rfl⟩ rfl (fun t h => o_X2_emit h) h (fun q5 h => ?_)
        refine wm_inc dX2_readEither_51 rfl ii_1 (by decide) rfl rfl h (fun y6 h => ?_)
        refine wm_list (L' := [some (.ref 14), some (.int s.1), some (.int y6)]) rfl ?_
        refine wp_goto 7 dX2_readEither_54 rfl ?_
        have hB := wm_back h hP
        exact wm_mask (L' := [some (.ref 14), some (.int s.1), some (.int y6)]) [true, true, true] rfl (hB)
noncomputable def f_X2_readEither (rc : Int32 → Int32 → Mem → Option Mem) (p1 : Int32) (m : Mem) : Option Mem := (f_X2_readBoth rc p1 m).bind (fun q1 => wh (f_X2_readEither_L7 rc) (p1, (0 : Int32), q1))
theorem k_X2_readEither_E {g : Gx} {d0 : Nat} {rc : Int32 → Int32 → Mem → Option Mem} (hrc : ∀ p1 p2 m t, rc p1 p2 m = some t → MxM g d0 mi_X2_readOpened [.ref 14, .int p1, .int p2] m (qV t)) {p1 : Int32} {Q : Qy} {m : Mem} {t : Mem} (h : f_X2_readEither rc p1 m = some t) (hP : pV Q t) : WpM g (d0 + 16) mi_X2_readEither 0 [some (.ref 14), some (.int p1), none] [] m (zM g mi_X2_readEither Q) := by
  refine wp_aload_n dX2_readEither_0 rfl rfl ?_
  refine wp_iload_n dX2_readEither_1 rfl rfl ?_
  refine wm_callVN (As := [.int p1]) (rest := []) dX2_readEither_2 ok_X2_55 (by omega) rfl s_14 ⟨_, rfl⟩ (Nat.le_of_ble_eq_true rfl) ⟨rfl, rfl⟩ rfl (fun t h => o_X2_readBoth hrc h) h (fun q1 h => ?_)
  refine wp_iconst (0 : Int32) dX2_readEither_5 ic_0 rfl ?_
  refine wp_istore_n (L' := [some (.ref 14), some (.int p1), some (.int (0 : Int32))]) dX2_readEither_6 (by decide) rfl rfl rfl ?_
  have hB := wh_ok (A := A_X2_readEither_7 g d0 Q) (B := pV Q) (fun s t h hP => k_X2_readEither_L7 hrc h hP) h hP
  exact wm_mask (L' := [some (.ref 14), some (.int p1), some (.int (0 : Int32))]) [true, true, true] rfl (hB)
theorem o_X2_readEither {g : Gx} {d0 : Nat} {rc : Int32 → Int32 → Mem → Option Mem} (hrc : ∀ p1 p2 m t, rc p1 p2 m = some t → MxM g d0 mi_X2_readOpened [.ref 14, .int p1, .int p2] m (qV t)) {p1 : Int32} {m : Mem} {t : Mem} (h : f_X2_readEither rc p1 m = some t) : MxM g (d0 + 16) mi_X2_readEither [.ref 14, .int p1] m (qV t) := mx_of pn_X2 (Nat.le_of_ble_eq_true rfl) (k_X2_readEither_E hrc h ⟨rfl, rfl, rfl, rfl, rfl⟩)
