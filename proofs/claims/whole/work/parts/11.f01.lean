noncomputable def f_X2_readOpened_B (rc : Int32 → Int32 → Mem → Option Mem) (p1 : Int32) (p2 : Int32) (m : Mem) : Option Mem := if p1 = (40 : Int32) then (f_X2_readEither rc p2 m).bind (fun q1 => (f_X2_next q1).bind (fun q2 => if q2.1 = (41 : Int32) then bnd (sI q2.2 14 7 ((gI q2.2 14 7) + (1 : Int32))) (fun m3 => some m3) else (f_X2_refuse q2.2).bind (fun q4 => bnd (sI q4 14 7 ((gI q4 14 7) + (1 : Int32))) (fun m5 => some m5)))) else (f_X2_readOperand rc p2 m).bind (fun q6 => if ¬ p1 = (33 : Int32) then (f_X2_emit (20126 : Int32) q6).bind (fun q7 => some q7) else (f_X2_emit (20033 : Int32) q6).bind (fun q8 => some q8))
theorem k_X2_readOpened_E {g : Gx} {d0 : Nat} {rc : Int32 → Int32 → Mem → Option Mem} (hrc : ∀ p1 p2 m t, rc p1 p2 m = some t → MxM g d0 mi_X2_readOpened [.ref 14, .int p1, .int p2] m (qV t)) {p1 : Int32} {p2 : Int32} {Q : Qy} {m : Mem} {t : Mem} (h : f_X2_readOpened_B rc p1 p2 m = some t) (hP : pV Q t) : WpM g (d0 + 17) mi_X2_readOpened 0 [some (.ref 14), some (.int p1), some (.int p2)] [] m (zM g mi_X2_readOpened Q) := by
  refine wp_iload_n dX2_readOpened_0 rfl rfl ?_
  refine wp_bipush (40 : Int32) dX2_readOpened_1 ib_40 rfl ?_
  refine wm_icmp_eq 31 dX2_readOpened_3 rfl rfl h (fun h => ?_) (fun h => ?_)
  · refine wp_aload_n dX2_readOpened_31 rfl rfl ?_
    refine wp_iload_n dX2_readOpened_32 rfl rfl ?_
    refine wm_callVN (As := [.int p2]) (rest := []) dX2_readOpened_33 ok_X2_48 (by omega) rfl s_14 ⟨_, rfl⟩ (Nat.le_of_ble_eq_true rfl) ⟨rfl, rfl⟩ rfl (fun t h => o_X2_readEither hrc h) h (fun q1 h => ?_)
    refine wp_aload_n dX2_readOpened_36 rfl rfl ?_
    refine wm_callVI (As := []) (rest := []) dX2_readOpened_37 ok_X2_38 (by omega) rfl s_14 ⟨_, rfl⟩ (Nat.le_of_ble_eq_true rfl) ⟨rfl, rfl⟩ rfl (fun t h => o_X2_next h) h (fun q2 h => ?_)
    refine wp_bipush (41 : Int32) dX2_readOpened_40 ib_41 rfl ?_
    refine wm_icmp_eq 49 dX2_readOpened_42 rfl rfl h (fun h => ?_) (fun h => ?_)
    · refine wp_aload_n dX2_readOpened_49 rfl rfl ?_
      refine wp_dup dX2_readOpened_50 rfl rfl ?_
      refine wm_getI dX2_readOpened_51 s_14 fk_X2_26 rfl rfl ?_
      refine wp_iconst (1 : Int32) dX2_readOpened_54 ic_1 rfl ?_
      refine wp_iadd dX2_readOpened_55 rfl ?_
      refine wm_putI dX2_readOpened_56 s_14 fk_X2_26 rfl rfl h (fun m3 h => ?_)
      exact wm_vret dX2_readOpened_59 rfl ⟨rfl, rfl⟩ h hP
    · refine wp_aload_n dX2_readOpened_45 rfl rfl ?_
      refine wm_callVN (As := []) (rest := []) dX2_readOpened_46 ok_X2_42 (by omega) rfl s_14 ⟨_, rfl⟩ (Nat.le_of_ble_eq_true rfl) ⟨rfl, rfl⟩ rfl (fun t h => o_X2_refuse h) h (fun q4 h => ?_)
      refine wp_aload_n dX2_readOpened_49 rfl rfl ?_
      refine wp_dup dX2_readOpened_50 rfl rfl ?_
      refine wm_getI dX2_readOpened_51 s_14 fk_X2_26 rfl rfl ?_
      refine wp_iconst (1 : Int32) dX2_readOpened_54 ic_1 rfl ?_
      refine wp_iadd dX2_readOpened_55 rfl ?_
      refine wm_putI dX2_readOpened_56 s_14 fk_X2_26 rfl rfl h (fun m5 h => ?_)
      exact wm_vret dX2_readOpened_59 rfl ⟨rfl, rfl⟩ h hP
  · refine wp_aload_n dX2_readOpened_6 rfl rfl ?_
    refine wp_iload_n dX2_readOpened_7 rfl rfl ?_
    refine wm_callVN (As := [.int p2]) (rest := []) dX2_readOpened_8 ok_X2_67 (by omega) rfl s_14 ⟨_, rfl⟩ (Nat.le_of_ble_eq_true rfl) ⟨rfl, rfl⟩ rfl (fun t h => o_X2_readOperand hrc h) h (fun q6 h => ?_)
    refine wp_aload_n dX2_readOpened_11 rfl rfl ?_
    refine wp_iload_n dX2_readOpened_12 rfl rfl ?_
    refine wp_bipush (33 : Int32) dX2_readOpened_13 ib_33 rfl ?_
    refine wm_icmp_ne 24 dX2_readOpened_15 rfl rfl h (fun h => ?_) (fun h => ?_)
    · refine wp_sipush (20126 : Int32) dX2_readOpened_24 is_20126 rfl ?_
      refine wm_callVN (As := [.int (20126 : Int32)]) (rest := []) dX2_readOpened_27 ok_X2_52 (by omega) rfl s_14 ⟨_, rfl⟩ (Nat.le_of_ble_eq_true rfl) ⟨rfl, rfl⟩ rfl (fun t h => o_X2_emit h) h (fun q7 h => ?_)
      exact wm_vret dX2_readOpened_30 rfl ⟨rfl, rfl⟩ h hP
    · refine wp_sipush (20033 : Int32) dX2_readOpened_18 is_20033 rfl ?_
      refine wp_goto 27 dX2_readOpened_21 rfl ?_
      refine wm_callVN (As := [.int (20033 : Int32)]) (rest := []) dX2_readOpened_27 ok_X2_52 (by omega) rfl s_14 ⟨_, rfl⟩ (Nat.le_of_ble_eq_true rfl) ⟨rfl, rfl⟩ rfl (fun t h => o_X2_emit h) h (fun q8 h => ?_)
      exact wm_vret dX2_readOpened_30 rfl ⟨rfl, rfl⟩ h hP
theorem o_X2_readOpened_B {g : Gx} {d0 : Nat} {rc : Int32 → Int32 → Mem → Option Mem} (hrc : ∀ p1 p2 m t, rc p1 p2 m = some t → MxM g d0 mi_X2_readOpened [.ref 14, .int p1, .int p2] m (qV t)) {p1 : Int32} {p2 : Int32} {m : Mem} {t : Mem} (h : f_X2_readOpened_B rc p1 p2 m = some t) : MxM g (d0 + 17) mi_X2_readOpened [.ref 14, .int p1, .int p2] m (qV t) := mx_of pn_X2 (Nat.le_of_ble_eq_true rfl) (k_X2_readOpened_E hrc h ⟨rfl, rfl, rfl, rfl, rfl⟩)
noncomputable def f_X2_readOpened : Nat → Int32 → Int32 → Mem → Option Mem
  | 0, _, _, _ => none
  | n + 1, p1, p2, m => f_X2_readOpened_B (f_X2_readOpened n) p1 p2 m
theorem o_X2_readOpened {g : Gx} (n : Nat) : ∀ {p1 : Int32} {p2 : Int32} {m : Mem} {t : Mem}, f_X2_readOpened n p1 p2 m = some t → MxM g (17 * n) mi_X2_readOpened [.ref 14, .int p1, .int p2] m (qV t) := by
  induction n with
  | zero => intro _ _ _ _ h; cases h
  | succ n ih => intro p1 p2 m t h; exact o_X2_readOpened_B (d0 := 17 * n) (fun _ _ _ _ h => ih h) h
noncomputable def f_X2_readLine   (m : Mem) : Option Mem := (f_X2_readEither (f_X2_readOpened 8) (0 : Int32) m).bind (fun q1 => if 0 ≤ (gI q1 14 8) then (f_X2_emit (20059 : Int32) q1).bind (fun q2 => some q2) else (f_X2_next q1).bind (fun q3 => if ¬ q3.1 = (63 : Int32) then (f_X2_emit (20059 : Int32) q3.2).bind (fun q4 => some q4) else bnd (sI q3.2 14 7 ((gI q3.2 14 7) + (1 : Int32))) (fun m5 => (f_X2_emit (20063 : Int32) m5).bind (fun q6 => (f_X2_readEither (f_X2_readOpened 8) (0 : Int32) q6).bind (fun q7 => (f_X2_emit (20059 : Int32) q7).bind (fun q8 => some q8))))))
theorem k_X2_readLine_E {g : Gx}   {Q : Qy} {m : Mem} {t : Mem} (h : f_X2_readLine m = some t) (hP : pV Q t) : WpM g 153 mi_X2_readLine 0 [some (.ref 14)] [] m (zM g mi_X2_readLine Q) := by
  refine wp_aload_n dX2_readLine_0 rfl rfl ?_
  refine wp_iconst (0 : Int32) dX2_readLine_1 ic_0 rfl ?_
  refine wm_callVN (As := [.int (0 : Int32)]) (rest := []) dX2_readLine_2 ok_X2_48 (by decide) rfl s_14 ⟨_, rfl⟩ (Nat.le_of_ble_eq_true rfl) ⟨rfl, rfl⟩ rfl (fun t h => o_X2_readEither (fun _ _ _ _ h => o_X2_readOpened 8 h) h) h (fun q1 h => ?_)
  refine wp_aload_n dX2_readLine_5 rfl rfl ?_
  refine wm_getI dX2_readLine_6 s_14 fk_X2_29 rfl rfl ?_
  refine wm_if_ge 43 dX2_readLine_9 rfl rfl h (fun h => ?_) (fun h => ?_)
  · refine wp_aload_n dX2_readLine_43 rfl rfl ?_
    refine wp_sipush (20059 : Int32) dX2_readLine_44 is_20059 rfl ?_
    refine wm_callVN (As := [.int (20059 : Int32)]) (rest := []) dX2_readLine_47 ok_X2_52 (by decide) rfl s_14 ⟨_, rfl⟩ (Nat.le_of_ble_eq_true rfl) ⟨rfl, rfl⟩ rfl (fun t h => o_X2_emit h) h (fun q2 h => ?_)
    exact wm_vret dX2_readLine_50 rfl ⟨rfl, rfl⟩ h hP
  · refine wp_aload_n dX2_readLine_12 rfl rfl ?_
    refine wm_callVI (As := []) (rest := []) dX2_readLine_13 ok_X2_38 (by decide) rfl s_14 ⟨_, rfl⟩ (Nat.le_of_ble_eq_true rfl) ⟨rfl, rfl⟩ rfl (fun t h => o_X2_next h) h (fun q3 h => ?_)
    refine wp_bipush (63 : Int32) dX2_readLine_16 ib_63 rfl ?_
    refine wm_icmp_ne 43 dX2_readLine_18 rfl rfl h (fun h => ?_) (fun h => ?_)
    · refine wp_aload_n dX2_readLine_43 rfl rfl ?_
      refine wp_sipush (20059 : Int32) dX2_readLine_44 is_20059 rfl ?_
      refine wm_callVN (As := [.int (20059 : Int32)]) (rest := []) dX2_readLine_47 ok_X2_52 (by decide) rfl s_14 ⟨_, rfl⟩ (Nat.le_of_ble_eq_true rfl) ⟨rfl, rfl⟩ rfl (fun t h => o_X2_emit h) h (fun q4 h => ?_)
      exact wm_vret dX2_readLine_50 rfl ⟨rfl, rfl⟩ h hP
    · refine wp_aload_n dX2_readLine_21 rfl rfl ?_
      refine wp_dup dX2_readLine_22 rfl rfl ?_
      refine wm_getI dX2_readLine_23 s_14 fk_X2_26 rfl rfl ?_
      refine wp_iconst (1 : Int32) dX2_readLine_26 ic_1 rfl ?_
      refine wp_iadd dX2_readLine_27 rfl ?_
      refine wm_putI dX2_readLine_28 s_14 fk_X2_26 rfl rfl h (fun m5 h => ?_)
      refine wp_aload_n dX2_readLine_31 rfl rfl ?_
      refine wp_sipush (20063 : Int32) dX2_readLine_32 is_20063 rfl ?_
      refine wm_callVN (As := [.int (20063 : Int32)]) (rest := []) dX2_readLine_35 ok_X2_52 (by decide) rfl s_14 ⟨_, rfl⟩ (Nat.le_of_ble_eq_true rfl) ⟨rfl, rfl⟩ rfl (fun t h => o_X2_emit h) h (fun q6 h => ?_)
      refine wp_aload_n dX2_readLine_38 rfl rfl ?_
      refine wp_iconst (0 : Int32) dX2_readLine_39 ic_0 rfl ?_
      refine wm_callVN (As := [.int (0 : Int32)]) (rest := []) dX2_readLine_40 ok_X2_48 (by decide) rfl s_14 ⟨_, rfl⟩ (Nat.le_of_ble_eq_true rfl) ⟨rfl, rfl⟩ rfl (fun t h => o_X2_readEither (fun _ _ _ _ h => o_X2_readOpened 8 h) h) h (fun q7 h => ?_)
      refine wp_aload_n dX2_readLine_43 rfl rfl ?_
      refine wp_sipush (20059 : Int32) dX2_readLine_44 is_20059 rfl ?_
      refine wm_callVN (As := [.int (20059 : Int32)]) (rest := []) dX2_readLine_47 ok_X2_52 (by decide) rfl s_14 ⟨_, rfl⟩ (Nat.le_of_ble_eq_true rfl) ⟨rfl, rfl⟩ rfl (fun t h => o_X2_emit h) h (fun q8 h => ?_)
      exact wm_vret dX2_readLine_50 rfl ⟨rfl, rfl⟩ h hP
theorem o_X2_readLine {g : Gx}   {m : Mem} {t : Mem} (h : f_X2_readLine m = some t) : MxM g 153 mi_X2_readLine [.ref 14] m (qV t) := mx_of pn_X2 (Nat.le_of_ble_eq_true rfl) (k_X2_readLine_E h ⟨rfl, rfl, rfl, rfl, rfl⟩)
abbrev A_X2_enact_21 (g : Gx)  (Q : Qy) (s : Int32 × Mem) : Prop := WpM g 154 mi_X2_enact 21 [some (.ref 14), some (.int s.1)] [] s.2 (zM g mi_X2_enact Q)
abbrev P_X2_enact_21 (g : Gx)  (Q : Qy) : ((Int32 × Mem) ⊕ (Int32 × Mem)) → Prop := pS (A_X2_enact_21 g Q) (pI Q)
noncomputable def f_X2_enact_J78   (m : Mem) : Option (Int32 × Mem) := bnd (sI m 14 2 (0 : Int32)) (fun m5 => if 0 ≤ (gI m5 14 8) then some ((gI m5 14 8), m5) else bnd (sB m5) (fun m6 => bnd (sI m6 14 5 (gI m6 14 6)) (fun m7 => some ((gI m7 14 8), m7))))
theorem k_X2_enact_J78 {g : Gx}    {Q : Qy} {m : Mem} {t : Int32 × Mem} (h : f_X2_enact_J78 m = some t) (hP : pI Q t) : WpM g 154 mi_X2_enact 78 [some (.ref 14), none] [] m (zM g mi_X2_enact Q) := by
  refine wp_aload_n dX2_enact_78 rfl rfl ?_
  refine wp_iconst (0 : Int32) dX2_enact_79 ic_0 rfl ?_
  refine wm_putI dX2_enact_80 s_14 fk_X2_22 rfl rfl h (fun m5 h => ?_)
  refine wp_aload_n dX2_enact_83 rfl rfl ?_
  refine wm_getI dX2_enact_84 s_14 fk_X2_29 rfl rfl ?_
  refine wm_if_ge 116 dX2_enact_87 rfl rfl h (fun h => ?_) (fun h => ?_)
  · refine wp_aload_n dX2_enact_116 rfl rfl ?_
    refine wm_getI dX2_enact_117 s_14 fk_X2_29 rfl rfl ?_
    exact wm_iret dX2_enact_120 rfl ⟨rfl, rfl⟩ h hP
  · refine wp_aload_n dX2_enact_90 rfl rfl ?_
    refine wm_getC dX2_enact_91 s_14 fk_X2_16 rfl r_14_3 rfl ?_
    refine wp_astore_n (L' := [some (.ref 14), some (.ref (cC m5.2.2))]) dX2_enact_94 (by decide) rfl rfl rfl ?_
    refine wp_aload_n dX2_enact_95 rfl rfl ?_
    refine wp_aload_n dX2_enact_96 rfl rfl ?_
    refine wm_getC dX2_enact_97 s_14 fk_X2_19 rfl r_14_4 rfl ?_
    refine wp_putR dX2_enact_100 s_14 fk_X2_16 rfl (fun q => ⟨rfl, rfl⟩) rfl ?_
    refine wp_aload_n dX2_enact_103 rfl rfl ?_
    refine wp_aload_n dX2_enact_104 rfl rfl ?_
    refine wp_putR dX2_enact_105 s_14 fk_X2_19 rfl (fun q => ⟨rfl, rfl⟩) rfl ?_
    rw [r_swap]
    refine wm_gen (m := sB m5) h (fun m6 h => ?_)
    refine wm_mask [true, false] rfl ?_
    refine wp_aload_n dX2_enact_108 rfl rfl ?_
    refine wp_aload_n dX2_enact_109 rfl rfl ?_
    refine wm_getI dX2_enact_110 s_14 fk_X2_32 rfl rfl ?_
    refine wm_putI dX2_enact_113 s_14 fk_X2_45 rfl rfl h (fun m7 h => ?_)
    refine wp_aload_n dX2_enact_116 rfl rfl ?_
    refine wm_getI dX2_enact_117 s_14 fk_X2_29 rfl rfl ?_
    exact wm_iret dX2_enact_120 rfl ⟨rfl, rfl⟩ h hP
noncomputable def f_X2_enact_J63   (m : Mem) : Option (Int32 × Mem) := if (gI m 14 2) ≤ (gI m 14 7) then f_X2_enact_J78 m else (f_X2_refuse m).bind (fun q8 => f_X2_enact_J78 q8)
theorem k_X2_enact_J63 {g : Gx}    {Q : Qy} {m : Mem} {t : Int32 × Mem} (h : f_X2_enact_J63 m = some t) (hP : pI Q t) : WpM g 154 mi_X2_enact 63 [some (.ref 14), none] [] m (zM g mi_X2_enact Q) := by
  refine wp_aload_n dX2_enact_63 rfl rfl ?_
  refine wm_getI dX2_enact_64 s_14 fk_X2_26 rfl rfl ?_
  refine wp_aload_n dX2_enact_67 rfl rfl ?_
  refine wm_getI dX2_enact_68 s_14 fk_X2_22 rfl rfl ?_
  refine wm_icmp_ge 78 dX2_enact_71 rfl rfl h (fun h => ?_) (fun h => ?_)
  · exact wm_mask (L' := [some (.ref 14), none]) [true, false] rfl (k_X2_enact_J78  h hP)
  · refine wp_aload_n dX2_enact_74 rfl rfl ?_
    refine wm_callVN (As := []) (rest := []) dX2_enact_75 ok_X2_42 (by decide) rfl s_14 ⟨_, rfl⟩ (Nat.le_of_ble_eq_true rfl) ⟨rfl, rfl⟩ rfl (fun t h => o_X2_refuse h) h (fun q8 h => ?_)
    exact wm_mask (L' := [some (.ref 14), none]) [true, false] rfl (k_X2_enact_J78  h hP)
noncomputable def f_X2_enact_L21  (s : Int32 × Mem) : Option ((Int32 × Mem) ⊕ (Int32 × Mem)) := if (120 : Int32) ≤ s.1 then up (f_X2_enact_J63 s.2) else if 0 ≤ (gI s.2 14 8) then up (f_X2_enact_J63 s.2) else (f_X2_next s.2).bind (fun q9 => if ¬ q9.1 = (59 : Int32) then up (f_X2_enact_J63 q9.2) else bnd (sI q9.2 14 7 ((gI q9.2 14 7) + (1 : Int32))) (fun m10 => (f_X2_readLine m10).bind (fun q11 => bnd (s.1 + (1 : Int32)) (fun y12 => some (Sum.inl (y12, q11))))))
theorem k_X2_enact_L21 {g : Gx}  {Q : Qy} {s : Int32 × Mem} {t : (Int32 × Mem) ⊕ (Int32 × Mem)} (h : f_X2_enact_L21 s = some t) (hP : P_X2_enact_21 g Q t) : A_X2_enact_21 g Q s := by
  refine wp_iload_n dX2_enact_21 rfl rfl ?_
  refine wp_bipush (120 : Int32) dX2_enact_22 ib_120 rfl ?_
  refine wm_icmp_ge 63 dX2_enact_24 rfl rfl h (fun h => ?_) (fun h => ?_)
  · refine wm_up h hP (fun r h hP => ?_)
    exact wm_mask (L' := [some (.ref 14), none]) [true, false] rfl (k_X2_enact_J63  h hP)
  · refine wp_aload_n dX2_enact_27 rfl rfl ?_
    refine wm_getI dX2_enact_28 s_14 fk_X2_29 rfl rfl ?_
    refine wm_if_ge 63 dX2_enact_31 rfl rfl h (fun h => ?_) (fun h => ?_)
    · refine wm_up h hP (fun r h hP => ?_)
      exact wm_mask (L' := [some (.ref 14), none]) [true, false] rfl (k_X2_enact_J63  h hP)
    · refine wp_aload_n dX2_enact_34 rfl rfl ?_
      refine wm_callVI (As := []) (rest := []) dX2_enact_35 ok_X2_38 (by decide) rfl s_14 ⟨_, rfl⟩ (Nat.le_of_ble_eq_true rfl) ⟨rfl, rfl⟩ rfl (fun t h => o_X2_next h) h (fun q9 h => ?_)
      refine wp_bipush (59 : Int32) dX2_enact_38 ib_59 rfl ?_
      refine wm_icmp_ne 63 dX2_enact_40 rfl rfl h (fun h => ?_) (fun h => ?_)
      · refine wm_up h hP (fun r h hP => ?_)
        exact wm_mask (L' := [some (.ref 14), none]) [true, false] rfl (k_X2_enact_J63  h hP)
      · refine wp_aload_n dX2_enact_43 rfl rfl ?_
        refine wp_dup dX2_enact_44 rfl rfl ?_
        refine wm_getI dX2_enact_45 s_14 fk_X2_26 rfl rfl ?_
        refine wp_iconst (1 : Int32) dX2_enact_48 ic_1 rfl ?_
        refine wp_iadd dX2_enact_49 rfl ?_
        refine wm_putI dX2_enact_50 s_14 fk_X2_26 rfl rfl h (fun m10 h => ?_)
        refine wp_aload_n dX2_enact_53 rfl rfl ?_
        refine wm_callVN (As := []) (rest := []) dX2_enact_54 ok_X2_35 (by decide) rfl s_14 ⟨_, rfl⟩ (Nat.le_of_ble_eq_true rfl) ⟨rfl, rfl⟩ rfl (fun t h => o_X2_readLine h) h (fun q11 h => ?_)
        refine wm_inc dX2_enact_57 rfl ii_1 (by decide) rfl rfl h (fun y12 h => ?_)
        refine wm_list (L' := [some (.ref 14), some (.int y12)]) rfl ?_
        refine wp_goto 21 dX2_enact_60 rfl ?_
        have hB := wm_back h hP
        exact wm_mask (L' := [some (.ref 14), some (.int y12)]) [true, true] rfl (hB)
noncomputable def f_X2_enact   (m : Mem) : Option (Int32 × Mem) := bnd (sI m 14 7 (0 : Int32)) (fun m1 => bnd (sI m1 14 8 (-1 : Int32)) (fun m2 => bnd (sI m2 14 6 (0 : Int32)) (fun m3 => (f_X2_readLine m3).bind (fun q4 => wh (f_X2_enact_L21) ((0 : Int32), q4)))))
theorem k_X2_enact_E {g : Gx}   {Q : Qy} {m : Mem} {t : Int32 × Mem} (h : f_X2_enact m = some t) (hP : pI Q t) : WpM g 154 mi_X2_enact 0 [some (.ref 14), none] [] m (zM g mi_X2_enact Q) := by
  refine wp_aload_n dX2_enact_0 rfl rfl ?_
  refine wp_iconst (0 : Int32) dX2_enact_1 ic_0 rfl ?_
  refine wm_putI dX2_enact_2 s_14 fk_X2_26 rfl rfl h (fun m1 h => ?_)
  refine wp_aload_n dX2_enact_5 rfl rfl ?_
  refine wp_iconst (-1 : Int32) dX2_enact_6 ic_m1 rfl ?_
  refine wm_putI dX2_enact_7 s_14 fk_X2_29 rfl rfl h (fun m2 h => ?_)
  refine wp_aload_n dX2_enact_10 rfl rfl ?_
  refine wp_iconst (0 : Int32) dX2_enact_11 ic_0 rfl ?_
  refine wm_putI dX2_enact_12 s_14 fk_X2_32 rfl rfl h (fun m3 h => ?_)
  refine wp_aload_n dX2_enact_15 rfl rfl ?_
  refine wm_callVN (As := []) (rest := []) dX2_enact_16 ok_X2_35 (by decide) rfl s_14 ⟨_, rfl⟩ (Nat.le_of_ble_eq_true rfl) ⟨rfl, rfl⟩ rfl (fun t h => o_X2_readLine h) h (fun q4 h => ?_)
  refine wp_iconst (0 : Int32) dX2_enact_19 ic_0 rfl ?_
  refine wp_istore_n (L' := [some (.ref 14), some (.int (0 : Int32))]) dX2_enact_20 (by decide) rfl rfl rfl ?_
  have hB := wh_ok (A := A_X2_enact_21 g Q) (B := pI Q) (fun s t h hP => k_X2_enact_L21  h hP) h hP
  exact wm_mask (L' := [some (.ref 14), some (.int (0 : Int32))]) [true, true] rfl (hB)
theorem o_X2_enact {g : Gx}   {m : Mem} {t : Int32 × Mem} (h : f_X2_enact m = some t) : MxM g 154 mi_X2_enact [.ref 14] m (qI t) := mx_of pn_X2 (Nat.le_of_ble_eq_true rfl) (k_X2_enact_E h ⟨rfl, rfl, rfl, rfl, rfl⟩)
noncomputable def f_X2_isFull   (m : Mem) : Option (Int32 × Mem) := if (gI m 14 2) < (120 : Int32) then bz (0 : Int32) (some ((0 : Int32), m)) else bz (1 : Int32) (some ((1 : Int32), m))
theorem k_X2_isFull_E {g : Gx}   {Q : Qy} {m : Mem} {t : Int32 × Mem} (h : f_X2_isFull m = some t) (hP : pI Q t) : WpM g 1 mi_X2_isFull 0 [some (.ref 14)] [] m (zM g mi_X2_isFull Q) := by
  refine wp_aload_n dX2_isFull_0 rfl rfl ?_
  refine wm_getI dX2_isFull_1 s_14 fk_X2_22 rfl rfl ?_
  refine wp_bipush (120 : Int32) dX2_isFull_4 ib_120 rfl ?_
  refine wm_icmp_lt 13 dX2_isFull_6 rfl rfl h (fun h => ?_) (fun h => ?_)
  · refine wp_iconst (0 : Int32) dX2_isFull_13 ic_0 rfl ?_
    exact wm_zret dX2_isFull_14 rfl ⟨rfl, rfl⟩ h hP
  · refine wp_iconst (1 : Int32) dX2_isFull_9 ic_1 rfl ?_
    refine wp_goto 14 dX2_isFull_10 rfl ?_
    exact wm_zret dX2_isFull_14 rfl ⟨rfl, rfl⟩ h hP
theorem o_X2_isFull {g : Gx}   {m : Mem} {t : Int32 × Mem} (h : f_X2_isFull m = some t) : MxM g 1 mi_X2_isFull [.ref 14] m (qI t) := mx_of pn_X2 (Nat.le_of_ble_eq_true rfl) (k_X2_isFull_E h ⟨rfl, rfl, rfl, rfl, rfl⟩)
noncomputable def f_X2_joined  (p1 : Int32) (p2 : Int32) (p3 : Int32) (m : Mem) : Option (Int32 × Mem) := sw p1 [((38 : Int32), if p2 = 0 then some ((0 : Int32), m) else if p3 = 0 then some ((0 : Int32), m) else some ((1 : Int32), m)), ((42 : Int32), some ((p2 * p3), m)), ((43 : Int32), some ((p2 + p3), m)), ((45 : Int32), some ((p2 - p3), m)), ((47 : Int32), if ¬ p3 = 0 then dv p3 (some ((p2 / p3), m)) else some ((0 : Int32), m)), ((60 : Int32), if p3 ≤ p2 then some ((0 : Int32), m) else some ((1 : Int32), m)), ((61 : Int32), if ¬ p2 = p3 then some ((0 : Int32), m) else some ((1 : Int32), m)), ((62 : Int32), if p2 ≤ p3 then some ((0 : Int32), m) else some ((1 : Int32), m)), ((124 : Int32), if ¬ p2 = 0 then some ((1 : Int32), m) else if p3 = 0 then some ((0 : Int32), m) else some ((1 : Int32), m))] (if ¬ p3 = 0 then dv p3 (some ((p2 - p2 / p3 * p3), m)) else some ((0 : Int32), m))
theorem k_X2_joined_E {g : Gx}  {p1 : Int32} {p2 : Int32} {p3 : Int32} {Q : Qy} {m : Mem} {t : Int32 × Mem} (h : f_X2_joined p1 p2 p3 m = some t) (hP : pI Q t) : WpM g 1 mi_X2_joined 0 [some (.int p1), some (.int p2), some (.int p3)] [] m (zM g mi_X2_joined Q) := by
  refine wp_iload_n dX2_joined_0 rfl rfl ?_
  refine wm_lsw [((38 : Int32), 98), ((42 : Int32), 153), ((43 : Int32), 145), ((45 : Int32), 149), ((47 : Int32), 157), ((60 : Int32), 112), ((61 : Int32), 123), ((62 : Int32), 134), ((124 : Int32), 84)] 169 dX2_joined_1 (by decide +kernel) rfl (by decide +kernel) (lsw_off (by decide +kernel)) (by decide +kernel) h rfl ⟨fun h => ?_, fun h => ?_, fun h => ?_, fun h => ?_, fun h => ?_, fun h => ?_, fun h => ?_, fun h => ?_, fun h => ?_, trivial⟩ (fun h => ?_)
  · refine wp_iload_n dX2_joined_98 rfl rfl ?_
    refine wm_if_eq 110 dX2_joined_99 rfl rfl h (fun h => ?_) (fun h => ?_)
    · refine wp_iconst (0 : Int32) dX2_joined_110 ic_0 rfl ?_
      exact wm_iret dX2_joined_111 rfl ⟨rfl, rfl⟩ h hP
    · refine wp_iload_n dX2_joined_102 rfl rfl ?_
      refine wm_if_eq 110 dX2_joined_103 rfl rfl h (fun h => ?_) (fun h => ?_)
      · refine wp_iconst (0 : Int32) dX2_joined_110 ic_0 rfl ?_
        exact wm_iret dX2_joined_111 rfl ⟨rfl, rfl⟩ h hP
      · refine wp_iconst (1 : Int32) dX2_joined_106 ic_1 rfl ?_
        refine wp_goto 111 dX2_joined_107 rfl ?_
        exact wm_iret dX2_joined_111 rfl ⟨rfl, rfl⟩ h hP
  · refine wp_iload_n dX2_joined_153 rfl rfl ?_
    refine wp_iload_n dX2_joined_154 rfl rfl ?_
    refine wp_imul dX2_joined_155 rfl ?_
    exact wm_iret dX2_joined_156 rfl ⟨rfl, rfl⟩ h hP
  · refine wp_iload_n dX2_joined_145 rfl rfl ?_
    refine wp_iload_n dX2_joined_146 rfl rfl ?_
    refine wp_iadd dX2_joined_147 rfl ?_
    exact wm_iret dX2_joined_148 rfl ⟨rfl, rfl⟩ h hP
  · refine wp_iload_n dX2_joined_149 rfl rfl ?_
    refine wp_iload_n dX2_joined_150 rfl rfl ?_
    refine wp_isub dX2_joined_151 rfl ?_
    exact wm_iret dX2_joined_152 rfl ⟨rfl, rfl⟩ h hP
  · refine wp_iload_n dX2_joined_157 rfl rfl ?_
    refine wm_if_ne 165 dX2_joined_158 rfl rfl h (fun h => ?_) (fun h => ?_)
    · refine wp_iload_n dX2_joined_165 rfl rfl ?_
      refine wp_iload_n dX2_joined_166 rfl rfl ?_
      refine wm_idiv dX2_joined_167 rfl h (fun h => ?_)
      exact wm_iret dX2_joined_168 rfl ⟨rfl, rfl⟩ h hP
    · refine wp_iconst (0 : Int32) dX2_joined_161 ic_0 rfl ?_
      refine wp_goto 168 dX2_joined_162 rfl ?_
      exact wm_iret dX2_joined_168 rfl ⟨rfl, rfl⟩ h hP
  · refine wp_iload_n dX2_joined_112 rfl rfl ?_
    refine wp_iload_n dX2_joined_113 rfl rfl ?_
    refine wm_icmp_ge 121 dX2_joined_114 rfl rfl h (fun h => ?_) (fun h => ?_)
    · refine wp_iconst (0 : Int32) dX2_joined_121 ic_0 rfl ?_
      exact wm_iret dX2_joined_122 rfl ⟨rfl, rfl⟩ h hP
    · refine wp_iconst (1 : Int32) dX2_joined_117 ic_1 rfl ?_
      refine wp_goto 122 dX2_joined_118 rfl ?_
      exact wm_iret dX2_joined_122 rfl ⟨rfl, rfl⟩ h hP
  · refine wp_iload_n dX2_joined_123 rfl rfl ?_
    refine wp_iload_n dX2_joined_124 rfl rfl ?_
    refine wm_icmp_ne 132 dX2_joined_125 rfl rfl h (fun h => ?_) (fun h => ?_)
    · refine wp_iconst (0 : Int32) dX2_joined_132 ic_0 rfl ?_
      exact wm_iret dX2_joined_133 rfl ⟨rfl, rfl⟩ h hP
    · refine wp_iconst (1 : Int32) dX2_joined_128 ic_1 rfl ?_
      refine wp_goto 133 dX2_joined_129 rfl ?_
      exact wm_iret dX2_joined_133 rfl ⟨rfl, rfl⟩ h hP
  · refine wp_iload_n dX2_joined_134 rfl rfl ?_
    refine wp_iload_n dX2_joined_135 rfl rfl ?_
    refine wm_icmp_le 143 dX2_joined_136 rfl rfl h (fun h => ?_) (fun h => ?_)
    · refine wp_iconst (0 : Int32) dX2_joined_143 ic_0 rfl ?_
      exact wm_iret dX2_joined_144 rfl ⟨rfl, rfl⟩ h hP
    · refine wp_iconst (1 : Int32) dX2_joined_139 ic_1 rfl ?_
      refine wp_goto 144 dX2_joined_140 rfl ?_
      exact wm_iret dX2_joined_144 rfl ⟨rfl, rfl⟩ h hP
  · refine wp_iload_n dX2_joined_84 rfl rfl ?_
    refine wm_if_ne 92 dX2_joined_85 rfl rfl h (fun h => ?_) (fun h => ?_)
    · refine wp_iconst (1 : Int32) dX2_joined_92 ic_1 rfl ?_
      refine wp_goto 97 dX2_joined_93 rfl ?_
      exact wm_iret dX2_joined_97 rfl ⟨rfl, rfl⟩ h hP
    · refine wp_iload_n dX2_joined_88 rfl rfl ?_
      refine wm_if_eq 96 dX2_joined_89 rfl rfl h (fun h => ?_) (fun h => ?_)
      · refine wp_iconst (0 : Int32) dX2_joined_96 ic_0 rfl ?_
        exact wm_iret dX2_joined_97 rfl ⟨rfl, rfl⟩ h hP
      · refine wp_iconst (1 : Int32) dX2_joined_92 ic_1 rfl ?_
        refine wp_goto 97 dX2_joined_93 rfl ?_
        exact wm_iret dX2_joined_97 rfl ⟨rfl, rfl⟩ h hP
  · refine wp_iload_n dX2_joined_169 rfl rfl ?_
    refine wm_if_ne 177 dX2_joined_170 rfl rfl h (fun h => ?_) (fun h => ?_)
    · refine wp_iload_n dX2_joined_177 rfl rfl ?_
      refine wp_iload_n dX2_joined_178 rfl rfl ?_
      refine wm_irem dX2_joined_179 rfl h (fun h => ?_)
      exact wm_iret dX2_joined_180 rfl ⟨rfl, rfl⟩ h hP
    · refine wp_iconst (0 : Int32) dX2_joined_173 ic_0 rfl ?_
      refine wp_goto 180 dX2_joined_174 rfl ?_
      exact wm_iret dX2_joined_180 rfl ⟨rfl, rfl⟩ h hP
theorem o_X2_joined {g : Gx}  {p1 : Int32} {p2 : Int32} {p3 : Int32} {m : Mem} {t : Int32 × Mem} (h : f_X2_joined p1 p2 p3 m = some t) : MxM g 1 mi_X2_joined [.int p1, .int p2, .int p3] m (qI t) := mx_of pn_X2 (Nat.le_of_ble_eq_true rfl) (k_X2_joined_E h ⟨rfl, rfl, rfl, rfl, rfl⟩)
abbrev A_X2_value_35 (g : Gx) (ag : Nat) (Q : Qy) (s : Int32 × Int32 × Int32 × Mem) : Prop := WpM g 2 mi_X2_value 35 [some (.ref 14), some (.ref ag), some (.int s.1), some (.int s.2.1), some (.int s.2.2.1), none] [] s.2.2.2 (zM g mi_X2_value Q)
abbrev P_X2_value_35 (g : Gx) (ag : Nat) (Q : Qy) : ((Int32 × Int32 × Int32 × Mem) ⊕ (Int32 × Mem)) → Prop := pS (A_X2_value_35 g ag Q) (pI Q)
noncomputable def f_X2_value_J191 (ag : Nat) (v2 : Int32) (v3 : Int32) (v4 : Int32) (v5 : Int32) (m : Mem) : Option ((Int32 × Int32 × Int32 × Mem) ⊕ (Int32 × Mem)) := if ¬ v5 = (20126 : Int32) then ck (v2 - (1 : Int32)) 128 (if ¬ (gI m 16 (ix (v2 - (1 : Int32)))) = 0 then (f_X2_bit (0 : Int32) m).bind (fun q2 => ck (v2 - (1 : Int32)) 128 (bnd (sI q2.2 16 (ix (v2 - (1 : Int32))) q2.1) (fun m3 => bnd (v4 + (1 : Int32)) (fun y4 => some (Sum.inl (v2, v3, y4, m3)))))) else (f_X2_bit (1 : Int32) m).bind (fun q5 => ck (v2 - (1 : Int32)) 128 (bnd (sI q5.2 16 (ix (v2 - (1 : Int32))) q5.1) (fun m6 => bnd (v4 + (1 : Int32)) (fun y7 => some (Sum.inl (v2, v3, y7, m6))))))) else ck (v2 - (1 : Int32)) 128 (ck (v2 - (1 : Int32)) 128 (bnd (sI m 16 (ix (v2 - (1 : Int32))) (-(gI m 16 (ix (v2 - (1 : Int32)))))) (fun m8 => bnd (v4 + (1 : Int32)) (fun y9 => some (Sum.inl (v2, v3, y9, m8))))))
theorem k_X2_value_J191 {g : Gx} {ag : Nat} (hag : shF[ag]? = some (0, 8)) {v2 : Int32} {v3 : Int32} {v4 : Int32} {v5 : Int32}  {Q : Qy} {m : Mem} {t : (Int32 × Int32 × Int32 × Mem) ⊕ (Int32 × Mem)} (h : f_X2_value_J191 ag v2 v3 v4 v5 m = some t) (hP : P_X2_value_35 g ag Q t) : WpM g 2 mi_X2_value 191 [some (.ref 14), some (.ref ag), some (.int v2), some (.int v3), some (.int v4), some (.int v5)] [] m (zM g mi_X2_value Q) := by
  refine wp_aload_n dX2_value_191 rfl rfl ?_
  refine wm_getR dX2_value_192 s_14 fk_X2_13 rfl r_14_1 rfl ?_
  refine wp_iload_n dX2_value_195 rfl rfl ?_
  refine wp_iconst (1 : Int32) dX2_value_196 ic_1 rfl ?_
  refine wp_isub dX2_value_197 rfl ?_
  refine wp_iload dX2_value_198 rfl rfl ?_
  refine wp_sipush (20126 : Int32) dX2_value_200 is_20126 rfl ?_
  refine wm_icmp_ne 218 dX2_value_203 rfl rfl h (fun h => ?_) (fun h => ?_)
  · refine wp_aload_n dX2_value_218 rfl rfl ?_
    refine wm_getR dX2_value_219 s_14 fk_X2_13 rfl r_14_1 rfl ?_
    refine wp_iload_n dX2_value_222 rfl rfl ?_
    refine wp_iconst (1 : Int32) dX2_value_223 ic_1 rfl ?_
    refine wp_isub dX2_value_224 rfl ?_
    refine wm_iald dX2_value_225 s_16 rfl h (fun h => ?_)
    refine wm_if_ne 233 dX2_value_226 rfl rfl h (fun h => ?_) (fun h => ?_)
    · refine wp_iconst (0 : Int32) dX2_value_233 ic_0 rfl ?_
      refine wm_callSI (As := [.int (0 : Int32)]) (rest := [.int (v2 - (1 : Int32)), .ref 16]) dX2_value_234 ok_X2_89 (by decide) rfl (Nat.le_of_ble_eq_true rfl) ⟨rfl, rfl⟩ rfl (fun t h => o_X2_bit h) h (fun q2 h => ?_)
      refine wm_iast dX2_value_237 s_16 rfl h (fun m3 h => ?_)
      refine wp_goto 280 dX2_value_238 rfl ?_
      refine wm_inc dX2_value_280 rfl ii_1 (by decide) rfl rfl h (fun y4 h => ?_)
      refine wm_list (L' := [some (.ref 14), some (.ref ag), some (.int v2), some (.int v3), some (.int y4), some (.int v5)]) rfl ?_
      refine wp_goto 35 dX2_value_283 rfl ?_
      have hB := wm_back h hP
      exact wm_mask (L' := [some (.ref 14), some (.ref ag), some (.int v2), some (.int v3), some (.int y4), none]) [true, true, true, true, true, false] rfl (hB)
    · refine wp_iconst (1 : Int32) dX2_value_229 ic_1 rfl ?_
      refine wp_goto 234 dX2_value_230 rfl ?_
      refine wm_callSI (As := [.int (1 : Int32)]) (rest := [.int (v2 - (1 : Int32)), .ref 16]) dX2_value_234 ok_X2_89 (by decide) rfl (Nat.le_of_ble_eq_true rfl) ⟨rfl, rfl⟩ rfl (fun t h => o_X2_bit h) h (fun q5 h => ?_)
      refine wm_iast dX2_value_237 s_16 rfl h (fun m6 h => ?_)
      refine wp_goto 280 dX2_value_238 rfl ?_
      refine wm_inc dX2_value_280 rfl ii_1 (by decide) rfl rfl h (fun y7 h => ?_)
      refine wm_list (L' := [some (.ref 14), some (.ref ag), some (.int v2), some (.int v3), some (.int y7), some (.int v5)]) rfl ?_
      refine wp_goto 35 dX2_value_283 rfl ?_
      have hB := wm_back h hP
      exact wm_mask (L' := [some (.ref 14), some (.ref ag), some (.int v2), some (.int v3), some (.int y7), none]) [true, true, true, true, true, false] rfl (hB)
  · refine wp_aload_n dX2_value_206 rfl rfl ?_
    refine wm_getR dX2_value_207 s_14 fk_X2_13 rfl r_14_1 rfl ?_
    refine wp_iload_n dX2_value_210 rfl rfl ?_
    refine wp_iconst (1 : Int32) dX2_value_211 ic_1 rfl ?_
    refine wp_isub dX2_value_212 rfl ?_
    refine wm_iald dX2_value_213 s_16 rfl h (fun h => ?_)
    refine wp_ineg dX2_value_214 rfl ?_
    refine wp_goto 237 dX2_value_215 rfl ?_
    refine wm_iast dX2_value_237 s_16 rfl h (fun m8 h => ?_)
    refine wp_goto 280 dX2_value_238 rfl ?_
    refine wm_inc dX2_value_280 rfl ii_1 (by decide) rfl rfl h (fun y9 h => ?_)
    refine wm_list (L' := [some (.ref 14), some (.ref ag), some (.int v2), some (.int v3), some (.int y9), some (.int v5)]) rfl ?_
    refine wp_goto 35 dX2_value_283 rfl ?_
    have hB := wm_back h hP
    exact wm_mask (L' := [some (.ref 14), some (.ref ag), some (.int v2), some (.int v3), some (.int y9), none]) [true, true, true, true, true, false] rfl (hB)
noncomputable def f_X2_value_J122 (ag : Nat) (v2 : Int32) (v3 : Int32) (v4 : Int32) (v5 : Int32) (m : Mem) : Option ((Int32 × Int32 × Int32 × Mem) ⊕ (Int32 × Mem)) := if (1 : Int32) ≤ v2 then if ¬ v5 = (20059 : Int32) then if ¬ v5 = (20063 : Int32) then if v5 = (20126 : Int32) then f_X2_value_J191 ag v2 v3 v4 v5 m else if ¬ v5 = (20033 : Int32) then if v2 ≤ (1 : Int32) then bnd (v4 + (1 : Int32)) (fun y10 => some (Sum.inl (v2, v3, y10, m))) else bnd (v2 + (-1 : Int32)) (fun y11 => ck (y11 - (1 : Int32)) 128 (ck y11 128 ((f_X2_joined (v5 - (20000 : Int32)) (gI m 16 (ix (y11 - (1 : Int32)))) (gI m 16 (ix y11)) m).bind (fun q12 => ck (y11 - (1 : Int32)) 128 (bnd (sI q12.2 16 (ix (y11 - (1 : Int32))) q12.1) (fun m13 => bnd (v4 + (1 : Int32)) (fun y14 => some (Sum.inl (y11, v3, y14, m13))))))))) else f_X2_value_J191 ag v2 v3 v4 v5 m else bnd (v2 + (-1 : Int32)) (fun y15 => ck y15 128 (if ¬ (gI m 16 (ix y15)) = 0 then bnd (v4 + (1 : Int32)) (fun y16 => some (Sum.inl (y15, (0 : Int32), y16, m))) else bnd (v4 + (1 : Int32)) (fun y17 => some (Sum.inl (y15, (1 : Int32), y17, m))))) else up (ck (v2 - (1 : Int32)) 128 (some ((gI m 16 (ix (v2 - (1 : Int32)))), m))) else up (some ((0 : Int32), m))
theorem k_X2_value_J122 {g : Gx} {ag : Nat} (hag : shF[ag]? = some (0, 8)) {v2 : Int32} {v3 : Int32} {v4 : Int32} {v5 : Int32}  {Q : Qy} {m : Mem} {t : (Int32 × Int32 × Int32 × Mem) ⊕ (Int32 × Mem)} (h : f_X2_value_J122 ag v2 v3 v4 v5 m = some t) (hP : P_X2_value_35 g ag Q t) : WpM g 2 mi_X2_value 122 [some (.ref 14), some (.ref ag), some (.int v2), some (.int v3), some (.int v4), some (.int v5)] [] m (zM g mi_X2_value Q) := by
  refine wp_iload_n dX2_value_122 rfl rfl ?_
  refine wp_iconst (1 : Int32) dX2_value_123 ic_1 rfl ?_
  refine wm_icmp_ge 129 dX2_value_124 rfl rfl h (fun h => ?_) (fun h => ?_)
  · refine wp_iload dX2_value_129 rfl rfl ?_
    refine wp_sipush (20059 : Int32) dX2_value_131 is_20059 rfl ?_
    refine wm_icmp_ne 146 dX2_value_134 rfl rfl h (fun h => ?_) (fun h => ?_)
    · refine wp_iload dX2_value_146 rfl rfl ?_
      refine wp_sipush (20063 : Int32) dX2_value_148 is_20063 rfl ?_
      refine wm_icmp_ne 175 dX2_value_151 rfl rfl h (fun h => ?_) (fun h => ?_)
      · refine wp_iload dX2_value_175 rfl rfl ?_
        refine wp_sipush (20126 : Int32) dX2_value_177 is_20126 rfl ?_
        refine wm_icmp_eq 191 dX2_value_180 rfl rfl h (fun h => ?_) (fun h => ?_)
        · exact wm_mask (L' := [some (.ref 14), some (.ref ag), some (.int v2), some (.int v3), some (.int v4), some (.int v5)]) [true, true, true, true, true, true] rfl (k_X2_value_J191 hag h hP)
        · refine wp_iload dX2_value_183 rfl rfl ?_
          refine wp_sipush (20033 : Int32) dX2_value_185 is_20033 rfl ?_
          refine wm_icmp_ne 241 dX2_value_188 rfl rfl h (fun h => ?_) (fun h => ?_)
          · refine wp_iload_n dX2_value_241 rfl rfl ?_
            refine wp_iconst (1 : Int32) dX2_value_242 ic_1 rfl ?_
            refine wm_icmp_le 280 dX2_value_243 rfl rfl h (fun h => ?_) (fun h => ?_)
            · refine wm_inc dX2_value_280 rfl ii_1 (by decide) rfl rfl h (fun y10 h => ?_)
              refine wm_list (L' := [some (.ref 14), some (.ref ag), some (.int v2), some (.int v3), some (.int y10), some (.int v5)]) rfl ?_
              refine wp_goto 35 dX2_value_283 rfl ?_
              have hB := wm_back h hP
              exact wm_mask (L' := [some (.ref 14), some (.ref ag), some (.int v2), some (.int v3), some (.int y10), none]) [true, true, true, true, true, false] rfl (hB)
            · refine wm_inc dX2_value_246 rfl ii_m1 (by decide) rfl rfl h (fun y11 h => ?_)
              refine wm_list (L' := [some (.ref 14), some (.ref ag), some (.int y11), some (.int v3), some (.int v4), some (.int v5)]) rfl ?_
              refine wp_aload_n dX2_value_249 rfl rfl ?_
              refine wm_getR dX2_value_250 s_14 fk_X2_13 rfl r_14_1 rfl ?_
              refine wp_iload_n dX2_value_253 rfl rfl ?_
              refine wp_iconst (1 : Int32) dX2_value_254 ic_1 rfl ?_
              refine wp_isub dX2_value_255 rfl ?_
              refine wp_iload dX2_value_256 rfl rfl ?_
              refine wp_sipush (20000 : Int32) dX2_value_258 is_20000 rfl ?_
              refine wp_isub dX2_value_261 rfl ?_
              refine wp_aload_n dX2_value_262 rfl rfl ?_
              refine wm_getR dX2_value_263 s_14 fk_X2_13 rfl r_14_1 rfl ?_
              refine wp_iload_n dX2_value_266 rfl rfl ?_
              refine wp_iconst (1 : Int32) dX2_value_267 ic_1 rfl ?_
              refine wp_isub dX2_value_268 rfl ?_
              refine wm_iald dX2_value_269 s_16 rfl h (fun h => ?_)
              refine wp_aload_n dX2_value_270 rfl rfl ?_
              refine wm_getR dX2_value_271 s_14 fk_X2_13 rfl r_14_1 rfl ?_
              refine wp_iload_n dX2_value_274 rfl rfl ?_
              refine wm_iald dX2_value_275 s_16 rfl h (fun h => ?_)
              refine wm_callSI (As := [.int (v5 - (20000 : Int32)), .int (gI m 16 (ix (y11 - (1 : Int32)))), .int (gI m 16 (ix y11))]) (rest := [.int (y11 - (1 : Int32)), .ref 16]) dX2_value_276 ok_X2_93 (by decide) rfl (Nat.le_of_ble_eq_true rfl) ⟨rfl, rfl⟩ rfl (fun t h => o_X2_joined h) h (fun q12 h => ?_)
              refine wm_iast dX2_value_279 s_16 rfl h (fun m13 h => ?_)
              refine wm_inc dX2_value_280 rfl ii_1 (by decide) rfl rfl h (fun y14 h => ?_)
              refine wm_list (L' := [some (.ref 14), some (.ref ag), some (.int y11), some (.int v3), some (.int y14), some (.int v5)]) rfl ?_
              refine wp_goto 35 dX2_value_283 rfl ?_
              have hB := wm_back h hP
              exact wm_mask (L' := [some (.ref 14), some (.ref ag), some (.int y11), some (.int v3), some (.int y14), none]) [true, true, true, true, true, false] rfl (hB)
          · exact wm_mask (L' := [some (.ref 14), some (.ref ag), some (.int v2), some (.int v3), some (.int v4), some (.int v5)]) [true, true, true, true, true, true] rfl (k_X2_value_J191 hag h hP)
      · refine wm_inc dX2_value_154 rfl ii_m1 (by decide) rfl rfl h (fun y15 h => ?_)
        refine wm_list (L' := [some (.ref 14), some (.ref ag), some (.int y15), some (.int v3), some (.int v4), some (.int v5)]) rfl ?_
        refine wp_aload_n dX2_value_157 rfl rfl ?_
        refine wm_getR dX2_value_158 s_14 fk_X2_13 rfl r_14_1 rfl ?_
        refine wp_iload_n dX2_value_161 rfl rfl ?_
        refine wm_iald dX2_value_162 s_16 rfl h (fun h => ?_)
        refine wm_if_ne 170 dX2_value_163 rfl rfl h (fun h => ?_) (fun h => ?_)
        · refine wp_iconst (0 : Int32) dX2_value_170 ic_0 rfl ?_
          refine wp_istore_n (L' := [some (.ref 14), some (.ref ag), some (.int y15), some (.int (0 : Int32)), some (.int v4), some (.int v5)]) dX2_value_171 (by decide) rfl rfl rfl ?_
          refine wp_goto 280 dX2_value_172 rfl ?_
          refine wm_inc dX2_value_280 rfl ii_1 (by decide) rfl rfl h (fun y16 h => ?_)
          refine wm_list (L' := [some (.ref 14), some (.ref ag), some (.int y15), some (.int (0 : Int32)), some (.int y16), some (.int v5)]) rfl ?_
          refine wp_goto 35 dX2_value_283 rfl ?_
          have hB := wm_back h hP
          exact wm_mask (L' := [some (.ref 14), some (.ref ag), some (.int y15), some (.int (0 : Int32)), some (.int y16), none]) [true, true, true, true, true, false] rfl (hB)
        · refine wp_iconst (1 : Int32) dX2_value_166 ic_1 rfl ?_
          refine wp_goto 171 dX2_value_167 rfl ?_
          refine wp_istore_n (L' := [some (.ref 14), some (.ref ag), some (.int y15), some (.int (1 : Int32)), some (.int v4), some (.int v5)]) dX2_value_171 (by decide) rfl rfl rfl ?_
          refine wp_goto 280 dX2_value_172 rfl ?_
          refine wm_inc dX2_value_280 rfl ii_1 (by decide) rfl rfl h (fun y17 h => ?_)
          refine wm_list (L' := [some (.ref 14), some (.ref ag), some (.int y15), some (.int (1 : Int32)), some (.int y17), some (.int v5)]) rfl ?_
          refine wp_goto 35 dX2_value_283 rfl ?_
          have hB := wm_back h hP
          exact wm_mask (L' := [some (.ref 14), some (.ref ag), some (.int y15), some (.int (1 : Int32)), some (.int y17), none]) [true, true, true, true, true, false] rfl (hB)
    · refine wm_up h hP (fun r h hP => ?_)
      refine wp_aload_n dX2_value_137 rfl rfl ?_
      refine wm_getR dX2_value_138 s_14 fk_X2_13 rfl r_14_1 rfl ?_
      refine wp_iload_n dX2_value_141 rfl rfl ?_
      refine wp_iconst (1 : Int32) dX2_value_142 ic_1 rfl ?_
      refine wp_isub dX2_value_143 rfl ?_
      refine wm_iald dX2_value_144 s_16 rfl h (fun h => ?_)
      exact wm_iret dX2_value_145 rfl ⟨rfl, rfl⟩ h hP
  · refine wm_up h hP (fun r h hP => ?_)
    refine wp_iconst (0 : Int32) dX2_value_127 ic_0 rfl ?_
    exact wm_iret dX2_value_128 rfl ⟨rfl, rfl⟩ h hP
noncomputable def f_X2_value_L35 (ag : Nat) (s : Int32 × Int32 × Int32 × Mem) : Option ((Int32 × Int32 × Int32 × Mem) ⊕ (Int32 × Mem)) := if (gI s.2.2.2 14 5) ≤ s.2.2.1 then up (some ((0 : Int32), s.2.2.2)) else ck s.2.2.1 128 (bnd (gI s.2.2.2 (cC s.2.2.2.2.2) (ix s.2.2.1)) (fun y1 => if s.2.1 = 0 then if (20000 : Int32) ≤ y1 then f_X2_value_J122 ag s.1 s.2.1 s.2.2.1 y1 s.2.2.2 else if (128 : Int32) ≤ s.1 then f_X2_value_J122 ag s.1 s.2.1 s.2.2.1 y1 s.2.2.2 else if (10000 : Int32) ≤ y1 then ck (y1 - (10000 : Int32)) 8 (ck s.1 128 (bnd (sI s.2.2.2 16 (ix s.1) (gI s.2.2.2 ag (ix (y1 - (10000 : Int32))))) (fun m18 => bnd (s.1 + (1 : Int32)) (fun y19 => bnd (s.2.2.1 + (1 : Int32)) (fun y20 => some (Sum.inl (y19, s.2.1, y20, m18))))))) else ck s.1 128 (bnd (sI s.2.2.2 16 (ix s.1) y1) (fun m21 => bnd (s.1 + (1 : Int32)) (fun y22 => bnd (s.2.2.1 + (1 : Int32)) (fun y23 => some (Sum.inl (y22, s.2.1, y23, m21)))))) else if y1 = (20059 : Int32) then bnd (s.2.2.1 + (1 : Int32)) (fun y24 => some (Sum.inl (s.1, (0 : Int32), y24, s.2.2.2))) else bnd (s.2.2.1 + (1 : Int32)) (fun y25 => some (Sum.inl (s.1, (1 : Int32), y25, s.2.2.2)))))
theorem k_X2_value_L35 {g : Gx} {ag : Nat} (hag : shF[ag]? = some (0, 8)) {Q : Qy} {s : Int32 × Int32 × Int32 × Mem} {t : (Int32 × Int32 × Int32 × Mem) ⊕ (Int32 × Mem)} (h : f_X2_value_L35 ag s = some t) (hP : P_X2_value_35 g ag Q t) : A_X2_value_35 g ag Q s := by
  refine wp_iload dX2_value_35 rfl rfl ?_
  refine wp_aload_n dX2_value_37 rfl rfl ?_
  refine wm_getI dX2_value_38 s_14 fk_X2_45 rfl rfl ?_
  refine wm_icmp_ge 286 dX2_value_41 rfl rfl h (fun h => ?_) (fun h => ?_)
  · refine wm_up h hP (fun r h hP => ?_)
    refine wp_iconst (0 : Int32) dX2_value_286 ic_0 rfl ?_
    exact wm_iret dX2_value_287 rfl ⟨rfl, rfl⟩ h hP
  · refine wp_aload_n dX2_value_44 rfl rfl ?_
    refine wm_getC dX2_value_45 s_14 fk_X2_16 rfl r_14_3 rfl ?_
    refine wp_iload dX2_value_48 rfl rfl ?_
    refine wm_iald dX2_value_50 (s_cC s.2.2.2.2.2) rfl h (fun h => ?_)
    refine wm_nm h (fun y1 h => ?_)
    refine wp_istore (L' := [some (.ref 14), some (.ref ag), some (.int s.1), some (.int s.2.1), some (.int s.2.2.1), some (.int y1)]) dX2_value_51 (by decide) rfl rfl rfl ?_
    refine wp_iload_n dX2_value_53 rfl rfl ?_
    refine wm_if_eq 74 dX2_value_54 rfl rfl h (fun h => ?_) (fun h => ?_)
    · refine wp_iload dX2_value_74 rfl rfl ?_
      refine wp_sipush (20000 : Int32) dX2_value_76 is_20000 rfl ?_
      refine wm_icmp_ge 122 dX2_value_79 rfl rfl h (fun h => ?_) (fun h => ?_)
      · exact wm_mask (L' := [some (.ref 14), some (.ref ag), some (.int s.1), some (.int s.2.1), some (.int s.2.2.1), some (.int y1)]) [true, true, true, true, true, true] rfl (k_X2_value_J122 hag h hP)
      · refine wp_iload_n dX2_value_82 rfl rfl ?_
        refine wp_sipush (128 : Int32) dX2_value_83 is_128 rfl ?_
        refine wm_icmp_ge 122 dX2_value_86 rfl rfl h (fun h => ?_) (fun h => ?_)
        · exact wm_mask (L' := [some (.ref 14), some (.ref ag), some (.int s.1), some (.int s.2.1), some (.int s.2.2.1), some (.int y1)]) [true, true, true, true, true, true] rfl (k_X2_value_J122 hag h hP)
        · refine wp_aload_n dX2_value_89 rfl rfl ?_
          refine wm_getR dX2_value_90 s_14 fk_X2_13 rfl r_14_1 rfl ?_
          refine wp_iload_n dX2_value_93 rfl rfl ?_
          refine wp_iload dX2_value_94 rfl rfl ?_
          refine wp_sipush (10000 : Int32) dX2_value_96 is_10000 rfl ?_
          refine wm_icmp_ge 107 dX2_value_99 rfl rfl h (fun h => ?_) (fun h => ?_)
          · refine wp_aload_n dX2_value_107 rfl rfl ?_
            refine wp_iload dX2_value_108 rfl rfl ?_
            refine wp_sipush (10000 : Int32) dX2_value_110 is_10000 rfl ?_
            refine wp_isub dX2_value_113 rfl ?_
            refine wm_iald dX2_value_114 hag rfl h (fun h => ?_)
            refine wm_iast dX2_value_115 s_16 rfl h (fun m18 h => ?_)
            refine wm_inc dX2_value_116 rfl ii_1 (by decide) rfl rfl h (fun y19 h => ?_)
            refine wm_list (L' := [some (.ref 14), some (.ref ag), some (.int y19), some (.int s.2.1), some (.int s.2.2.1), some (.int y1)]) rfl ?_
            refine wp_goto 280 dX2_value_119 rfl ?_
            refine wm_inc dX2_value_280 rfl ii_1 (by decide) rfl rfl h (fun y20 h => ?_)
            refine wm_list (L' := [some (.ref 14), some (.ref ag), some (.int y19), some (.int s.2.1), some (.int y20), some (.int y1)]) rfl ?_
            refine wp_goto 35 dX2_value_283 rfl ?_
            have hB := wm_back h hP
            exact wm_mask (L' := [some (.ref 14), some (.ref ag), some (.int y19), some (.int s.2.1), some (.int y20), none]) [true, true, true, true, true, false] rfl (hB)
          · refine wp_iload dX2_value_102 rfl rfl ?_
            refine wp_goto 115 dX2_value_104 rfl ?_
            refine wm_iast dX2_value_115 s_16 rfl h (fun m21 h => ?_)
            refine wm_inc dX2_value_116 rfl ii_1 (by decide) rfl rfl h (fun y22 h => ?_)
            refine wm_list (L' := [some (.ref 14), some (.ref ag), some (.int y22), some (.int s.2.1), some (.int s.2.2.1), some (.int y1)]) rfl ?_
            refine wp_goto 280 dX2_value_119 rfl ?_
            refine wm_inc dX2_value_280 rfl ii_1 (by decide) rfl rfl h (fun y23 h => ?_)
            refine wm_list (L' := [some (.ref 14), some (.ref ag), some (.int y22), some (.int s.2.1), some (.int y23), some (.int y1)]) rfl ?_
            refine wp_goto 35 dX2_value_283 rfl ?_
            have hB := wm_back h hP
            exact wm_mask (L' := [some (.ref 14), some (.ref ag), some (.int y22), some (.int s.2.1), some (.int y23), none]) [true, true, true, true, true, false] rfl (hB)
    · refine wp_iload dX2_value_57 rfl rfl ?_
      refine wp_sipush (20059 : Int32) dX2_value_59 is_20059 rfl ?_
      refine wm_icmp_eq 69 dX2_value_62 rfl rfl h (fun h => ?_) (fun h => ?_)
      · refine wp_iconst (0 : Int32) dX2_value_69 ic_0 rfl ?_
        refine wp_istore_n (L' := [some (.ref 14), some (.ref ag), some (.int s.1), some (.int (0 : Int32)), some (.int s.2.2.1), some (.int y1)]) dX2_value_70 (by decide) rfl rfl rfl ?_
        refine wp_goto 280 dX2_value_71 rfl ?_
        refine wm_inc dX2_value_280 rfl ii_1 (by decide) rfl rfl h (fun y24 h => ?_)
        refine wm_list (L' := [some (.ref 14), some (.ref ag), some (.int s.1), some (.int (0 : Int32)), some (.int y24), some (.int y1)]) rfl ?_
        refine wp_goto 35 dX2_value_283 rfl ?_
        have hB := wm_back h hP
        exact wm_mask (L' := [some (.ref 14), some (.ref ag), some (.int s.1), some (.int (0 : Int32)), some (.int y24), none]) [true, true, true, true, true, false] rfl (hB)
      · refine wp_iconst (1 : Int32) dX2_value_65 ic_1 rfl ?_
        refine wp_goto 70 dX2_value_66 rfl ?_
        refine wp_istore_n (L' := [some (.ref 14), some (.ref ag), some (.int s.1), some (.int (1 : Int32)), some (.int s.2.2.1), some (.int y1)]) dX2_value_70 (by decide) rfl rfl rfl ?_
        refine wp_goto 280 dX2_value_71 rfl ?_
        refine wm_inc dX2_value_280 rfl ii_1 (by decide) rfl rfl h (fun y25 h => ?_)
        refine wm_list (L' := [some (.ref 14), some (.ref ag), some (.int s.1), some (.int (1 : Int32)), some (.int y25), some (.int y1)]) rfl ?_
        refine wp_goto 35 dX2_value_283 rfl ?_
        have hB := wm_back h hP
        exact wm_mask (L' := [some (.ref 14), some (.ref ag), some (.int s.1), some (.int (1 : Int32)), some (.int y25), none]) [true, true, true, true, true, false] rfl (hB)
noncomputable def f_X2_value (ag : Nat)  (m : Mem) : Option (Int32 × Mem) := if ¬ (gI m 14 5) = 0 then wh (f_X2_value_L35 ag) ((0 : Int32), (0 : Int32), (0 : Int32), m) else ck (3 : Int32) 8 (ck (2 : Int32) 8 (ck (1 : Int32) 8 (ck (4 : Int32) 8 (some ((((((10 : Int32) * (gI m ag (ix (3 : Int32)))) + (gI m ag (ix (2 : Int32)))) + (gI m ag (ix (1 : Int32)))) - ((5 : Int32) * (gI m ag (ix (4 : Int32))))), m)))))
theorem k_X2_value_E {g : Gx} {ag : Nat} (hag : shF[ag]? = some (0, 8))  {Q : Qy} {m : Mem} {t : Int32 × Mem} (h : f_X2_value ag m = some t) (hP : pI Q t) : WpM g 2 mi_X2_value 0 [some (.ref 14), some (.ref ag), none, none, none, none] [] m (zM g mi_X2_value Q) := by
  refine wp_aload_n dX2_value_0 rfl rfl ?_
  refine wm_getI dX2_value_1 s_14 fk_X2_45 rfl rfl ?_
  refine wm_if_ne 28 dX2_value_4 rfl rfl h (fun h => ?_) (fun h => ?_)
  · refine wp_iconst (0 : Int32) dX2_value_28 ic_0 rfl ?_
    refine wp_istore_n (L' := [some (.ref 14), some (.ref ag), some (.int (0 : Int32)), none, none, none]) dX2_value_29 (by decide) rfl rfl rfl ?_
    refine wp_iconst (0 : Int32) dX2_value_30 ic_0 rfl ?_
    refine wp_istore_n (L' := [some (.ref 14), some (.ref ag), some (.int (0 : Int32)), some (.int (0 : Int32)), none, none]) dX2_value_31 (by decide) rfl rfl rfl ?_
    refine wp_iconst (0 : Int32) dX2_value_32 ic_0 rfl ?_
    refine wp_istore (L' := [some (.ref 14), some (.ref ag), some (.int (0 : Int32)), some (.int (0 : Int32)), some (.int (0 : Int32)), none]) dX2_value_33 (by decide) rfl rfl rfl ?_
    have hB := wh_ok (A := A_X2_value_35 g ag Q) (B := pI Q) (fun s t h hP => k_X2_value_L35 hag h hP) h hP
    exact wm_mask (L' := [some (.ref 14), some (.ref ag), some (.int (0 : Int32)), some (.int (0 : Int32)), some (.int (0 : Int32)), none]) [true, true, true, true, true, false] rfl (hB)
  · refine wp_bipush (10 : Int32) dX2_value_7 ib_10 rfl ?_
    refine wp_aload_n dX2_value_9 rfl rfl ?_
    refine wp_iconst (3 : Int32) dX2_value_10 ic_3 rfl ?_
    refine wm_iald dX2_value_11 hag rfl h (fun h => ?_)
    refine wp_imul dX2_value_12 rfl ?_
    refine wp_aload_n dX2_value_13 rfl rfl ?_
    refine wp_iconst (2 : Int32) dX2_value_14 ic_2 rfl ?_
    refine wm_iald dX2_value_15 hag rfl h (fun h => ?_)
    refine wp_iadd dX2_value_16 rfl ?_
    refine wp_aload_n dX2_value_17 rfl rfl ?_
    refine wp_iconst (1 : Int32) dX2_value_18 ic_1 rfl ?_
    refine wm_iald dX2_value_19 hag rfl h (fun h => ?_)
    refine wp_iadd dX2_value_20 rfl ?_
    refine wp_iconst (5 : Int32) dX2_value_21 ic_5 rfl ?_
    refine wp_aload_n dX2_value_22 rfl rfl ?_
    refine wp_iconst (4 : Int32) dX2_value_23 ic_4 rfl ?_
    refine wm_iald dX2_value_24 hag rfl h (fun h => ?_)
    refine wp_imul dX2_value_25 rfl ?_
    refine wp_isub dX2_value_26 rfl ?_
    exact wm_iret dX2_value_27 rfl ⟨rfl, rfl⟩ h hP
theorem o_X2_value {g : Gx} {ag : Nat} (hag : shF[ag]? = some (0, 8))  {m : Mem} {t : Int32 × Mem} (h : f_X2_value ag m = some t) : MxM g 2 mi_X2_value [.ref 14, .ref ag] m (qI t) := mx_of pn_X2 (Nat.le_of_ble_eq_true rfl) (k_X2_value_E hag h ⟨rfl, rfl, rfl, rfl, rfl⟩)
noncomputable def f_X2_write  (p1 : Int32) (m : Mem) : Option (Int32 × Mem) := ck (gI m 14 2) 120 (bnd (sI m 15 (ix (gI m 14 2)) p1) (fun m1 => bnd (sI m1 14 2 ((gI m1 14 2) + (1 : Int32))) (fun m2 => some ((gI m2 14 2), m2))))
theorem k_X2_write_E {g : Gx}  {p1 : Int32} {Q : Qy} {m : Mem} {t : Int32 × Mem} (h : f_X2_write p1 m = some t) (hP : pI Q t) : WpM g 1 mi_X2_write 0 [some (.ref 14), some (.int p1)] [] m (zM g mi_X2_write Q) := by
  refine wp_aload_n dX2_write_0 rfl rfl ?_
  refine wm_getR dX2_write_1 s_14 fk_X2_9 rfl r_14_0 rfl ?_
  refine wp_aload_n dX2_write_4 rfl rfl ?_
  refine wm_getI dX2_write_5 s_14 fk_X2_22 rfl rfl ?_
  refine wp_iload_n dX2_write_8 rfl rfl ?_
  refine wm_iast dX2_write_9 s_15 rfl h (fun m1 h => ?_)
  refine wp_aload_n dX2_write_10 rfl rfl ?_
  refine wp_dup dX2_write_11 rfl rfl ?_
  refine wm_getI dX2_write_12 s_14 fk_X2_22 rfl rfl ?_
  refine wp_iconst (1 : Int32) dX2_write_15 ic_1 rfl ?_
  refine wp_iadd dX2_write_16 rfl ?_
  refine wm_putI dX2_write_17 s_14 fk_X2_22 rfl rfl h (fun m2 h => ?_)
  refine wp_aload_n dX2_write_20 rfl rfl ?_
  refine wm_getI dX2_write_21 s_14 fk_X2_22 rfl rfl ?_
  exact wm_iret dX2_write_24 rfl ⟨rfl, rfl⟩ h hP
theorem o_X2_write {g : Gx}  {p1 : Int32} {m : Mem} {t : Int32 × Mem} (h : f_X2_write p1 m = some t) : MxM g 1 mi_X2_write [.ref 14, .int p1] m (qI t) := mx_of pn_X2 (Nat.le_of_ble_eq_true rfl) (k_X2_write_E h ⟨rfl, rfl, rfl, rfl, rfl⟩)
abbrev A_X3_byTurns_2 (g : Gx) (a : Nat) (Q : Qy) (s : Int32 × Mem) : Prop := WpM g 1 mi_X3_byTurns 2 [some (.ref a), some (.int s.1), none] [] s.2 (zM g mi_X3_byTurns Q)
abbrev P_X3_byTurns_2 (g : Gx) (a : Nat) (Q : Qy) : ((Int32 × Mem) ⊕ (Int32 × Mem)) → Prop := pS (A_X3_byTurns_2 g a Q) (pI Q)
noncomputable def f_X3_byTurns_L2 (a : Nat) (s : Int32 × Mem) : Option ((Int32 × Mem) ⊕ (Int32 × Mem)) := if (gI s.2 1 13) ≤ s.1 then up (some ((-1 : Int32), s.2)) else dv (gI s.2 1 13) (bnd ((((gI s.2 a 18) + (1 : Int32)) + s.1) - (((gI s.2 a 18) + (1 : Int32)) + s.1) / (gI s.2 1 13) * (gI s.2 1 13)) (fun y1 => ck y1 10 (if (gI s.2 (a + 9) (ix y1)) ≤ 0 then bnd (s.1 + (1 : Int32)) (fun y2 => some (Sum.inl (y2, s.2))) else up (some (y1, s.2)))))
theorem k_X3_byTurns_L2 {g : Gx} {a : Nat} (ha : MA a) {Q : Qy} {s : Int32 × Mem} {t : (Int32 × Mem) ⊕ (Int32 × Mem)} (h : f_X3_byTurns_L2 a s = some t) (hP : P_X3_byTurns_2 g a Q t) : A_X3_byTurns_2 g a Q s := by
  refine wp_iload_n dX3_byTurns_2 rfl rfl ?_
  refine wp_aload_n dX3_byTurns_3 rfl rfl ?_
  refine wm_getR dX3_byTurns_4 (sM_0 ha) fk_X3_47 rfl (rM_10 ha) rfl ?_
  refine wm_getI dX3_byTurns_7 s_1 fk_X3_108 rfl rfl ?_
  refine wm_icmp_ge 47 dX3_byTurns_10 rfl rfl h (fun h => ?_) (fun h => ?_)
  · refine wm_up h hP (fun r h hP => ?_)
    refine wp_iconst (-1 : Int32) dX3_byTurns_47 ic_m1 rfl ?_
    exact wm_iret dX3_byTurns_48 rfl ⟨rfl, rfl⟩ h hP
  · refine wp_aload_n dX3_byTurns_13 rfl rfl ?_
    refine wm_getI dX3_byTurns_14 (sM_0 ha) fk_X3_67 rfl rfl ?_
    refine wp_iconst (1 : Int32) dX3_byTurns_17 ic_1 rfl ?_
    refine wp_iadd dX3_byTurns_18 rfl ?_
    refine wp_iload_n dX3_byTurns_19 rfl rfl ?_
    refine wp_iadd dX3_byTurns_20 rfl ?_
    refine wp_aload_n dX3_byTurns_21 rfl rfl ?_
    refine wm_getR dX3_byTurns_22 (sM_0 ha) fk_X3_47 rfl (rM_10 ha) rfl ?_
    refine wm_getI dX3_byTurns_25 s_1 fk_X3_108 rfl rfl ?_
    refine wm_irem dX3_byTurns_28 rfl h (fun h => ?_)
    refine wm_nm h (fun y1 h => ?_)
    refine wp_istore_n (L' := [some (.ref a), some (.int s.1), some (.int y1)]) dX3_byTurns_29 (by decide) rfl rfl rfl ?_
    refine wp_aload_n dX3_byTurns_30 rfl rfl ?_
    refine wm_getR dX3_byTurns_31 (sM_0 ha) fk_X3_38 rfl (rM_12 ha) rfl ?_
    refine wp_iload_n dX3_byTurns_34 rfl rfl ?_
    refine wm_iald dX3_byTurns_35 (sM_9 ha) rfl h (fun h => ?_)
    refine wm_if_le 41 dX3_byTurns_36 rfl rfl h (fun h => ?_) (fun h => ?_)
    · refine wm_inc dX3_byTurns_41 rfl ii_1 (by decide) rfl rfl h (fun y2 h => ?_)
      refine wm_list (L' := [some (.ref a), some (.int y2), some (.int y1)]) rfl ?_
      refine wp_goto 2 dX3_byTurns_44 rfl ?_
      have hB := wm_back h hP
      exact wm_mask (L' := [some (.ref a), some (.int y2), none]) [true, true, false] rfl (hB)
    · refine wm_up h hP (fun r h hP => ?_)
      refine wp_iload_n dX3_byTurns_39 rfl rfl ?_
      exact wm_iret dX3_byTurns_40 rfl ⟨rfl, rfl⟩ h hP
noncomputable def f_X3_byTurns (a : Nat)  (m : Mem) : Option (Int32 × Mem) := wh (f_X3_byTurns_L2 a) ((0 : Int32), m)
theorem k_X3_byTurns_E {g : Gx} {a : Nat} (ha : MA a)  {Q : Qy} {m : Mem} {t : Int32 × Mem} (h : f_X3_byTurns a m = some t) (hP : pI Q t) : WpM g 1 mi_X3_byTurns 0 [some (.ref a), none, none] [] m (zM g mi_X3_byTurns Q) := by
  refine wp_iconst (0 : Int32) dX3_byTurns_0 ic_0 rfl ?_
  refine wp_istore_n (L' := [some (.ref a), some (.int (0 : Int32)), none]) dX3_byTurns_1 (by decide) rfl rfl rfl ?_
  have hB := wh_ok (A := A_X3_byTurns_2 g a Q) (B := pI Q) (fun s t h hP => k_X3_byTurns_L2 ha h hP) h hP
  exact wm_mask (L' := [some (.ref a), some (.int (0 : Int32)), none]) [true, true, false] rfl (hB)
theorem o_X3_byTurns {g : Gx} {a : Nat} (ha : MA a)  {m : Mem} {t : Int32 × Mem} (h : f_X3_byTurns a m = some t) : MxM g 1 mi_X3_byTurns [.ref a] m (qI t) := mx_of pn_X3 (Nat.le_of_ble_eq_true rfl) (k_X3_byTurns_E ha h ⟨rfl, rfl, rfl, rfl, rfl⟩)
noncomputable def f_X3_isThere (a : Nat) (p1 : Int32) (m : Mem) : Option (Int32 × Mem) := if p1 = (gI m a 17) then bz (0 : Int32) (some ((0 : Int32), m)) else ck p1 10 (if (gI m a 8) < (gI m 5 (ix p1)) then bz (0 : Int32) (some ((0 : Int32), m)) else bz (1 : Int32) (some ((1 : Int32), m)))
theorem k_X3_isThere_E {g : Gx} {a : Nat} (ha : MA a) {p1 : Int32} {Q : Qy} {m : Mem} {t : Int32 × Mem} (h : f_X3_isThere a p1 m = some t) (hP : pI Q t) : WpM g 1 mi_X3_isThere 0 [some (.ref a), some (.int p1)] [] m (zM g mi_X3_isThere Q) := by
  refine wp_iload_n dX3_isThere_0 rfl rfl ?_
  refine wp_aload_n dX3_isThere_1 rfl rfl ?_
  refine wm_getI dX3_isThere_2 (sM_0 ha) fk_X3_79 rfl rfl ?_
  refine wm_icmp_eq 28 dX3_isThere_5 rfl rfl h (fun h => ?_) (fun h => ?_)
  · refine wp_iconst (0 : Int32) dX3_isThere_28 ic_0 rfl ?_
    exact wm_zret dX3_isThere_29 rfl ⟨rfl, rfl⟩ h hP
  · refine wp_aload_n dX3_isThere_8 rfl rfl ?_
    refine wm_getR dX3_isThere_9 (sM_0 ha) fk_X3_47 rfl (rM_10 ha) rfl ?_
    refine wm_getR dX3_isThere_12 s_1 fk_X3_105 rfl r_1_3 rfl ?_
    refine wp_iload_n dX3_isThere_15 rfl rfl ?_
    refine wm_iald dX3_isThere_16 s_5 rfl h (fun h => ?_)
    refine wp_aload_n dX3_isThere_17 rfl rfl ?_
    refine wm_getI dX3_isThere_18 (sM_0 ha) fk_X3_61 rfl rfl ?_
    refine wm_icmp_gt 28 dX3_isThere_21 rfl rfl h (fun h => ?_) (fun h => ?_)
    · refine wp_iconst (0 : Int32) dX3_isThere_28 ic_0 rfl ?_
      exact wm_zret dX3_isThere_29 rfl ⟨rfl, rfl⟩ h hP
    · refine wp_iconst (1 : Int32) dX3_isThere_24 ic_1 rfl ?_
      refine wp_goto 29 dX3_isThere_25 rfl ?_
      exact wm_zret dX3_isThere_29 rfl ⟨rfl, rfl⟩ h hP
theorem o_X3_isThere {g : Gx} {a : Nat} (ha : MA a) {p1 : Int32} {m : Mem} {t : Int32 × Mem} (h : f_X3_isThere a p1 m = some t) : MxM g 1 mi_X3_isThere [.ref a, .int p1] m (qI t) := mx_of pn_X3 (Nat.le_of_ble_eq_true rfl) (k_X3_isThere_E ha h ⟨rfl, rfl, rfl, rfl, rfl⟩)
abbrev A_X3_cardsThere_4 (g : Gx) (a : Nat) (Q : Qy) (s : Int32 × Int32 × Mem) : Prop := WpM g 2 mi_X3_cardsThere 4 [some (.ref a), some (.int s.1), some (.int s.2.1)] [] s.2.2 (zM g mi_X3_cardsThere Q)
abbrev P_X3_cardsThere_4 (g : Gx) (a : Nat) (Q : Qy) : ((Int32 × Int32 × Mem) ⊕ (Int32 × Mem)) → Prop := pS (A_X3_cardsThere_4 g a Q) (pI Q)
noncomputable def f_X3_cardsThere_L4 (a : Nat) (s : Int32 × Int32 × Mem) : Option ((Int32 × Int32 × Mem) ⊕ (Int32 × Mem)) := if (gI s.2.2 1 13) ≤ s.2.1 then up (some (s.1, s.2.2)) else (f_X3_isThere a s.2.1 s.2.2).bind (fun q1 => if q1.1 = 0 then bnd (s.1 ||| (0 : Int32)) (fun y2 => bnd (s.2.1 + (1 : Int32)) (fun y3 => some (Sum.inl (y2, y3, q1.2)))) else ck s.2.1 10 (bnd (s.1 ||| (gI q1.2 12 (ix s.2.1))) (fun y4 => bnd (s.2.1 + (1 : Int32)) (fun y5 => some (Sum.inl (y4, y5, q1.2))))))
theorem k_X3_cardsThere_L4 {g : Gx} {a : Nat} (ha : MA a) {Q : Qy} {s : Int32 × Int32 × Mem} {t : (Int32 × Int32 × Mem) ⊕ (Int32 × Mem)} (h : f_X3_cardsThere_L4 a s = some t) (hP : P_X3_cardsThere_4 g a Q t) : A_X3_cardsThere_4 g a Q s := by
  refine wp_iload_n dX3_cardsThere_4 rfl rfl ?_
  refine wp_aload_n dX3_cardsThere_5 rfl rfl ?_
  refine wm_getR dX3_cardsThere_6 (sM_0 ha) fk_X3_47 rfl (rM_10 ha) rfl ?_
  refine wm_getI dX3_cardsThere_9 s_1 fk_X3_108 rfl rfl ?_
  refine wm_icmp_ge 45 dX3_cardsThere_12 rfl rfl h (fun h => ?_) (fun h => ?_)
  · refine wm_up h hP (fun r h hP => ?_)
    refine wp_iload_n dX3_cardsThere_45 rfl rfl ?_
    exact wm_iret dX3_cardsThere_46 rfl ⟨rfl, rfl⟩ h hP
  · refine wp_iload_n dX3_cardsThere_15 rfl rfl ?_
    refine wp_aload_n dX3_cardsThere_16 rfl rfl ?_
    refine wp_iload_n dX3_cardsThere_17 rfl rfl ?_
    refine wm_callVI (As := [.int s.2.1]) (rest := [.int s.1]) dX3_cardsThere_18 ok_X3_111 (by decide) rfl (sM_0 ha) ⟨_, rfl⟩ (Nat.le_of_ble_eq_true rfl) ⟨rfl, rfl⟩ rfl (fun t h => o_X3_isThere ha h) h (fun q1 h => ?_)
    refine wm_if_eq 36 dX3_cardsThere_21 rfl rfl h (fun h => ?_) (fun h => ?_)
    · refine wp_iconst (0 : Int32) dX3_cardsThere_36 ic_0 rfl ?_
      refine wp_ior dX3_cardsThere_37 rfl ?_
      refine wm_nm h (fun y2 h => ?_)
      refine wp_istore_n (L' := [some (.ref a), some (.int y2), some (.int s.2.1)]) dX3_cardsThere_38 (by decide) rfl rfl rfl ?_
      refine wm_inc dX3_cardsThere_39 rfl ii_1 (by decide) rfl rfl h (fun y3 h => ?_)
      refine wm_list (L' := [some (.ref a), some (.int y2), some (.int y3)]) rfl ?_
      refine wp_goto 4 dX3_cardsThere_42 rfl ?_
      have hB := wm_back h hP
      exact wm_mask (L' := [some (.ref a), some (.int y2), some (.int y3)]) [true, true, true] rfl (hB)
    · refine wp_aload_n dX3_cardsThere_24 rfl rfl ?_
      refine wm_getR dX3_cardsThere_25 (sM_0 ha) fk_X3_47 rfl (rM_10 ha) rfl ?_
      refine wm_getR dX3_cardsThere_28 s_1 fk_X3_115 rfl r_1_10 rfl ?_
      refine wp_iload_n dX3_cardsThere_31 rfl rfl ?_
      refine wm_iald dX3_cardsThere_32 s_12 rfl h (fun h => ?_)
      refine wp_goto 37 dX3_cardsThere_33 rfl ?_
      refine wp_ior dX3_cardsThere_37 rfl ?_
      refine wm_nm h (fun y4 h => ?_)
      refine wp_istore_n (L' := [some (.ref a), some (.int y4), some (.int s.2.1)]) dX3_cardsThere_38 (by decide) rfl rfl rfl ?_
      refine wm_inc dX3_cardsThere_39 rfl ii_1 (by decide) rfl rfl h (fun y5 h => ?_)
      refine wm_list (L' := [some (.ref a), some (.int y4), some (.int y5)]) rfl ?_
      refine wp_goto 4 dX3_cardsThere_42 rfl ?_
      have hB := wm_back h hP
      exact wm_mask (L' := [some (.ref a), some (.int y4), some (.int y5)]) [true, true, true] rfl (hB)
noncomputable def f_X3_cardsThere (a : Nat)  (m : Mem) : Option (Int32 × Mem) := wh (f_X3_cardsThere_L4 a) ((0 : Int32), (0 : Int32), m)
theorem k_X3_cardsThere_E {g : Gx} {a : Nat} (ha : MA a)  {Q : Qy} {m : Mem} {t : Int32 × Mem} (h : f_X3_cardsThere a m = some t) (hP : pI Q t) : WpM g 2 mi_X3_cardsThere 0 [some (.ref a), none, none] [] m (zM g mi_X3_cardsThere Q) := by
  refine wp_iconst (0 : Int32) dX3_cardsThere_0 ic_0 rfl ?_
  refine wp_istore_n (L' := [some (.ref a), some (.int (0 : Int32)), none]) dX3_cardsThere_1 (by decide) rfl rfl rfl ?_
  refine wp_iconst (0 : Int32) dX3_cardsThere_2 ic_0 rfl ?_
  refine wp_istore_n (L' := [some (.ref a), some (.int (0 : Int32)), some (.int (0 : Int32))]) dX3_cardsThere_3 (by decide) rfl rfl rfl ?_
  have hB := wh_ok (A := A_X3_cardsThere_4 g a Q) (B := pI Q) (fun s t h hP => k_X3_cardsThere_L4 ha h hP) h hP
  exact wm_mask (L' := [some (.ref a), some (.int (0 : Int32)), some (.int (0 : Int32))]) [true, true, true] rfl (hB)
theorem o_X3_cardsThere {g : Gx} {a : Nat} (ha : MA a)  {m : Mem} {t : Int32 × Mem} (h : f_X3_cardsThere a m = some t) : MxM g 2 mi_X3_cardsThere [.ref a] m (qI t) := mx_of pn_X3 (Nat.le_of_ble_eq_true rfl) (k_X3_cardsThere_E ha h ⟨rfl, rfl, rfl, rfl, rfl⟩)
abbrev A_X3_whoWishesMost_4 (g : Gx) (a : Nat) (Q : Qy) (s : Int32 × Int32 × Int32 × Mem) : Prop := WpM g 1 mi_X3_whoWishesMost 4 [some (.ref a), some (.int s.1), some (.int s.2.1), some (.int s.2.2.1)] [] s.2.2.2 (zM g mi_X3_whoWishesMost Q)
abbrev P_X3_whoWishesMost_4 (g : Gx) (a : Nat) (Q : Qy) : ((Int32 × Int32 × Int32 × Mem) ⊕ (Int32 × Mem)) → Prop := pS (A_X3_whoWishesMost_4 g a Q) (pI Q)
noncomputable def f_X3_whoWishesMost_L4 (a : Nat) (s : Int32 × Int32 × Int32 × Mem) : Option ((Int32 × Int32 × Int32 × Mem) ⊕ (Int32 × Mem)) := if (gI s.2.2.2 1 13) ≤ s.2.2.1 then up (some (s.2.1, s.2.2.2)) else ck s.2.2.1 10 (if (gI s.2.2.2 (a + 9) (ix s.2.2.1)) ≤ 0 then bnd (s.2.2.1 + (1 : Int32)) (fun y1 => some (Sum.inl (s.1, s.2.1, y1, s.2.2.2))) else ck s.2.2.1 10 (if s.1 ≤ (gI s.2.2.2 2 (ix s.2.2.1)) then bnd (s.2.2.1 + (1 : Int32)) (fun y2 => some (Sum.inl (s.1, s.2.1, y2, s.2.2.2))) else if s.2.1 < 0 then bnd (s.2.2.1 + (1 : Int32)) (fun y3 => some (Sum.inl (s.1, s.2.2.1, y3, s.2.2.2))) else ck s.2.2.1 10 (ck s.2.1 10 (if (gI s.2.2.2 (a + 9) (ix s.2.2.1)) ≤ (gI s.2.2.2 (a + 9) (ix s.2.1)) then bnd (s.2.2.1 + (1 : Int32)) (fun y4 => some (Sum.inl (s.1, s.2.1, y4, s.2.2.2))) else bnd (s.2.2.1 + (1 : Int32)) (fun y5 => some (Sum.inl (s.1, s.2.2.1, y5, s.2.2.2)))))))
theorem k_X3_whoWishesMost_L4 {g : Gx} {a : Nat} (ha : MA a) {Q : Qy} {s : Int32 × Int32 × Int32 × Mem} {t : (Int32 × Int32 × Int32 × Mem) ⊕ (Int32 × Mem)} (h : f_X3_whoWishesMost_L4 a s = some t) (hP : P_X3_whoWishesMost_4 g a Q t) : A_X3_whoWishesMost_4 g a Q s := by
  refine wp_iload_n dX3_whoWishesMost_4 rfl rfl ?_
  refine wp_aload_n dX3_whoWishesMost_5 rfl rfl ?_
  refine wm_getR dX3_whoWishesMost_6 (sM_0 ha) fk_X3_47 rfl (rM_10 ha) rfl ?_
  refine wm_getI dX3_whoWishesMost_9 s_1 fk_X3_108 rfl rfl ?_
  refine wm_icmp_ge 64 dX3_whoWishesMost_12 rfl rfl h (fun h => ?_) (fun h => ?_)
  · refine wm_up h hP (fun r h hP => ?_)
    refine wp_iload_n dX3_whoWishesMost_64 rfl rfl ?_
    exact wm_iret dX3_whoWishesMost_65 rfl ⟨rfl, rfl⟩ h hP
  · refine wp_aload_n dX3_whoWishesMost_15 rfl rfl ?_
    refine wm_getR dX3_whoWishesMost_16 (sM_0 ha) fk_X3_38 rfl (rM_12 ha) rfl ?_
    refine wp_iload_n dX3_whoWishesMost_19 rfl rfl ?_
    refine wm_iald dX3_whoWishesMost_20 (sM_9 ha) rfl h (fun h => ?_)
    refine wm_if_le 58 dX3_whoWishesMost_21 rfl rfl h (fun h => ?_) (fun h => ?_)
    · refine wm_inc dX3_whoWishesMost_58 rfl ii_1 (by decide) rfl rfl h (fun y1 h => ?_)
      refine wm_list (L' := [some (.ref a), some (.int s.1), some (.int s.2.1), some (.int y1)]) rfl ?_
      refine wp_goto 4 dX3_whoWishesMost_61 rfl ?_
      have hB := wm_back h hP
      exact wm_mask (L' := [some (.ref a), some (.int s.1), some (.int s.2.1), some (.int y1)]) [true, true, true, true] rfl (hB)
    · refine wp_aload_n dX3_whoWishesMost_24 rfl rfl ?_
      refine wm_getR dX3_whoWishesMost_25 (sM_0 ha) fk_X3_47 rfl (rM_10 ha) rfl ?_
      refine wm_getR dX3_whoWishesMost_28 s_1 fk_X3_143 rfl r_1_0 rfl ?_
      refine wp_iload_n dX3_whoWishesMost_31 rfl rfl ?_
      refine wm_iald dX3_whoWishesMost_32 s_2 rfl h (fun h => ?_)
      refine wp_iload_n dX3_whoWishesMost_33 rfl rfl ?_
      refine wm_icmp_ge 58 dX3_whoWishesMost_34 rfl rfl h (fun h => ?_) (fun h => ?_)
      · refine wm_inc dX3_whoWishesMost_58 rfl ii_1 (by decide) rfl rfl h (fun y2 h => ?_)
        refine wm_list (L' := [some (.ref a), some (.int s.1), some (.int s.2.1), some (.int y2)]) rfl ?_
        refine wp_goto 4 dX3_whoWishesMost_61 rfl ?_
        have hB := wm_back h hP
        exact wm_mask (L' := [some (.ref a), some (.int s.1), some (.int s.2.1), some (.int y2)]) [true, true, true, true] rfl (hB)
      · refine wp_iload_n dX3_whoWishesMost_37 rfl rfl ?_
        refine wm_if_lt 56 dX3_whoWishesMost_38 rfl rfl h (fun h => ?_) (fun h => ?_)
        · refine wp_iload_n dX3_whoWishesMost_56 rfl rfl ?_
          refine wp_istore_n (L' := [some (.ref a), some (.int s.1), some (.int s.2.2.1), some (.int s.2.2.1)]) dX3_whoWishesMost_57 (by decide) rfl rfl rfl ?_
          refine wm_inc dX3_whoWishesMost_58 rfl ii_1 (by decide) rfl rfl h (fun y3 h => ?_)
          refine wm_list (L' := [some (.ref a), some (.int s.1), some (.int s.2.2.1), some (.int y3)]) rfl ?_
          refine wp_goto 4 dX3_whoWishesMost_61 rfl ?_
          have hB := wm_back h hP
          exact wm_mask (L' := [some (.ref a), some (.int s.1), some (.int s.2.2.1), some (.int y3)]) [true, true, true, true] rfl (hB)
        · refine wp_aload_n dX3_whoWishesMost_41 rfl rfl ?_
          refine wm_getR dX3_whoWishesMost_42 (sM_0 ha) fk_X3_38 rfl (rM_12 ha) rfl ?_
          refine wp_iload_n dX3_whoWishesMost_45 rfl rfl ?_
          refine wm_iald dX3_whoWishesMost_46 (sM_9 ha) rfl h (fun h => ?_)
          refine wp_aload_n dX3_whoWishesMost_47 rfl rfl ?_
          refine wm_getR dX3_whoWishesMost_48 (sM_0 ha) fk_X3_38 rfl (rM_12 ha) rfl ?_
          refine wp_iload_n dX3_whoWishesMost_51 rfl rfl ?_
          refine wm_iald dX3_whoWishesMost_52 (sM_9 ha) rfl h (fun h => ?_)
          refine wm_icmp_le 58 dX3_whoWishesMost_53 rfl rfl h (fun h => ?_) (fun h => ?_)
          · refine wm_inc dX3_whoWishesMost_58 rfl ii_1 (by decide) rfl rfl h (fun y4 h => ?_)
            refine wm_list (L' := [some (.ref a), some (.int s.1), some (.int s.2.1), some (.int y4)]) rfl ?_
            refine wp_goto 4 dX3_whoWishesMost_61 rfl ?_
            have hB := wm_back h hP
            exact wm_mask (L' := [some (.ref a), some (.int s.1), some (.int s.2.1), some (.int y4)]) [true, true, true, true] rfl (hB)
          · refine wp_iload_n dX3_whoWishesMost_56 rfl rfl ?_
            refine wp_istore_n (L' := [some (.ref a), some (.int s.1), some (.int s.2.2.1), some (.int s.2.2.1)]) dX3_whoWishesMost_57 (by decide) rfl rfl rfl ?_
            refine wm_inc dX3_whoWishesMost_58 rfl ii_1 (by decide) rfl rfl h (fun y5 h => ?_)
            refine wm_list (L' := [some (.ref a), some (.int s.1), some (.int s.2.2.1), some (.int y5)]) rfl ?_
            refine wp_goto 4 dX3_whoWishesMost_61 rfl ?_
            have hB := wm_back h hP
            exact wm_mask (L' := [some (.ref a), some (.int s.1), some (.int s.2.2.1), some (.int y5)]) [true, true, true, true] rfl (hB)
noncomputable def f_X3_whoWishesMost (a : Nat) (p1 : Int32) (m : Mem) : Option (Int32 × Mem) := wh (f_X3_whoWishesMost_L4 a) (p1, (-1 : Int32), (0 : Int32), m)
theorem k_X3_whoWishesMost_E {g : Gx} {a : Nat} (ha : MA a) {p1 : Int32} {Q : Qy} {m : Mem} {t : Int32 × Mem} (h : f_X3_whoWishesMost a p1 m = some t) (hP : pI Q t) : WpM g 1 mi_X3_whoWishesMost 0 [some (.ref a), some (.int p1), none, none] [] m (zM g mi_X3_whoWishesMost Q) := by
  refine wp_iconst (-1 : Int32) dX3_whoWishesMost_0 ic_m1 rfl ?_
  refine wp_istore_n (L' := [some (.ref a), some (.int p1), some (.int (-1 : Int32)), none]) dX3_whoWishesMost_1 (by decide) rfl rfl rfl ?_
  refine wp_iconst (0 : Int32) dX3_whoWishesMost_2 ic_0 rfl ?_
  refine wp_istore_n (L' := [some (.ref a), some (.int p1), some (.int (-1 : Int32)), some (.int (0 : Int32))]) dX3_whoWishesMost_3 (by decide) rfl rfl rfl ?_
  have hB := wh_ok (A := A_X3_whoWishesMost_4 g a Q) (B := pI Q) (fun s t h hP => k_X3_whoWishesMost_L4 ha h hP) h hP
  exact wm_mask (L' := [some (.ref a), some (.int p1), some (.int (-1 : Int32)), some (.int (0 : Int32))]) [true, true, true, true] rfl (hB)
theorem o_X3_whoWishesMost {g : Gx} {a : Nat} (ha : MA a) {p1 : Int32} {m : Mem} {t : Int32 × Mem} (h : f_X3_whoWishesMost a p1 m = some t) : MxM g 1 mi_X3_whoWishesMost [.ref a, .int p1] m (qI t) := mx_of pn_X3 (Nat.le_of_ble_eq_true rfl) (k_X3_whoWishesMost_E ha h ⟨rfl, rfl, rfl, rfl, rfl⟩)
abbrev A_X3_chiefLast_4 (g : Gx) (a : Nat) (Q : Qy) (s : Int32 × Int32 × Mem) : Prop := WpM g 2 mi_X3_chiefLast 4 [some (.ref a), some (.int s.1), some (.int s.2.1)] [] s.2.2 (zM g mi_X3_chiefLast Q)
abbrev P_X3_chiefLast_4 (g : Gx) (a : Nat) (Q : Qy) : ((Int32 × Int32 × Mem) ⊕ (Int32 × Mem)) → Prop := pS (A_X3_chiefLast_4 g a Q) (pI Q)
noncomputable def f_X3_chiefLast_L4 (a : Nat) (s : Int32 × Int32 × Mem) : Option ((Int32 × Int32 × Mem) ⊕ (Int32 × Mem)) := if (gI s.2.2 1 13) ≤ s.2.1 then up ((f_X3_whoWishesMost a s.1 s.2.2).bind (fun q1 => if q1.1 < 0 then (f_X3_whoWishesMost a (10 : Int32) q1.2).bind (fun q2 => some (q2.1, q2.2)) else some (q1.1, q1.2))) else (f_X3_isThere a s.2.1 s.2.2).bind (fun q3 => if q3.1 = 0 then bnd (s.2.1 + (1 : Int32)) (fun y4 => some (Sum.inl (s.1, y4, q3.2))) else ck s.2.1 10 (bnd (mxI s.1 (gI q3.2 2 (ix s.2.1))) (fun y5 => bnd (s.2.1 + (1 : Int32)) (fun y6 => some (Sum.inl (y5, y6, q3.2))))))
theorem k_X3_chiefLast_L4 {g : Gx} {a : Nat} (ha : MA a) {Q : Qy} {s : Int32 × Int32 × Mem} {t : (Int32 × Int32 × Mem) ⊕ (Int32 × Mem)} (h : f_X3_chiefLast_L4 a s = some t) (hP : P_X3_chiefLast_4 g a Q t) : A_X3_chiefLast_4 g a Q s := by
  refine wp_iload_n dX3_chiefLast_4 rfl rfl ?_
  refine wp_aload_n dX3_chiefLast_5 rfl rfl ?_
  refine wm_getR dX3_chiefLast_6 (sM_0 ha) fk_X3_47 rfl (rM_10 ha) rfl ?_
  refine wm_getI dX3_chiefLast_9 s_1 fk_X3_108 rfl rfl ?_
  refine wm_icmp_ge 47 dX3_chiefLast_12 rfl rfl h (fun h => ?_) (fun h => ?_)
  · refine wm_up h hP (fun r h hP => ?_)
    refine wp_aload_n dX3_chiefLast_47 rfl rfl ?_
    refine wp_iload_n dX3_chiefLast_48 rfl rfl ?_
    refine wm_callVI (As := [.int s.1]) (rest := []) dX3_chiefLast_49 ok_X3_167 (by decide) rfl (sM_0 ha) ⟨_, rfl⟩ (Nat.le_of_ble_eq_true rfl) ⟨rfl, rfl⟩ rfl (fun t h => o_X3_whoWishesMost ha h) h (fun q1 h => ?_)
    refine wp_istore_n (L' := [some (.ref a), some (.int s.1), some (.int q1.1)]) dX3_chiefLast_52 (by decide) rfl rfl rfl ?_
    refine wp_iload_n dX3_chiefLast_53 rfl rfl ?_
    refine wm_if_lt 61 dX3_chiefLast_54 rfl rfl h (fun h => ?_) (fun h => ?_)
    · refine wp_aload_n dX3_chiefLast_61 rfl rfl ?_
      refine wp_bipush (10 : Int32) dX3_chiefLast_62 ib_10 rfl ?_
      refine wm_callVI (As := [.int (10 : Int32)]) (rest := []) dX3_chiefLast_64 ok_X3_167 (by decide) rfl (sM_0 ha) ⟨_, rfl⟩ (Nat.le_of_ble_eq_true rfl) ⟨rfl, rfl⟩ rfl (fun t h => o_X3_whoWishesMost ha h) h (fun q2 h => ?_)
      exact wm_iret dX3_chiefLast_67 rfl ⟨rfl, rfl⟩ h hP
    · refine wp_iload_n dX3_chiefLast_57 rfl rfl ?_
      refine wp_goto 67 dX3_chiefLast_58 rfl ?_
      exact wm_iret dX3_chiefLast_67 rfl ⟨rfl, rfl⟩ h hP
  · refine wp_aload_n dX3_chiefLast_15 rfl rfl ?_
    refine wp_iload_n dX3_chiefLast_16 rfl rfl ?_
    refine wm_callVI (As := [.int s.2.1]) (rest := []) dX3_chiefLast_17 ok_X3_111 (by decide) rfl (sM_0 ha) ⟨_, rfl⟩ (Nat.le_of_ble_eq_true rfl) ⟨rfl, rfl⟩ rfl (fun t h => o_X3_isThere ha h) h (fun q3 h => ?_)
    refine wm_if_eq 39 dX3_chiefLast_20 rfl rfl h (fun h => ?_) (fun h => ?_)
    · refine wp_iload_n dX3_chiefLast_39 rfl rfl ?_
      refine wp_istore_n (L' := [some (.ref a), some (.int s.1), some (.int s.2.1)]) dX3_chiefLast_40 (by decide) rfl rfl rfl ?_
      refine wm_inc dX3_chiefLast_41 rfl ii_1 (by decide) rfl rfl h (fun y4 h => ?_)
      refine wm_list (L' := [some (.ref a), some (.int s.1), some (.int y4)]) rfl ?_
      refine wp_goto 4 dX3_chiefLast_44 rfl ?_
      have hB := wm_back h hP
      exact wm_mask (L' := [some (.ref a), some (.int s.1), some (.int y4)]) [true, true, true] rfl (hB)
    · refine wp_iload_n dX3_chiefLast_23 rfl rfl ?_
      refine wp_aload_n dX3_chiefLast_24 rfl rfl ?_
      refine wm_getR dX3_chiefLast_25 (sM_0 ha) fk_X3_47 rfl (rM_10 ha) rfl ?_
      refine wm_getR dX3_chiefLast_28 s_1 fk_X3_143 rfl r_1_0 rfl ?_
      refine wp_iload_n dX3_chiefLast_31 rfl rfl ?_
      refine wm_iald dX3_chiefLast_32 s_2 rfl h (fun h => ?_)
      refine wp_mmax dX3_chiefLast_33 ok_X3_170 (by decide) ⟨Nat.le_refl _, Nat.le_refl _⟩ (Nat.le_of_ble_eq_true rfl) rfl ?_
      refine wp_goto 40 dX3_chiefLast_36 rfl ?_
      refine wm_nm h (fun y5 h => ?_)
      refine wp_istore_n (L' := [some (.ref a), some (.int y5), some (.int s.2.1)]) dX3_chiefLast_40 (by decide) rfl rfl rfl ?_
      refine wm_inc dX3_chiefLast_41 rfl ii_1 (by decide) rfl rfl h (fun y6 h => ?_)
      refine wm_list (L' := [some (.ref a), some (.int y5), some (.int y6)]) rfl ?_
      refine wp_goto 4 dX3_chiefLast_44 rfl ?_
      have hB := wm_back h hP
      exact wm_mask (L' := [some (.ref a), some (.int y5), some (.int y6)]) [true, true, true] rfl (hB)
noncomputable def f_X3_chiefLast (a : Nat)  (m : Mem) : Option (Int32 × Mem) := wh (f_X3_chiefLast_L4 a) ((0 : Int32), (0 : Int32), m)
theorem k_X3_chiefLast_E {g : Gx} {a : Nat} (ha : MA a)  {Q : Qy} {m : Mem} {t : Int32 × Mem} (h : f_X3_chiefLast a m = some t) (hP : pI Q t) : WpM g 2 mi_X3_chiefLast 0 [some (.ref a), none, none] [] m (zM g mi_X3_chiefLast Q) := by
  refine wp_iconst (0 : Int32) dX3_chiefLast_0 ic_0 rfl ?_
  refine wp_istore_n (L' := [some (.ref a), some (.int (0 : Int32)), none]) dX3_chiefLast_1 (by decide) rfl rfl rfl ?_
  refine wp_iconst (0 : Int32) dX3_chiefLast_2 ic_0 rfl ?_
  refine wp_istore_n (L' := [some (.ref a), some (.int (0 : Int32)), some (.int (0 : Int32))]) dX3_chiefLast_3 (by decide) rfl rfl rfl ?_
  have hB := wh_ok (A := A_X3_chiefLast_4 g a Q) (B := pI Q) (fun s t h hP => k_X3_chiefLast_L4 ha h hP) h hP
  exact wm_mask (L' := [some (.ref a), some (.int (0 : Int32)), some (.int (0 : Int32))]) [true, true, true] rfl (hB)
theorem o_X3_chiefLast {g : Gx} {a : Nat} (ha : MA a)  {m : Mem} {t : Int32 × Mem} (h : f_X3_chiefLast a m = some t) : MxM g 2 mi_X3_chiefLast [.ref a] m (qI t) := mx_of pn_X3 (Nat.le_of_ble_eq_true rfl) (k_X3_chiefLast_E ha h ⟨rfl, rfl, rfl, rfl, rfl⟩)
noncomputable def f_X3_clear (a : Nat)  (m : Mem) : Option Mem := (f_J7_fill_53178 (a + 2) 6 (0 : Int32) m).bind (fun q1 => (f_J7_fill_53178 (a + 3) 20 (-2 : Int32) q1).bind (fun q2 => (f_J7_fill_53178 (a + 4) 20 (-2 : Int32) q2).bind (fun q3 => (f_J7_fill_53178 (a + 5) 10 (0 : Int32) q3).bind (fun q4 => (f_J7_fill_53178 (a + 6) 10 (0 : Int32) q4).bind (fun q5 => (f_J7_fill_53178 (a + 7) 10 (0 : Int32) q5).bind (fun q6 => (f_J7_fill_53178 (a + 10) 10 (0 : Int32) q6).bind (fun q7 => (f_J7_fill_53178 (a + 11) 10 (-2 : Int32) q7).bind (fun q8 => bnd (sI q8 a 7 (0 : Int32)) (fun m9 => bnd (sI m9 a 8 (0 : Int32)) (fun m10 => bnd (sI m10 a 9 (0 : Int32)) (fun m11 => bnd (sI m11 a 18 (-1 : Int32)) (fun m12 => some m12))))))))))))
theorem k_X3_clear_E {g : Gx} {a : Nat} (ha : MA a)  {Q : Qy} {m : Mem} {t : Mem} (h : f_X3_clear a m = some t) (hP : pV Q t) : WpM g 2 mi_X3_clear 0 [some (.ref a)] [] m (zM g mi_X3_clear Q) := by
  refine wp_aload_n dX3_clear_0 rfl rfl ?_
  refine wm_getR dX3_clear_1 (sM_0 ha) fk_X3_15 rfl (rM_1 ha) rfl ?_
  refine wp_iconst (0 : Int32) dX3_clear_4 ic_0 rfl ?_
  refine wm_callSN (As := [.ref (a + 2), .int (0 : Int32)]) (rest := []) dX3_clear_5 ok_X3_51 (by decide) rfl (Nat.le_of_ble_eq_true rfl) ⟨rfl, rfl⟩ rfl (fun t h => o_J7_fill_53178 (sM_2 ha) h) h (fun q1 h => ?_)
  refine wp_aload_n dX3_clear_8 rfl rfl ?_
  refine wm_getR dX3_clear_9 (sM_0 ha) fk_X3_18 rfl (rM_2 ha) rfl ?_
  refine wp_bipush (-2 : Int32) dX3_clear_12 ib_m2 rfl ?_
  refine wm_callSN (As := [.ref (a + 3), .int (-2 : Int32)]) (rest := []) dX3_clear_14 ok_X3_51 (by decide) rfl (Nat.le_of_ble_eq_true rfl) ⟨rfl, rfl⟩ rfl (fun t h => o_J7_fill_53178 (sM_3 ha) h) h (fun q2 h => ?_)
  refine wp_aload_n dX3_clear_17 rfl rfl ?_
  refine wm_getR dX3_clear_18 (sM_0 ha) fk_X3_21 rfl (rM_3 ha) rfl ?_
  refine wp_bipush (-2 : Int32) dX3_clear_21 ib_m2 rfl ?_
  refine wm_callSN (As := [.ref (a + 4), .int (-2 : Int32)]) (rest := []) dX3_clear_23 ok_X3_51 (by decide) rfl (Nat.le_of_ble_eq_true rfl) ⟨rfl, rfl⟩ rfl (fun t h => o_J7_fill_53178 (sM_4 ha) h) h (fun q3 h => ?_)
  refine wp_aload_n dX3_clear_26 rfl rfl ?_
  refine wm_getR dX3_clear_27 (sM_0 ha) fk_X3_24 rfl (rM_4 ha) rfl ?_
  refine wp_iconst (0 : Int32) dX3_clear_30 ic_0 rfl ?_
  refine wm_callSN (As := [.ref (a + 5), .int (0 : Int32)]) (rest := []) dX3_clear_31 ok_X3_51 (by decide) rfl (Nat.le_of_ble_eq_true rfl) ⟨rfl, rfl⟩ rfl (fun t h => o_J7_fill_53178 (sM_5 ha) h) h (fun q4 h => ?_)
  refine wp_aload_n dX3_clear_34 rfl rfl ?_
  refine wm_getR dX3_clear_35 (sM_0 ha) fk_X3_27 rfl (rM_5 ha) rfl ?_
  refine wp_iconst (0 : Int32) dX3_clear_38 ic_0 rfl ?_
  refine wm_callSN (As := [.ref (a + 6), .int (0 : Int32)]) (rest := []) dX3_clear_39 ok_X3_51 (by decide) rfl (Nat.le_of_ble_eq_true rfl) ⟨rfl, rfl⟩ rfl (fun t h => o_J7_fill_53178 (sM_6 ha) h) h (fun q5 h => ?_)
  refine wp_aload_n dX3_clear_42 rfl rfl ?_
  refine wm_getR dX3_clear_43 (sM_0 ha) fk_X3_30 rfl (rM_6 ha) rfl ?_
  refine wp_iconst (0 : Int32) dX3_clear_46 ic_0 rfl ?_
  refine wm_callSN (As := [.ref (a + 7), .int (0 : Int32)]) (rest := []) dX3_clear_47 ok_X3_51 (by decide) rfl (Nat.le_of_ble_eq_true rfl) ⟨rfl, rfl⟩ rfl (fun t h => o_J7_fill_53178 (sM_7 ha) h) h (fun q6 h => ?_)
  refine wp_aload_n dX3_clear_50 rfl rfl ?_
  refine wm_getR dX3_clear_51 (sM_0 ha) fk_X3_41 rfl (rM_13 ha) rfl ?_
  refine wp_iconst (0 : Int32) dX3_clear_54 ic_0 rfl ?_
  refine wm_callSN (As := [.ref (a + 10), .int (0 : Int32)]) (rest := []) dX3_clear_55 ok_X3_51 (by decide) rfl (Nat.le_of_ble_eq_true rfl) ⟨rfl, rfl⟩ rfl (fun t h => o_J7_fill_53178 (sM_10 ha) h) h (fun q7 h => ?_)
  refine wp_aload_n dX3_clear_58 rfl rfl ?_
  refine wm_getR dX3_clear_59 (sM_0 ha) fk_X3_44 rfl (rM_14 ha) rfl ?_
  refine wp_bipush (-2 : Int32) dX3_clear_62 ib_m2 rfl ?_
  refine wm_callSN (As := [.ref (a + 11), .int (-2 : Int32)]) (rest := []) dX3_clear_64 ok_X3_51 (by decide) rfl (Nat.le_of_ble_eq_true rfl) ⟨rfl, rfl⟩ rfl (fun t h => o_J7_fill_53178 (sM_11 ha) h) h (fun q8 h => ?_)
  refine wp_aload_n dX3_clear_67 rfl rfl ?_
  refine wp_iconst (0 : Int32) dX3_clear_68 ic_0 rfl ?_
  refine wm_putI dX3_clear_69 (sM_0 ha) fk_X3_57 rfl rfl h (fun m9 h => ?_)
  refine wp_aload_n dX3_clear_72 rfl rfl ?_
  refine wp_iconst (0 : Int32) dX3_clear_73 ic_0 rfl ?_
  refine wm_putI dX3_clear_74 (sM_0 ha) fk_X3_61 rfl rfl h (fun m10 h => ?_)
  refine wp_aload_n dX3_clear_77 rfl rfl ?_
  refine wp_iconst (0 : Int32) dX3_clear_78 ic_0 rfl ?_
  refine wm_putI dX3_clear_79 (sM_0 ha) fk_X3_64 rfl rfl h (fun m11 h => ?_)
  refine wp_aload_n dX3_clear_82 rfl rfl ?_
  refine wp_iconst (-1 : Int32) dX3_clear_83 ic_m1 rfl ?_
  refine wm_putI dX3_clear_84 (sM_0 ha) fk_X3_67 rfl rfl h (fun m12 h => ?_)
  exact wm_vret dX3_clear_87 rfl ⟨rfl, rfl⟩ h hP
theorem o_X3_clear {g : Gx} {a : Nat} (ha : MA a)  {m : Mem} {t : Mem} (h : f_X3_clear a m = some t) : MxM g 2 mi_X3_clear [.ref a] m (qV t) := mx_of pn_X3 (Nat.le_of_ble_eq_true rfl) (k_X3_clear_E ha h ⟨rfl, rfl, rfl, rfl, rfl⟩)
noncomputable def f_X3_minutesThere (a : Nat) (p1 : Int32) (m : Mem) : Option (Int32 × Mem) := if ¬ p1 = (gI m a 17) then ck p1 10 (some ((mxI (0 : Int32) ((gI m a 8) - (gI m 5 (ix p1)))), m)) else some ((0 : Int32), m)
theorem k_X3_minutesThere_E {g : Gx} {a : Nat} (ha : MA a) {p1 : Int32} {Q : Qy} {m : Mem} {t : Int32 × Mem} (h : f_X3_minutesThere a p1 m = some t) (hP : pI Q t) : WpM g 1 mi_X3_minutesThere 0 [some (.ref a), some (.int p1)] [] m (zM g mi_X3_minutesThere Q) := by
  refine wp_iload_n dX3_minutesThere_0 rfl rfl ?_
  refine wp_aload_n dX3_minutesThere_1 rfl rfl ?_
  refine wm_getI dX3_minutesThere_2 (sM_0 ha) fk_X3_79 rfl rfl ?_
  refine wm_icmp_ne 12 dX3_minutesThere_5 rfl rfl h (fun h => ?_) (fun h => ?_)
  · refine wp_iconst (0 : Int32) dX3_minutesThere_12 ic_0 rfl ?_
    refine wp_aload_n dX3_minutesThere_13 rfl rfl ?_
    refine wm_getI dX3_minutesThere_14 (sM_0 ha) fk_X3_61 rfl rfl ?_
    refine wp_aload_n dX3_minutesThere_17 rfl rfl ?_
    refine wm_getR dX3_minutesThere_18 (sM_0 ha) fk_X3_47 rfl (rM_10 ha) rfl ?_
    refine wm_getR dX3_minutesThere_21 s_1 fk_X3_105 rfl r_1_3 rfl ?_
    refine wp_iload_n dX3_minutesThere_24 rfl rfl ?_
    refine wm_iald dX3_minutesThere_25 s_5 rfl h (fun h => ?_)
    refine wp_isub dX3_minutesThere_26 rfl ?_
    refine wp_mmax dX3_minutesThere_27 ok_X3_170 (by decide) ⟨Nat.le_refl _, Nat.le_refl _⟩ (Nat.le_of_ble_eq_true rfl) rfl ?_
    exact wm_iret dX3_minutesThere_30 rfl ⟨rfl, rfl⟩ h hP
  · refine wp_iconst (0 : Int32) dX3_minutesThere_8 ic_0 rfl ?_
    refine wp_goto 30 dX3_minutesThere_9 rfl ?_
    exact wm_iret dX3_minutesThere_30 rfl ⟨rfl, rfl⟩ h hP
theorem o_X3_minutesThere {g : Gx} {a : Nat} (ha : MA a) {p1 : Int32} {m : Mem} {t : Int32 × Mem} (h : f_X3_minutesThere a p1 m = some t) : MxM g 1 mi_X3_minutesThere [.ref a, .int p1] m (qI t) := mx_of pn_X3 (Nat.le_of_ble_eq_true rfl) (k_X3_minutesThere_E ha h ⟨rfl, rfl, rfl, rfl, rfl⟩)
abbrev A_X3_cost_4 (g : Gx) (a : Nat) (Q : Qy) (s : Int32 × Int32 × Mem) : Prop := WpM g 2 mi_X3_cost 4 [some (.ref a), some (.int s.1), some (.int s.2.1)] [] s.2.2 (zM g mi_X3_cost Q)
abbrev P_X3_cost_4 (g : Gx) (a : Nat) (Q : Qy) : ((Int32 × Int32 × Mem) ⊕ (Int32 × Mem)) → Prop := pS (A_X3_cost_4 g a Q) (pI Q)
noncomputable def f_X3_cost_L4 (a : Nat) (s : Int32 × Int32 × Mem) : Option ((Int32 × Int32 × Mem) ⊕ (Int32 × Mem)) := if (gI s.2.2 1 13) ≤ s.2.1 then up (some (s.1, s.2.2)) else ck s.2.1 10 ((f_X3_minutesThere a s.2.1 s.2.2).bind (fun q1 => bnd (s.1 + ((gI s.2.2 4 (ix s.2.1)) * q1.1)) (fun y2 => bnd (s.2.1 + (1 : Int32)) (fun y3 => some (Sum.inl (y2, y3, q1.2))))))
theorem k_X3_cost_L4 {g : Gx} {a : Nat} (ha : MA a) {Q : Qy} {s : Int32 × Int32 × Mem} {t : (Int32 × Int32 × Mem) ⊕ (Int32 × Mem)} (h : f_X3_cost_L4 a s = some t) (hP : P_X3_cost_4 g a Q t) : A_X3_cost_4 g a Q s := by
  refine wp_iload_n dX3_cost_4 rfl rfl ?_
  refine wp_aload_n dX3_cost_5 rfl rfl ?_
  refine wm_getR dX3_cost_6 (sM_0 ha) fk_X3_47 rfl (rM_10 ha) rfl ?_
  refine wm_getI dX3_cost_9 s_1 fk_X3_108 rfl rfl ?_
  refine wm_icmp_ge 39 dX3_cost_12 rfl rfl h (fun h => ?_) (fun h => ?_)
  · refine wm_up h hP (fun r h hP => ?_)
    refine wp_iload_n dX3_cost_39 rfl rfl ?_
    exact wm_iret dX3_cost_40 rfl ⟨rfl, rfl⟩ h hP
  · refine wp_iload_n dX3_cost_15 rfl rfl ?_
    refine wp_aload_n dX3_cost_16 rfl rfl ?_
    refine wm_getR dX3_cost_17 (sM_0 ha) fk_X3_47 rfl (rM_10 ha) rfl ?_
    refine wm_getR dX3_cost_20 s_1 fk_X3_206 rfl r_1_2 rfl ?_
    refine wp_iload_n dX3_cost_23 rfl rfl ?_
    refine wm_iald dX3_cost_24 s_4 rfl h (fun h => ?_)
    refine wp_aload_n dX3_cost_25 rfl rfl ?_
    refine wp_iload_n dX3_cost_26 rfl rfl ?_
    refine wm_callVI (As := [.int s.2.1]) (rest := [.int (gI s.2.2 4 (ix s.2.1)), .int s.1]) dX3_cost_27 ok_X3_209 (by decide) rfl (sM_0 ha) ⟨_, rfl⟩ (Nat.le_of_ble_eq_true rfl) ⟨rfl, rfl⟩ rfl (fun t h => o_X3_minutesThere ha h) h (fun q1 h => ?_)
    refine wp_imul dX3_cost_30 rfl ?_
    refine wp_iadd dX3_cost_31 rfl ?_
    refine wm_nm h (fun y2 h => ?_)
    refine wp_istore_n (L' := [some (.ref a), some (.int y2), some (.int s.2.1)]) dX3_cost_32 (by decide) rfl rfl rfl ?_
    refine wm_inc dX3_cost_33 rfl ii_1 (by decide) rfl rfl h (fun y3 h => ?_)
    refine wm_list (L' := [some (.ref a), some (.int y2), some (.int y3)]) rfl ?_
    refine wp_goto 4 dX3_cost_36 rfl ?_
    have hB := wm_back h hP
    exact wm_mask (L' := [some (.ref a), some (.int y2), some (.int y3)]) [true, true, true] rfl (hB)
noncomputable def f_X3_cost (a : Nat)  (m : Mem) : Option (Int32 × Mem) := wh (f_X3_cost_L4 a) ((0 : Int32), (0 : Int32), m)
theorem k_X3_cost_E {g : Gx} {a : Nat} (ha : MA a)  {Q : Qy} {m : Mem} {t : Int32 × Mem} (h : f_X3_cost a m = some t) (hP : pI Q t) : WpM g 2 mi_X3_cost 0 [some (.ref a), none, none] [] m (zM g mi_X3_cost Q) := by
  refine wp_iconst (0 : Int32) dX3_cost_0 ic_0 rfl ?_
  refine wp_istore_n (L' := [some (.ref a), some (.int (0 : Int32)), none]) dX3_cost_1 (by decide) rfl rfl rfl ?_
  refine wp_iconst (0 : Int32) dX3_cost_2 ic_0 rfl ?_
  refine wp_istore_n (L' := [some (.ref a), some (.int (0 : Int32)), some (.int (0 : Int32))]) dX3_cost_3 (by decide) rfl rfl rfl ?_
  have hB := wh_ok (A := A_X3_cost_4 g a Q) (B := pI Q) (fun s t h hP => k_X3_cost_L4 ha h hP) h hP
  exact wm_mask (L' := [some (.ref a), some (.int (0 : Int32)), some (.int (0 : Int32))]) [true, true, true] rfl (hB)
theorem o_X3_cost {g : Gx} {a : Nat} (ha : MA a)  {m : Mem} {t : Int32 × Mem} (h : f_X3_cost a m = some t) : MxM g 2 mi_X3_cost [.ref a] m (qI t) := mx_of pn_X3 (Nat.le_of_ble_eq_true rfl) (k_X3_cost_E ha h ⟨rfl, rfl, rfl, rfl, rfl⟩)
abbrev A_X6_sum_10 (g : Gx)  (Q : Qy) (s : Int32 × Int32 × Int32 × Int32 × Mem) : Prop := WpM g 1 mi_X6_sum 10 [some (.ref 1), some (.int s.1), some (.int s.2.1), some (.int s.2.2.1), some (.int s.2.2.2.1)] [] s.2.2.2.2 (zM g mi_X6_sum Q)
abbrev P_X6_sum_10 (g : Gx)  (Q : Qy) : ((Int32 × Int32 × Int32 × Int32 × Mem) ⊕ (Int32 × Mem)) → Prop := pS (A_X6_sum_10 g Q) (pI Q)
noncomputable def f_X6_sum_L10  (s : Int32 × Int32 × Int32 × Int32 × Mem) : Option ((Int32 × Int32 × Int32 × Int32 × Mem) ⊕ (Int32 × Mem)) := if (gI s.2.2.2.2 1 15) ≤ s.2.2.2.1 then up (some (s.2.2.1, s.2.2.2.2)) else ck s.1 6 (if ((s.2.1 &&& (gI s.2.2.2.2 13 (ix s.1))) &&& ((1 : Int32) <<< (s.2.2.2.1 &&& 31))) = 0 then bnd (s.2.2.2.1 + (1 : Int32)) (fun y2 => some (Sum.inl (s.1, s.2.1, s.2.2.1, y2, s.2.2.2.2))) else ck s.2.2.2.1 20 (bnd (s.2.2.1 + (gI s.2.2.2.2 9 (ix s.2.2.2.1))) (fun y3 => bnd (s.2.2.2.1 + (1 : Int32)) (fun y4 => some (Sum.inl (s.1, s.2.1, y3, y4, s.2.2.2.2))))))
theorem k_X6_sum_L10 {g : Gx}  {Q : Qy} {s : Int32 × Int32 × Int32 × Int32 × Mem} {t : (Int32 × Int32 × Int32 × Int32 × Mem) ⊕ (Int32 × Mem)} (h : f_X6_sum_L10 s = some t) (hP : P_X6_sum_10 g Q t) : A_X6_sum_10 g Q s := by
  refine wp_iload dX6_sum_10 rfl rfl ?_
  refine wp_aload_n dX6_sum_12 rfl rfl ?_
  refine wm_getI dX6_sum_13 s_1 fk_X6_65 rfl rfl ?_
  refine wm_icmp_ge 51 dX6_sum_16 rfl rfl h (fun h => ?_) (fun h => ?_)
  · refine wm_up h hP (fun r h hP => ?_)
    refine wp_iload_n dX6_sum_51 rfl rfl ?_
    exact wm_iret dX6_sum_52 rfl ⟨rfl, rfl⟩ h hP
  · refine wp_iload_n dX6_sum_19 rfl rfl ?_
    refine wp_aload_n dX6_sum_20 rfl rfl ?_
    refine wm_getR dX6_sum_21 s_1 fk_X6_45 rfl r_1_11 rfl ?_
    refine wp_iload_n dX6_sum_24 rfl rfl ?_
    refine wm_iald dX6_sum_25 s_13 rfl h (fun h => ?_)
    refine wp_iand dX6_sum_26 rfl ?_
    refine wp_iconst (1 : Int32) dX6_sum_27 ic_1 rfl ?_
    refine wp_iload dX6_sum_28 rfl rfl ?_
    refine wp_ishl dX6_sum_30 rfl ?_
    refine wp_iand dX6_sum_31 rfl ?_
    refine wm_if_eq 45 dX6_sum_32 rfl rfl h (fun h => ?_) (fun h => ?_)
    · refine wm_inc dX6_sum_45 rfl ii_1 (by decide) rfl rfl h (fun y2 h => ?_)
      refine wm_list (L' := [some (.ref 1), some (.int s.1), some (.int s.2.1), some (.int s.2.2.1), some (.int y2)]) rfl ?_
      refine wp_goto 10 dX6_sum_48 rfl ?_
      have hB := wm_back h hP
      exact wm_mask (L' := [some (.ref 1), some (.int s.1), some (.int s.2.1), some (.int s.2.2.1), some (.int y2)]) [true, true, true, true, true] rfl (hB)
    · refine wp_iload_n dX6_sum_35 rfl rfl ?_
      refine wp_aload_n dX6_sum_36 rfl rfl ?_
      refine wm_getR dX6_sum_37 s_1 fk_X6_33 rfl r_1_7 rfl ?_
      refine wp_iload dX6_sum_40 rfl rfl ?_
      refine wm_iald dX6_sum_42 s_9 rfl h (fun h => ?_)
      refine wp_iadd dX6_sum_43 rfl ?_
      refine wm_nm h (fun y3 h => ?_)
      refine wp_istore_n (L' := [some (.ref 1), some (.int s.1), some (.int s.2.1), some (.int y3), some (.int s.2.2.2.1)]) dX6_sum_44 (by decide) rfl rfl rfl ?_
      refine wm_inc dX6_sum_45 rfl ii_1 (by decide) rfl rfl h (fun y4 h => ?_)
      refine wm_list (L' := [some (.ref 1), some (.int s.1), some (.int s.2.1), some (.int y3), some (.int y4)]) rfl ?_
      refine wp_goto 10 dX6_sum_48 rfl ?_
      have hB := wm_back h hP
      exact wm_mask (L' := [some (.ref 1), some (.int s.1), some (.int s.2.1), some (.int y3), some (.int y4)]) [true, true, true, true, true] rfl (hB)
noncomputable def f_X6_sum  (p1 : Int32) (p2 : Int32) (m : Mem) : Option (Int32 × Mem) := ck p1 6 (bnd (gI m 6 (ix p1)) (fun y1 => wh (f_X6_sum_L10) (p1, p2, y1, (0 : Int32), m)))
theorem k_X6_sum_E {g : Gx}  {p1 : Int32} {p2 : Int32} {Q : Qy} {m : Mem} {t : Int32 × Mem} (h : f_X6_sum p1 p2 m = some t) (hP : pI Q t) : WpM g 1 mi_X6_sum 0 [some (.ref 1), some (.int p1), some (.int p2), none, none] [] m (zM g mi_X6_sum Q) := by
  refine wp_aload_n dX6_sum_0 rfl rfl ?_
  refine wm_getR dX6_sum_1 s_1 fk_X6_24 rfl r_1_4 rfl ?_
  refine wp_iload_n dX6_sum_4 rfl rfl ?_
  refine wm_iald dX6_sum_5 s_6 rfl h (fun h => ?_)
  refine wm_nm h (fun y1 h => ?_)
  refine wp_istore_n (L' := [some (.ref 1), some (.int p1), some (.int p2), some (.int y1), none]) dX6_sum_6 (by decide) rfl rfl rfl ?_
  refine wp_iconst (0 : Int32) dX6_sum_7 ic_0 rfl ?_
  refine wp_istore (L' := [some (.ref 1), some (.int p1), some (.int p2), some (.int y1), some (.int (0 : Int32))]) dX6_sum_8 (by decide) rfl rfl rfl ?_
  have hB := wh_ok (A := A_X6_sum_10 g Q) (B := pI Q) (fun s t h hP => k_X6_sum_L10  h hP) h hP
  exact wm_mask (L' := [some (.ref 1), some (.int p1), some (.int p2), some (.int y1), some (.int (0 : Int32))]) [true, true, true, true, true] rfl (hB)
theorem o_X6_sum {g : Gx}  {p1 : Int32} {p2 : Int32} {m : Mem} {t : Int32 × Mem} (h : f_X6_sum p1 p2 m = some t) : MxM g 1 mi_X6_sum [.ref 1, .int p1, .int p2] m (qI t) := mx_of pn_X6 (Nat.le_of_ble_eq_true rfl) (k_X6_sum_E h ⟨rfl, rfl, rfl, rfl, rfl⟩)
abbrev A_X6_decided_4 (g : Gx)  (Q : Qy) (s : Int32 × Int32 × Int32 × Mem) : Prop := WpM g 2 mi_X6_decided 4 [some (.ref 1), some (.int s.1), some (.int s.2.1), some (.int s.2.2.1)] [] s.2.2.2 (zM g mi_X6_decided Q)
abbrev P_X6_decided_4 (g : Gx)  (Q : Qy) : ((Int32 × Int32 × Int32 × Mem) ⊕ (Int32 × Mem)) → Prop := pS (A_X6_decided_4 g Q) (pI Q)
noncomputable def f_X6_decided_L4  (s : Int32 × Int32 × Int32 × Mem) : Option ((Int32 × Int32 × Int32 × Mem) ⊕ (Int32 × Mem)) := if (gI s.2.2.2 1 14) ≤ s.2.2.1 then up (some (s.2.1, s.2.2.2)) else (f_X6_sum s.2.2.1 s.1 s.2.2.2).bind (fun q1 => if q1.1 ≤ 0 then bnd (s.2.1 ||| (0 : Int32)) (fun y2 => bnd (s.2.2.1 + (1 : Int32)) (fun y3 => some (Sum.inl (s.1, y2, y3, q1.2)))) else bnd (s.2.1 ||| ((1 : Int32) <<< (s.2.2.1 &&& 31))) (fun y4 => bnd (s.2.2.1 + (1 : Int32)) (fun y5 => some (Sum.inl (s.1, y4, y5, q1.2)))))
theorem k_X6_decided_L4 {g : Gx}  {Q : Qy} {s : Int32 × Int32 × Int32 × Mem} {t : (Int32 × Int32 × Int32 × Mem) ⊕ (Int32 × Mem)} (h : f_X6_decided_L4 s = some t) (hP : P_X6_decided_4 g Q t) : A_X6_decided_4 g Q s := by
  refine wp_iload_n dX6_decided_4 rfl rfl ?_
  refine wp_aload_n dX6_decided_5 rfl rfl ?_
  refine wm_getI dX6_decided_6 s_1 fk_X6_59 rfl rfl ?_
  refine wm_icmp_ge 37 dX6_decided_9 rfl rfl h (fun h => ?_) (fun h => ?_)
  · refine wm_up h hP (fun r h hP => ?_)
    refine wp_iload_n dX6_decided_37 rfl rfl ?_
    exact wm_iret dX6_decided_38 rfl ⟨rfl, rfl⟩ h hP
  · refine wp_iload_n dX6_decided_12 rfl rfl ?_
    refine wp_aload_n dX6_decided_13 rfl rfl ?_
    refine wp_iload_n dX6_decided_14 rfl rfl ?_
    refine wp_iload_n dX6_decided_15 rfl rfl ?_
    refine wm_callVI (As := [.int s.2.2.1, .int s.1]) (rest := [.int s.2.1]) dX6_decided_16 ok_X6_90 (by decide) rfl s_1 ⟨_, rfl⟩ (Nat.le_of_ble_eq_true rfl) ⟨rfl, rfl⟩ rfl (fun t h => o_X6_sum h) h (fun q1 h => ?_)
    refine wm_if_le 28 dX6_decided_19 rfl rfl h (fun h => ?_) (fun h => ?_)
    · refine wp_iconst (0 : Int32) dX6_decided_28 ic_0 rfl ?_
      refine wp_ior dX6_decided_29 rfl ?_
      refine wm_nm h (fun y2 h => ?_)
      refine wp_istore_n (L' := [some (.ref 1), some (.int s.1), some (.int y2), some (.int s.2.2.1)]) dX6_decided_30 (by decide) rfl rfl rfl ?_
      refine wm_inc dX6_decided_31 rfl ii_1 (by decide) rfl rfl h (fun y3 h => ?_)
      refine wm_list (L' := [some (.ref 1), some (.int s.1), some (.int y2), some (.int y3)]) rfl ?_
      refine wp_goto 4 dX6_decided_34 rfl ?_
      have hB := wm_back h hP
      exact wm_mask (L' := [some (.ref 1), some (.int s.1), some (.int y2), some (.int y3)]) [true, true, true, true] rfl (hB)
    · refine wp_iconst (1 : Int32) dX6_decided_22 ic_1 rfl ?_
      refine wp_iload_n dX6_decided_23 rfl rfl ?_
      refine wp_ishl dX6_decided_24 rfl ?_
      refine wp_goto 29 dX6_decided_25 rfl ?_
      refine wp_ior dX6_decided_29 rfl ?_
      refine wm_nm h (fun y4 h => ?_)
      refine wp_istore_n (L' := [some (.ref 1), some (.int s.1), some (.int y4), some (.int s.2.2.1)]) dX6_decided_30 (by decide) rfl rfl rfl ?_
      refine wm_inc dX6_decided_31 rfl ii_1 (by decide) rfl rfl h (fun y5 h => ?_)
      refine wm_list (L' := [some (.ref 1), some (.int s.1), some (.int y4), some (.int y5)]) rfl ?_
      refine wp_goto 4 dX6_decided_34 rfl ?_
      have hB := wm_back h hP
      exact wm_mask (L' := [some (.ref 1), some (.int s.1), some (.int y4), some (.int y5)]) [true, true, true, true] rfl (hB)
noncomputable def f_X6_decided  (p1 : Int32) (m : Mem) : Option (Int32 × Mem) := wh (f_X6_decided_L4) (p1, (0 : Int32), (0 : Int32), m)
theorem k_X6_decided_E {g : Gx}  {p1 : Int32} {Q : Qy} {m : Mem} {t : Int32 × Mem} (h : f_X6_decided p1 m = some t) (hP : pI Q t) : WpM g 2 mi_X6_decided 0 [some (.ref 1), some (.int p1), none, none] [] m (zM g mi_X6_decided Q) := by
  refine wp_iconst (0 : Int32) dX6_decided_0 ic_0 rfl ?_
  refine wp_istore_n (L' := [some (.ref 1), some (.int p1), some (.int (0 : Int32)), none]) dX6_decided_1 (by decide) rfl rfl rfl ?_
  refine wp_iconst (0 : Int32) dX6_decided_2 ic_0 rfl ?_
  refine wp_istore_n (L' := [some (.ref 1), some (.int p1), some (.int (0 : Int32)), some (.int (0 : Int32))]) dX6_decided_3 (by decide) rfl rfl rfl ?_
  have hB := wh_ok (A := A_X6_decided_4 g Q) (B := pI Q) (fun s t h hP => k_X6_decided_L4  h hP) h hP
  exact wm_mask (L' := [some (.ref 1), some (.int p1), some (.int (0 : Int32)), some (.int (0 : Int32))]) [true, true, true, true] rfl (hB)
theorem o_X6_decided {g : Gx}  {p1 : Int32} {m : Mem} {t : Int32 × Mem} (h : f_X6_decided p1 m = some t) : MxM g 2 mi_X6_decided [.ref 1, .int p1] m (qI t) := mx_of pn_X6 (Nat.le_of_ble_eq_true rfl) (k_X6_decided_E h ⟨rfl, rfl, rfl, rfl, rfl⟩)
noncomputable def f_X3_decided (a : Nat)  (m : Mem) : Option (Int32 × Mem) := (f_X6_decided (gI m a 9) m).bind (fun q1 => some (q1.1, q1.2))
theorem k_X3_decided_E {g : Gx} {a : Nat} (ha : MA a)  {Q : Qy} {m : Mem} {t : Int32 × Mem} (h : f_X3_decided a m = some t) (hP : pI Q t) : WpM g 3 mi_X3_decided 0 [some (.ref a)] [] m (zM g mi_X3_decided Q) := by
  refine wp_aload_n dX3_decided_0 rfl rfl ?_
  refine wm_getR dX3_decided_1 (sM_0 ha) fk_X3_47 rfl (rM_10 ha) rfl ?_
  refine wp_aload_n dX3_decided_4 rfl rfl ?_
  refine wm_getI dX3_decided_5 (sM_0 ha) fk_X3_64 rfl rfl ?_
  refine wm_callVI (As := [.int (gI m a 9)]) (rest := []) dX3_decided_8 ok_X3_198 (by decide) rfl s_1 ⟨_, rfl⟩ (Nat.le_of_ble_eq_true rfl) ⟨rfl, rfl⟩ rfl (fun t h => o_X6_decided h) h (fun q1 h => ?_)
  exact wm_iret dX3_decided_11 rfl ⟨rfl, rfl⟩ h hP
theorem o_X3_decided {g : Gx} {a : Nat} (ha : MA a)  {m : Mem} {t : Int32 × Mem} (h : f_X3_decided a m = some t) : MxM g 3 mi_X3_decided [.ref a] m (qI t) := mx_of pn_X3 (Nat.le_of_ble_eq_true rfl) (k_X3_decided_E ha h ⟨rfl, rfl, rfl, rfl, rfl⟩)
abbrev A_X3_sayFirst_3 (g : Gx) (a : Nat) (Q : Qy) (s : Int32 × Int32 × Int32 × Int32 × Mem) : Prop := WpM g 1 mi_X3_sayFirst 3 [some (.ref a), some (.int s.1), some (.int s.2.1), some (.int s.2.2.1), some (.int s.2.2.2.1)] [] s.2.2.2.2 (zM g mi_X3_sayFirst Q)
abbrev P_X3_sayFirst_3 (g : Gx) (a : Nat) (Q : Qy) : ((Int32 × Int32 × Int32 × Int32 × Mem) ⊕ Mem) → Prop := pS (A_X3_sayFirst_3 g a Q) (pV Q)
noncomputable def f_X3_sayFirst_L3 (a : Nat) (s : Int32 × Int32 × Int32 × Int32 × Mem) : Option ((Int32 × Int32 × Int32 × Int32 × Mem) ⊕ Mem) := if (gI s.2.2.2.2 1 15) ≤ s.2.2.2.1 then up (bnd (sI s.2.2.2.2 a 9 ((gI s.2.2.2.2 a 9) ||| s.1)) (fun m1 => some m1)) else if (s.1 &&& ((1 : Int32) <<< (s.2.2.2.1 &&& 31))) = 0 then bnd (s.2.2.2.1 + (1 : Int32)) (fun y2 => some (Sum.inl (s.1, s.2.1, s.2.2.1, y2, s.2.2.2.2))) else ck s.2.2.2.1 20 (bnd (sI s.2.2.2.2 (a + 3) (ix s.2.2.2.1) s.2.1) (fun m3 => ck s.2.2.2.1 20 (bnd (sI m3 (a + 4) (ix s.2.2.2.1) s.2.2.1) (fun m4 => bnd (s.2.2.2.1 + (1 : Int32)) (fun y5 => some (Sum.inl (s.1, s.2.1, s.2.2.1, y5, m4)))))))
theorem k_X3_sayFirst_L3 {g : Gx} {a : Nat} (ha : MA a) {Q : Qy} {s : Int32 × Int32 × Int32 × Int32 × Mem} {t : (Int32 × Int32 × Int32 × Int32 × Mem) ⊕ Mem} (h : f_X3_sayFirst_L3 a s = some t) (hP : P_X3_sayFirst_3 g a Q t) : A_X3_sayFirst_3 g a Q s := by
  refine wp_iload dX3_sayFirst_3 rfl rfl ?_
  refine wp_aload_n dX3_sayFirst_5 rfl rfl ?_
  refine wm_getR dX3_sayFirst_6 (sM_0 ha) fk_X3_47 rfl (rM_10 ha) rfl ?_
  refine wm_getI dX3_sayFirst_9 s_1 fk_X3_128 rfl rfl ?_
  refine wm_icmp_ge 46 dX3_sayFirst_12 rfl rfl h (fun h => ?_) (fun h => ?_)
  · refine wm_up h hP (fun r h hP => ?_)
    refine wp_aload_n dX3_sayFirst_46 rfl rfl ?_
    refine wp_dup dX3_sayFirst_47 rfl rfl ?_
    refine wm_getI dX3_sayFirst_48 (sM_0 ha) fk_X3_64 rfl rfl ?_
    refine wp_iload_n dX3_sayFirst_51 rfl rfl ?_
    refine wp_ior dX3_sayFirst_52 rfl ?_
    refine wm_putI dX3_sayFirst_53 (sM_0 ha) fk_X3_64 rfl rfl h (fun m1 h => ?_)
    exact wm_vret dX3_sayFirst_56 rfl ⟨rfl, rfl⟩ h hP
  · refine wp_iload_n dX3_sayFirst_15 rfl rfl ?_
    refine wp_iconst (1 : Int32) dX3_sayFirst_16 ic_1 rfl ?_
    refine wp_iload dX3_sayFirst_17 rfl rfl ?_
    refine wp_ishl dX3_sayFirst_19 rfl ?_
    refine wp_iand dX3_sayFirst_20 rfl ?_
    refine wm_if_eq 40 dX3_sayFirst_21 rfl rfl h (fun h => ?_) (fun h => ?_)
    · refine wm_inc dX3_sayFirst_40 rfl ii_1 (by decide) rfl rfl h (fun y2 h => ?_)
      refine wm_list (L' := [some (.ref a), some (.int s.1), some (.int s.2.1), some (.int s.2.2.1), some (.int y2)]) rfl ?_
      refine wp_goto 3 dX3_sayFirst_43 rfl ?_
      have hB := wm_back h hP
      exact wm_mask (L' := [some (.ref a), some (.int s.1), some (.int s.2.1), some (.int s.2.2.1), some (.int y2)]) [true, true, true, true, true] rfl (hB)
    · refine wp_aload_n dX3_sayFirst_24 rfl rfl ?_
      refine wm_getR dX3_sayFirst_25 (sM_0 ha) fk_X3_18 rfl (rM_2 ha) rfl ?_
      refine wp_iload dX3_sayFirst_28 rfl rfl ?_
      refine wp_iload_n dX3_sayFirst_30 rfl rfl ?_
      refine wm_iast dX3_sayFirst_31 (sM_3 ha) rfl h (fun m3 h => ?_)
      refine wp_aload_n dX3_sayFirst_32 rfl rfl ?_
      refine wm_getR dX3_sayFirst_33 (sM_0 ha) fk_X3_21 rfl (rM_3 ha) rfl ?_
      refine wp_iload dX3_sayFirst_36 rfl rfl ?_
      refine wp_iload_n dX3_sayFirst_38 rfl rfl ?_
      refine wm_iast dX3_sayFirst_39 (sM_4 ha) rfl h (fun m4 h => ?_)
      refine wm_inc dX3_sayFirst_40 rfl ii_1 (by decide) rfl rfl h (fun y5 h => ?_)
      refine wm_list (L' := [some (.ref a), some (.int s.1), some (.int s.2.1), some (.int s.2.2.1), some (.int y5)]) rfl ?_
      refine wp_goto 3 dX3_sayFirst_43 rfl ?_
      have hB := wm_back h hP
      exact wm_mask (L' := [some (.ref a), some (.int s.1), some (.int s.2.1), some (.int s.2.2.1), some (.int y5)]) [true, true, true, true, true] rfl (hB)
noncomputable def f_X3_sayFirst (a : Nat) (p1 : Int32) (p2 : Int32) (p3 : Int32) (m : Mem) : Option Mem := wh (f_X3_sayFirst_L3 a) (p1, p2, p3, (0 : Int32), m)
theorem k_X3_sayFirst_E {g : Gx} {a : Nat} (ha : MA a) {p1 : Int32} {p2 : Int32} {p3 : Int32} {Q : Qy} {m : Mem} {t : Mem} (h : f_X3_sayFirst a p1 p2 p3 m = some t) (hP : pV Q t) : WpM g 1 mi_X3_sayFirst 0 [some (.ref a), some (.int p1), some (.int p2), some (.int p3), none] [] m (zM g mi_X3_sayFirst Q) := by
  refine wp_iconst (0 : Int32) dX3_sayFirst_0 ic_0 rfl ?_
  refine wp_istore (L' := [some (.ref a), some (.int p1), some (.int p2), some (.int p3), some (.int (0 : Int32))]) dX3_sayFirst_1 (by decide) rfl rfl rfl ?_
  have hB := wh_ok (A := A_X3_sayFirst_3 g a Q) (B := pV Q) (fun s t h hP => k_X3_sayFirst_L3 ha h hP) h hP
  exact wm_mask (L' := [some (.ref a), some (.int p1), some (.int p2), some (.int p3), some (.int (0 : Int32))]) [true, true, true, true, true] rfl (hB)
theorem o_X3_sayFirst {g : Gx} {a : Nat} (ha : MA a) {p1 : Int32} {p2 : Int32} {p3 : Int32} {m : Mem} {t : Mem} (h : f_X3_sayFirst a p1 p2 p3 m = some t) : MxM g 1 mi_X3_sayFirst [.ref a, .int p1, .int p2, .int p3] m (qV t) := mx_of pn_X3 (Nat.le_of_ble_eq_true rfl) (k_X3_sayFirst_E ha h ⟨rfl, rfl, rfl, rfl, rfl⟩)
noncomputable def f_X3_writeDown (a : Nat) (p1 : Int32) (m : Mem) : Option Mem := (f_X3_cardsThere a m).bind (fun q1 => ck p1 6 (bnd (q1.1 &&& (gI q1.2 13 (ix p1))) (fun y2 => (f_X3_sayFirst a y2 (-1 : Int32) (-1 : Int32) q1.2).bind (fun q3 => some q3))))
theorem k_X3_writeDown_E {g : Gx} {a : Nat} (ha : MA a) {p1 : Int32} {Q : Qy} {m : Mem} {t : Mem} (h : f_X3_writeDown a p1 m = some t) (hP : pV Q t) : WpM g 3 mi_X3_writeDown 0 [some (.ref a), some (.int p1), none] [] m (zM g mi_X3_writeDown Q) := by
  refine wp_aload_n dX3_writeDown_0 rfl rfl ?_
  refine wm_callVI (As := []) (rest := []) dX3_writeDown_1 ok_X3_118 (by decide) rfl (sM_0 ha) ⟨_, rfl⟩ (Nat.le_of_ble_eq_true rfl) ⟨rfl, rfl⟩ rfl (fun t h => o_X3_cardsThere ha h) h (fun q1 h => ?_)
  refine wp_aload_n dX3_writeDown_4 rfl rfl ?_
  refine wm_getR dX3_writeDown_5 (sM_0 ha) fk_X3_47 rfl (rM_10 ha) rfl ?_
  refine wm_getR dX3_writeDown_8 s_1 fk_X3_121 rfl r_1_11 rfl ?_
  refine wp_iload_n dX3_writeDown_11 rfl rfl ?_
  refine wm_iald dX3_writeDown_12 s_13 rfl h (fun h => ?_)
  refine wp_iand dX3_writeDown_13 rfl ?_
  refine wm_nm h (fun y2 h => ?_)
  refine wp_istore_n (L' := [some (.ref a), some (.int p1), some (.int y2)]) dX3_writeDown_14 (by decide) rfl rfl rfl ?_
  refine wp_aload_n dX3_writeDown_15 rfl rfl ?_
  refine wp_iload_n dX3_writeDown_16 rfl rfl ?_
  refine wp_iconst (-1 : Int32) dX3_writeDown_17 ic_m1 rfl ?_
  refine wp_iconst (-1 : Int32) dX3_writeDown_18 ic_m1 rfl ?_
  refine wm_callVN (As := [.int y2, .int (-1 : Int32), .int (-1 : Int32)]) (rest := []) dX3_writeDown_19 ok_X3_124 (by decide) rfl (sM_0 ha) ⟨_, rfl⟩ (Nat.le_of_ble_eq_true rfl) ⟨rfl, rfl⟩ rfl (fun t h => o_X3_sayFirst ha h) h (fun q3 h => ?_)
  exact wm_vret dX3_writeDown_22 rfl ⟨rfl, rfl⟩ h hP
theorem o_X3_writeDown {g : Gx} {a : Nat} (ha : MA a) {p1 : Int32} {m : Mem} {t : Mem} (h : f_X3_writeDown a p1 m = some t) : MxM g 3 mi_X3_writeDown [.ref a, .int p1] m (qV t) := mx_of pn_X3 (Nat.le_of_ble_eq_true rfl) (k_X3_writeDown_E ha h ⟨rfl, rfl, rfl, rfl, rfl⟩)
noncomputable def f_X3_namesOf (a : Nat) (p1 : Int32) (p2 : Int32) (m : Mem) : Option Mem := ck p1 10 (ck (0 : Int32) 8 (bnd (sI m (a + 8) (ix (0 : Int32)) (gI m 2 (ix p1))) (fun m1 => ck p1 10 (ck (1 : Int32) 8 (bnd (sI m1 (a + 8) (ix (1 : Int32)) (gI m1 3 (ix p1))) (fun m2 => ck p2 6 (ck (2 : Int32) 8 (bnd (sI m2 (a + 8) (ix (2 : Int32)) (gI m2 7 (ix p2))) (fun m3 => ck p1 10 (ck p2 6 ((f_J6_bitCount_0f7a4 (((gI m3 12 (ix p1)) &&& (gI m3 13 (ix p2))) &&& ((gI m3 a 9) ^^^ (-1 : Int32))) m3).bind (fun q4 => ck (3 : Int32) 8 (bnd (sI q4.2 (a + 8) (ix (3 : Int32)) q4.1) (fun m5 => ck p1 10 (ck (4 : Int32) 8 (bnd (sI m5 (a + 8) (ix (4 : Int32)) (gI m5 (a + 10) (ix p1))) (fun m6 => ck p2 6 (ck (5 : Int32) 8 (bnd (sI m6 (a + 8) (ix (5 : Int32)) (gI m6 (a + 2) (ix p2))) (fun m7 => ck (6 : Int32) 8 (bnd (sI m7 (a + 8) (ix (6 : Int32)) p1) (fun m8 => if ¬ p1 = (gI m8 a 18) then ck (7 : Int32) 8 (bnd (sI m8 (a + 8) (ix (7 : Int32)) (0 : Int32)) (fun m9 => some m9)) else ck (7 : Int32) 8 (bnd (sI m8 (a + 8) (ix (7 : Int32)) (1 : Int32)) (fun m10 => some m10))))))))))))))))))))))))
theorem k_X3_namesOf_E {g : Gx} {a : Nat} (ha : MA a) {p1 : Int32} {p2 : Int32} {Q : Qy} {m : Mem} {t : Mem} (h : f_X3_namesOf a p1 p2 m = some t) (hP : pK (a + 8) Q t) : WpM g 2 mi_X3_namesOf 0 [some (.ref a), some (.int p1), some (.int p2)] [] m (zM g mi_X3_namesOf Q) := by
  refine wp_aload_n dX3_namesOf_0 rfl rfl ?_
  refine wm_getR dX3_namesOf_1 (sM_0 ha) fk_X3_35 rfl (rM_11 ha) rfl ?_
  refine wp_iconst (0 : Int32) dX3_namesOf_4 ic_0 rfl ?_
  refine wp_aload_n dX3_namesOf_5 rfl rfl ?_
  refine wm_getR dX3_namesOf_6 (sM_0 ha) fk_X3_47 rfl (rM_10 ha) rfl ?_
  refine wm_getR dX3_namesOf_9 s_1 fk_X3_143 rfl r_1_0 rfl ?_
  refine wp_iload_n dX3_namesOf_12 rfl rfl ?_
  refine wm_iald dX3_namesOf_13 s_2 rfl h (fun h => ?_)
  refine wm_iast dX3_namesOf_14 (sM_8 ha) rfl h (fun m1 h => ?_)
  refine wp_aload_n dX3_namesOf_15 rfl rfl ?_
  refine wm_getR dX3_namesOf_16 (sM_0 ha) fk_X3_35 rfl (rM_11 ha) rfl ?_
  refine wp_iconst (1 : Int32) dX3_namesOf_19 ic_1 rfl ?_
  refine wp_aload_n dX3_namesOf_20 rfl rfl ?_
  refine wm_getR dX3_namesOf_21 (sM_0 ha) fk_X3_47 rfl (rM_10 ha) rfl ?_
  refine wm_getR dX3_namesOf_24 s_1 fk_X3_146 rfl r_1_1 rfl ?_
  refine wp_iload_n dX3_namesOf_27 rfl rfl ?_
  refine wm_iald dX3_namesOf_28 s_3 rfl h (fun h => ?_)
  refine wm_iast dX3_namesOf_29 (sM_8 ha) rfl h (fun m2 h => ?_)
  refine wp_aload_n dX3_namesOf_30 rfl rfl ?_
  refine wm_getR dX3_namesOf_31 (sM_0 ha) fk_X3_35 rfl (rM_11 ha) rfl ?_
  refine wp_iconst (2 : Int32) dX3_namesOf_34 ic_2 rfl ?_
  refine wp_aload_n dX3_namesOf_35 rfl rfl ?_
  refine wm_getR dX3_namesOf_36 (sM_0 ha) fk_X3_47 rfl (rM_10 ha) rfl ?_
  refine wm_getR dX3_namesOf_39 s_1 fk_X3_149 rfl r_1_5 rfl ?_
  refine wp_iload_n dX3_namesOf_42 rfl rfl ?_
  refine wm_iald dX3_namesOf_43 s_7 rfl h (fun h => ?_)
  refine wm_iast dX3_namesOf_44 (sM_8 ha) rfl h (fun m3 h => ?_)
  refine wp_aload_n dX3_namesOf_45 rfl rfl ?_
  refine wm_getR dX3_namesOf_46 (sM_0 ha) fk_X3_35 rfl (rM_11 ha) rfl ?_
  refine wp_iconst (3 : Int32) dX3_namesOf_49 ic_3 rfl ?_
  refine wp_aload_n dX3_namesOf_50 rfl rfl ?_
  refine wm_getR dX3_namesOf_51 (sM_0 ha) fk_X3_47 rfl (rM_10 ha) rfl ?_
  refine wm_getR dX3_namesOf_54 s_1 fk_X3_115 rfl r_1_10 rfl ?_
  refine wp_iload_n dX3_namesOf_57 rfl rfl ?_
  refine wm_iald dX3_namesOf_58 s_12 rfl h (fun h => ?_)
  refine wp_aload_n dX3_namesOf_59 rfl rfl ?_
  refine wm_getR dX3_namesOf_60 (sM_0 ha) fk_X3_47 rfl (rM_10 ha) rfl ?_
  refine wm_getR dX3_namesOf_63 s_1 fk_X3_121 rfl r_1_11 rfl ?_
  refine wp_iload_n dX3_namesOf_66 rfl rfl ?_
  refine wm_iald dX3_namesOf_67 s_13 rfl h (fun h => ?_)
  refine wp_iand dX3_namesOf_68 rfl ?_
  refine wp_aload_n dX3_namesOf_69 rfl rfl ?_
  refine wm_getI dX3_namesOf_70 (sM_0 ha) fk_X3_64 rfl rfl ?_
  refine wp_iconst (-1 : Int32) dX3_namesOf_73 ic_m1 rfl ?_
  refine wp_ixor dX3_namesOf_74 rfl ?_
  refine wp_iand dX3_namesOf_75 rfl ?_
  refine wm_callSI (As := [.int (((gI m3 12 (ix p1)) &&& (gI m3 13 (ix p2))) &&& ((gI m3 a 9) ^^^ (-1 : Int32)))]) (rest := [.int (3 : Int32), .ref (a + 8)]) dX3_namesOf_76 ok_X3_152 (by decide) rfl (Nat.le_of_ble_eq_true rfl) ⟨rfl, rfl⟩ rfl (fun t h => o_J6_bitCount_0f7a4 h) h (fun q4 h => ?_)
  refine wm_iast dX3_namesOf_79 (sM_8 ha) rfl h (fun m5 h => ?_)
  refine wp_aload_n dX3_namesOf_80 rfl rfl ?_
  refine wm_getR dX3_namesOf_81 (sM_0 ha) fk_X3_35 rfl (rM_11 ha) rfl ?_
  refine wp_iconst (4 : Int32) dX3_namesOf_84 ic_4 rfl ?_
  refine wp_aload_n dX3_namesOf_85 rfl rfl ?_
  refine wm_getR dX3_namesOf_86 (sM_0 ha) fk_X3_41 rfl (rM_13 ha) rfl ?_
  refine wp_iload_n dX3_namesOf_89 rfl rfl ?_
  refine wm_iald dX3_namesOf_90 (sM_10 ha) rfl h (fun h => ?_)
  refine wm_iast dX3_namesOf_91 (sM_8 ha) rfl h (fun m6 h => ?_)
  refine wp_aload_n dX3_namesOf_92 rfl rfl ?_
  refine wm_getR dX3_namesOf_93 (sM_0 ha) fk_X3_35 rfl (rM_11 ha) rfl ?_
  refine wp_iconst (5 : Int32) dX3_namesOf_96 ic_5 rfl ?_
  refine wp_aload_n dX3_namesOf_97 rfl rfl ?_
  refine wm_getR dX3_namesOf_98 (sM_0 ha) fk_X3_15 rfl (rM_1 ha) rfl ?_
  refine wp_iload_n dX3_namesOf_101 rfl rfl ?_
  refine wm_iald dX3_namesOf_102 (sM_2 ha) rfl h (fun h => ?_)
  refine wm_iast dX3_namesOf_103 (sM_8 ha) rfl h (fun m7 h => ?_)
  refine wp_aload_n dX3_namesOf_104 rfl rfl ?_
  refine wm_getR dX3_namesOf_105 (sM_0 ha) fk_X3_35 rfl (rM_11 ha) rfl ?_
  refine wp_bipush (6 : Int32) dX3_namesOf_108 ib_6 rfl ?_
  refine wp_iload_n dX3_namesOf_110 rfl rfl ?_
  refine wm_iast dX3_namesOf_111 (sM_8 ha) rfl h (fun m8 h => ?_)
  refine wp_aload_n dX3_namesOf_112 rfl rfl ?_
  refine wm_getR dX3_namesOf_113 (sM_0 ha) fk_X3_35 rfl (rM_11 ha) rfl ?_
  refine wp_bipush (7 : Int32) dX3_namesOf_116 ib_7 rfl ?_
  refine wp_iload_n dX3_namesOf_118 rfl rfl ?_
  refine wp_aload_n dX3_namesOf_119 rfl rfl ?_
  refine wm_getI dX3_namesOf_120 (sM_0 ha) fk_X3_67 rfl rfl ?_
  refine wm_icmp_ne 130 dX3_namesOf_123 rfl rfl h (fun h => ?_) (fun h => ?_)
  · refine wp_iconst (0 : Int32) dX3_namesOf_130 ic_0 rfl ?_
    refine wm_iast dX3_namesOf_131 (sM_8 ha) rfl h (fun m9 h => ?_)
    refine wp_aload_n dX3_namesOf_132 rfl rfl ?_
    refine wm_getR dX3_namesOf_133 (sM_0 ha) fk_X3_35 rfl (rM_11 ha) rfl ?_
    exact wm_kret dX3_namesOf_136 rfl ⟨rfl, rfl⟩ h hP
  · refine wp_iconst (1 : Int32) dX3_namesOf_126 ic_1 rfl ?_
    refine wp_goto 131 dX3_namesOf_127 rfl ?_
    refine wm_iast dX3_namesOf_131 (sM_8 ha) rfl h (fun m10 h => ?_)
    refine wp_aload_n dX3_namesOf_132 rfl rfl ?_
    refine wm_getR dX3_namesOf_133 (sM_0 ha) fk_X3_35 rfl (rM_11 ha) rfl ?_
    exact wm_kret dX3_namesOf_136 rfl ⟨rfl, rfl⟩ h hP
theorem o_X3_namesOf {g : Gx} {a : Nat} (ha : MA a) {p1 : Int32} {p2 : Int32} {m : Mem} {t : Mem} (h : f_X3_namesOf a p1 p2 m = some t) : MxM g 2 mi_X3_namesOf [.ref a, .int p1, .int p2] m ((qK (a + 8)) t) := mx_of pn_X3 (Nat.le_of_ble_eq_true rfl) (k_X3_namesOf_E ha h ⟨rfl, rfl, rfl, rfl, rfl⟩)
