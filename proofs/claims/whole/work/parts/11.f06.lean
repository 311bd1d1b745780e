abbrev A_X9_both_5 (g : Gx) (d0 : Nat) (Q : Qy) (s : Int32 × Mem) : Prop := WpM g (d0 + 5) mi_X9_both 5 [some (.ref 85), some (.int s.1), none] [] s.2 (zM g mi_X9_both Q)
abbrev P_X9_both_5 (g : Gx) (d0 : Nat) (Q : Qy) : ((Int32 × Mem) ⊕ (Int32 × Mem)) → Prop := pS (A_X9_both_5 g d0 Q) (pI Q)
noncomputable def f_X9_both_L5 (rc : Mem → Option (Int32 × Mem)) (s : Int32 × Mem) : Option ((Int32 × Mem) ⊕ (Int32 × Mem)) := (f_X9_takes (38 : Int32) s.2).bind (fun q2 => if q2.1 = 0 then up (some (s.1, q2.2)) else (f_X9_compared rc q2.2).bind (fun q3 => if s.1 = 0 then some (Sum.inl ((0 : Int32), q3.2)) else if q3.1 = 0 then some (Sum.inl ((0 : Int32), q3.2)) else some (Sum.inl ((1 : Int32), q3.2))))
theorem k_X9_both_L5 {g : Gx} {d0 : Nat} {rc : Mem → Option (Int32 × Mem)} (hrc : ∀ m t, rc m = some t → MxM g d0 mi_X9_one [.ref 85] m (qI t)) {Q : Qy} {s : Int32 × Mem} {t : (Int32 × Mem) ⊕ (Int32 × Mem)} (h : f_X9_both_L5 rc s = some t) (hP : P_X9_both_5 g d0 Q t) : A_X9_both_5 g d0 Q s := by
  refine wp_aload_n dX9_both_5 rfl rfl ?_
  refine wp_bipush (38 : Int32) dX9_both_6 ib_38 rfl ?_
  refine wm_callVI (As := [.int (38 : Int32)]) (rest := []) dX9_both_8 ok_X9_249 (by omega) rfl s_85 ⟨_, rfl⟩ (Nat.le_of_ble_eq_true rfl) ⟨rfl, rfl⟩ rfl (fun t h => o_X9_takes h) h (fun q2 h => ?_)
  refine wm_if_eq 36 dX9_both_11 rfl rfl h (fun h => ?_) (fun h => ?_)
  · refine wm_up h hP (fun r h hP => ?_)
    refine wp_iload_n dX9_both_36 rfl rfl ?_
    exact wm_iret dX9_both_37 rfl ⟨rfl, rfl⟩ h hP
  · refine wp_aload_n dX9_both_14 rfl rfl ?_
    refine wm_callVI (As := []) (rest := []) dX9_both_15 ok_X9_252 (by omega) rfl s_85 ⟨_, rfl⟩ (Nat.le_of_ble_eq_true rfl) ⟨rfl, rfl⟩ rfl (fun t h => o_X9_compared hrc h) h (fun q3 h => ?_)
    refine wp_istore_n (L' := [some (.ref 85), some (.int s.1), some (.int q3.1)]) dX9_both_18 (by decide) rfl rfl rfl ?_
    refine wp_iload_n dX9_both_19 rfl rfl ?_
    refine wm_if_eq 31 dX9_both_20 rfl rfl h (fun h => ?_) (fun h => ?_)
    · refine wp_iconst (0 : Int32) dX9_both_31 ic_0 rfl ?_
      refine wp_istore_n (L' := [some (.ref 85), some (.int (0 : Int32)), some (.int q3.1)]) dX9_both_32 (by decide) rfl rfl rfl ?_
      refine wp_goto 5 dX9_both_33 rfl ?_
      have hB := wm_back h hP
      exact wm_mask (L' := [some (.ref 85), some (.int (0 : Int32)), none]) [true, true, false] rfl (hB)
    · refine wp_iload_n dX9_both_23 rfl rfl ?_
      refine wm_if_eq 31 dX9_both_24 rfl rfl h (fun h => ?_) (fun h => ?_)
      · refine wp_iconst (0 : Int32) dX9_both_31 ic_0 rfl ?_
        refine wp_istore_n (L' := [some (.ref 85), some (.int (0 : Int32)), some (.int q3.1)]) dX9_both_32 (by decide) rfl rfl rfl ?_
        refine wp_goto 5 dX9_both_33 rfl ?_
        have hB := wm_back h hP
        exact wm_mask (L' := [some (.ref 85), some (.int (0 : Int32)), none]) [true, true, false] rfl (hB)
      · refine wp_iconst (1 : Int32) dX9_both_27 ic_1 rfl ?_
        refine wp_goto 32 dX9_both_28 rfl ?_
        refine wp_istore_n (L' := [some (.ref 85), some (.int (1 : Int32)), some (.int q3.1)]) dX9_both_32 (by decide) rfl rfl rfl ?_
        refine wp_goto 5 dX9_both_33 rfl ?_
        have hB := wm_back h hP
        exact wm_mask (L' := [some (.ref 85), some (.int (1 : Int32)), none]) [true, true, false] rfl (hB)
noncomputable def f_X9_both (rc : Mem → Option (Int32 × Mem))  (m : Mem) : Option (Int32 × Mem) := (f_X9_compared rc m).bind (fun q1 => wh (f_X9_both_L5 rc) (q1.1, q1.2))
theorem k_X9_both_E {g : Gx} {d0 : Nat} {rc : Mem → Option (Int32 × Mem)} (hrc : ∀ m t, rc m = some t → MxM g d0 mi_X9_one [.ref 85] m (qI t))  {Q : Qy} {m : Mem} {t : Int32 × Mem} (h : f_X9_both rc m = some t) (hP : pI Q t) : WpM g (d0 + 5) mi_X9_both 0 [some (.ref 85), none, none] [] m (zM g mi_X9_both Q) := by
  refine wp_aload_n dX9_both_0 rfl rfl ?_
  refine wm_callVI (As := []) (rest := []) dX9_both_1 ok_X9_252 (by omega) rfl s_85 ⟨_, rfl⟩ (Nat.le_of_ble_eq_true rfl) ⟨rfl, rfl⟩ rfl (fun t h => o_X9_compared hrc h) h (fun q1 h => ?_)
  refine wp_istore_n (L' := [some (.ref 85), some (.int q1.1), none]) dX9_both_4 (by decide) rfl rfl rfl ?_
  have hB := wh_ok (A := A_X9_both_5 g d0 Q) (B := pI Q) (fun s t h hP => k_X9_both_L5 hrc h hP) h hP
  exact wm_mask (L' := [some (.ref 85), some (.int q1.1), none]) [true, true, false] rfl (hB)
theorem o_X9_both {g : Gx} {d0 : Nat} {rc : Mem → Option (Int32 × Mem)} (hrc : ∀ m t, rc m = some t → MxM g d0 mi_X9_one [.ref 85] m (qI t))  {m : Mem} {t : Int32 × Mem} (h : f_X9_both rc m = some t) : MxM g (d0 + 5) mi_X9_both [.ref 85] m (qI t) := mx_of pn_X9 (Nat.le_of_ble_eq_true rfl) (k_X9_both_E hrc h ⟨rfl, rfl, rfl, rfl, rfl⟩)
noncomputable def f_X9_isThere  (p1 : Int32) (m : Mem) : Option (Int32 × Mem) := if p1 = (gI m 85 28) then bz (0 : Int32) (some ((0 : Int32), m)) else ck ((20 : Int32) + p1) 42 (if (gI m 85 29) < (gI m 86 (ix ((20 : Int32) + p1))) then bz (0 : Int32) (some ((0 : Int32), m)) else bz (1 : Int32) (some ((1 : Int32), m)))
theorem k_X9_isThere_E {g : Gx}  {p1 : Int32} {Q : Qy} {m : Mem} {t : Int32 × Mem} (h : f_X9_isThere p1 m = some t) (hP : pI Q t) : WpM g 1 mi_X9_isThere 0 [some (.ref 85), some (.int p1)] [] m (zM g mi_X9_isThere Q) := by
  refine wp_iload_n dX9_isThere_0 rfl rfl ?_
  refine wp_aload_n dX9_isThere_1 rfl rfl ?_
  refine wm_getI dX9_isThere_2 s_85 fk_X9_286 rfl rfl ?_
  refine wm_icmp_eq 28 dX9_isThere_5 rfl rfl h (fun h => ?_) (fun h => ?_)
  · refine wp_iconst (0 : Int32) dX9_isThere_28 ic_0 rfl ?_
    exact wm_zret dX9_isThere_29 rfl ⟨rfl, rfl⟩ h hP
  · refine wp_aload_n dX9_isThere_8 rfl rfl ?_
    refine wm_getR dX9_isThere_9 s_85 fk_X9_9 rfl r_85_0 rfl ?_
    refine wp_bipush (20 : Int32) dX9_isThere_12 ib_20 rfl ?_
    refine wp_iload_n dX9_isThere_14 rfl rfl ?_
    refine wp_iadd dX9_isThere_15 rfl ?_
    refine wm_iald dX9_isThere_16 s_86 rfl h (fun h => ?_)
    refine wp_aload_n dX9_isThere_17 rfl rfl ?_
    refine wm_getI dX9_isThere_18 s_85 fk_X9_289 rfl rfl ?_
    refine wm_icmp_gt 28 dX9_isThere_21 rfl rfl h (fun h => ?_) (fun h => ?_)
    · refine wp_iconst (0 : Int32) dX9_isThere_28 ic_0 rfl ?_
      exact wm_zret dX9_isThere_29 rfl ⟨rfl, rfl⟩ h hP
    · refine wp_iconst (1 : Int32) dX9_isThere_24 ic_1 rfl ?_
      refine wp_goto 29 dX9_isThere_25 rfl ?_
      exact wm_zret dX9_isThere_29 rfl ⟨rfl, rfl⟩ h hP
theorem o_X9_isThere {g : Gx}  {p1 : Int32} {m : Mem} {t : Int32 × Mem} (h : f_X9_isThere p1 m = some t) : MxM g 1 mi_X9_isThere [.ref 85, .int p1] m (qI t) := mx_of pn_X9 (Nat.le_of_ble_eq_true rfl) (k_X9_isThere_E h ⟨rfl, rfl, rfl, rfl, rfl⟩)
noncomputable def f_X9_wishes  (p1 : Int32) (m : Mem) : Option (Int32 × Mem) := (f_X9_isThere p1 m).bind (fun q1 => if q1.1 = 0 then bz (0 : Int32) (some ((0 : Int32), q1.2)) else ck p1 10 (if (gI q1.2 98 (ix p1)) ≤ 0 then bz (0 : Int32) (some ((0 : Int32), q1.2)) else bz (1 : Int32) (some ((1 : Int32), q1.2))))
theorem k_X9_wishes_E {g : Gx}  {p1 : Int32} {Q : Qy} {m : Mem} {t : Int32 × Mem} (h : f_X9_wishes p1 m = some t) (hP : pI Q t) : WpM g 2 mi_X9_wishes 0 [some (.ref 85), some (.int p1)] [] m (zM g mi_X9_wishes Q) := by
  refine wp_aload_n dX9_wishes_0 rfl rfl ?_
  refine wp_iload_n dX9_wishes_1 rfl rfl ?_
  refine wm_callVI (As := [.int p1]) (rest := []) dX9_wishes_2 ok_X9_299 (by decide) rfl s_85 ⟨_, rfl⟩ (Nat.le_of_ble_eq_true rfl) ⟨rfl, rfl⟩ rfl (fun t h => o_X9_isThere h) h (fun q1 h => ?_)
  refine wm_if_eq 21 dX9_wishes_5 rfl rfl h (fun h => ?_) (fun h => ?_)
  · refine wp_iconst (0 : Int32) dX9_wishes_21 ic_0 rfl ?_
    exact wm_zret dX9_wishes_22 rfl ⟨rfl, rfl⟩ h hP
  · refine wp_aload_n dX9_wishes_8 rfl rfl ?_
    refine wm_getR dX9_wishes_9 s_85 fk_X9_46 rfl r_85_33 rfl ?_
    refine wp_iload_n dX9_wishes_12 rfl rfl ?_
    refine wm_iald dX9_wishes_13 s_98 rfl h (fun h => ?_)
    refine wm_if_le 21 dX9_wishes_14 rfl rfl h (fun h => ?_) (fun h => ?_)
    · refine wp_iconst (0 : Int32) dX9_wishes_21 ic_0 rfl ?_
      exact wm_zret dX9_wishes_22 rfl ⟨rfl, rfl⟩ h hP
    · refine wp_iconst (1 : Int32) dX9_wishes_17 ic_1 rfl ?_
      refine wp_goto 22 dX9_wishes_18 rfl ?_
      exact wm_zret dX9_wishes_22 rfl ⟨rfl, rfl⟩ h hP
theorem o_X9_wishes {g : Gx}  {p1 : Int32} {m : Mem} {t : Int32 × Mem} (h : f_X9_wishes p1 m = some t) : MxM g 2 mi_X9_wishes [.ref 85, .int p1] m (qI t) := mx_of pn_X9 (Nat.le_of_ble_eq_true rfl) (k_X9_wishes_E h ⟨rfl, rfl, rfl, rfl, rfl⟩)
abbrev A_X9_byTurns_2 (g : Gx)  (Q : Qy) (s : Int32 × Mem) : Prop := WpM g 3 mi_X9_byTurns 2 [some (.ref 85), some (.int s.1), none] [] s.2 (zM g mi_X9_byTurns Q)
abbrev P_X9_byTurns_2 (g : Gx)  (Q : Qy) : ((Int32 × Mem) ⊕ (Int32 × Mem)) → Prop := pS (A_X9_byTurns_2 g Q) (pI Q)
noncomputable def f_X9_byTurns_L2  (s : Int32 × Mem) : Option ((Int32 × Mem) ⊕ (Int32 × Mem)) := if (gI s.2 85 6) < s.1 then up (some ((-1 : Int32), s.2)) else dv (gI s.2 85 6) (bnd (((gI s.2 85 31) + s.1) - ((gI s.2 85 31) + s.1) / (gI s.2 85 6) * (gI s.2 85 6)) (fun y1 => (f_X9_wishes y1 s.2).bind (fun q2 => if q2.1 = 0 then bnd (s.1 + (1 : Int32)) (fun y3 => some (Sum.inl (y3, q2.2))) else up (some (y1, q2.2)))))
theorem k_X9_byTurns_L2 {g : Gx}  {Q : Qy} {s : Int32 × Mem} {t : (Int32 × Mem) ⊕ (Int32 × Mem)} (h : f_X9_byTurns_L2 s = some t) (hP : P_X9_byTurns_2 g Q t) : A_X9_byTurns_2 g Q s := by
  refine wp_iload_n dX9_byTurns_2 rfl rfl ?_
  refine wp_aload_n dX9_byTurns_3 rfl rfl ?_
  refine wm_getI dX9_byTurns_4 s_85 fk_X9_159 rfl rfl ?_
  refine wm_icmp_gt 38 dX9_byTurns_7 rfl rfl h (fun h => ?_) (fun h => ?_)
  · refine wm_up h hP (fun r h hP => ?_)
    refine wp_iconst (-1 : Int32) dX9_byTurns_38 ic_m1 rfl ?_
    exact wm_iret dX9_byTurns_39 rfl ⟨rfl, rfl⟩ h hP
  · refine wp_aload_n dX9_byTurns_10 rfl rfl ?_
    refine wm_getI dX9_byTurns_11 s_85 fk_X9_305 rfl rfl ?_
    refine wp_iload_n dX9_byTurns_14 rfl rfl ?_
    refine wp_iadd dX9_byTurns_15 rfl ?_
    refine wp_aload_n dX9_byTurns_16 rfl rfl ?_
    refine wm_getI dX9_byTurns_17 s_85 fk_X9_159 rfl rfl ?_
    refine wm_irem dX9_byTurns_20 rfl h (fun h => ?_)
    refine wm_nm h (fun y1 h => ?_)
    refine wp_istore_n (L' := [some (.ref 85), some (.int s.1), some (.int y1)]) dX9_byTurns_21 (by decide) rfl rfl rfl ?_
    refine wp_aload_n dX9_byTurns_22 rfl rfl ?_
    refine wp_iload_n dX9_byTurns_23 rfl rfl ?_
    refine wm_callVI (As := [.int y1]) (rest := []) dX9_byTurns_24 ok_X9_302 (by decide) rfl s_85 ⟨_, rfl⟩ (Nat.le_of_ble_eq_true rfl) ⟨rfl, rfl⟩ rfl (fun t h => o_X9_wishes h) h (fun q2 h => ?_)
    refine wm_if_eq 32 dX9_byTurns_27 rfl rfl h (fun h => ?_) (fun h => ?_)
    · refine wm_inc dX9_byTurns_32 rfl ii_1 (by decide) rfl rfl h (fun y3 h => ?_)
      refine wm_list (L' := [some (.ref 85), some (.int y3), some (.int y1)]) rfl ?_
      refine wp_goto 2 dX9_byTurns_35 rfl ?_
      have hB := wm_back h hP
      exact wm_mask (L' := [some (.ref 85), some (.int y3), none]) [true, true, false] rfl (hB)
    · refine wm_up h hP (fun r h hP => ?_)
      refine wp_iload_n dX9_byTurns_30 rfl rfl ?_
      exact wm_iret dX9_byTurns_31 rfl ⟨rfl, rfl⟩ h hP
noncomputable def f_X9_byTurns   (m : Mem) : Option (Int32 × Mem) := wh (f_X9_byTurns_L2) ((1 : Int32), m)
theorem k_X9_byTurns_E {g : Gx}   {Q : Qy} {m : Mem} {t : Int32 × Mem} (h : f_X9_byTurns m = some t) (hP : pI Q t) : WpM g 3 mi_X9_byTurns 0 [some (.ref 85), none, none] [] m (zM g mi_X9_byTurns Q) := by
  refine wp_iconst (1 : Int32) dX9_byTurns_0 ic_1 rfl ?_
  refine wp_istore_n (L' := [some (.ref 85), some (.int (1 : Int32)), none]) dX9_byTurns_1 (by decide) rfl rfl rfl ?_
  have hB := wh_ok (A := A_X9_byTurns_2 g Q) (B := pI Q) (fun s t h hP => k_X9_byTurns_L2  h hP) h hP
  exact wm_mask (L' := [some (.ref 85), some (.int (1 : Int32)), none]) [true, true, false] rfl (hB)
theorem o_X9_byTurns {g : Gx}   {m : Mem} {t : Int32 × Mem} (h : f_X9_byTurns m = some t) : MxM g 3 mi_X9_byTurns [.ref 85] m (qI t) := mx_of pn_X9 (Nat.le_of_ble_eq_true rfl) (k_X9_byTurns_E h ⟨rfl, rfl, rfl, rfl, rfl⟩)
noncomputable def f_X9_isOne  (p1 : Int64) (p2 : Int64) (p3 : Int64) (m : Mem) : Option (Int32 × Mem) := (f_X9_within p1 (0 : Int64) ((gI m 85 8) - (1 : Int32)).toInt64 m).bind (fun q1 => if q1.1 = 0 then bz (0 : Int32) (some ((0 : Int32), q1.2)) else (f_X9_within p2 (-9 : Int64) (9 : Int64) q1.2).bind (fun q2 => if q2.1 = 0 then bz (0 : Int32) (some ((0 : Int32), q2.2)) else (f_X9_within p3 (0 : Int64) (1023 : Int64) q2.2).bind (fun q3 => if q3.1 = 0 then bz (0 : Int32) (some ((0 : Int32), q3.2)) else bz (1 : Int32) (some ((1 : Int32), q3.2)))))
theorem k_X9_isOne_E {g : Gx}  {p1 : Int64} {p2 : Int64} {p3 : Int64} {Q : Qy} {m : Mem} {t : Int32 × Mem} (h : f_X9_isOne p1 p2 p3 m = some t) (hP : pI Q t) : WpM g 2 mi_X9_isOne 0 [some (.ref 85), some (.long p1), none, some (.long p2), none, some (.long p3), none] [] m (zM g mi_X9_isOne Q) := by
  refine wp_lload_n dX9_isOne_0 rfl rfl ?_
  refine wp_lconst (0 : Int64) dX9_isOne_1 rfl rfl ?_
  refine wp_aload_n dX9_isOne_2 rfl rfl ?_
  refine wm_getI dX9_isOne_3 s_85 fk_X9_166 rfl rfl ?_
  refine wp_iconst (1 : Int32) dX9_isOne_6 ic_1 rfl ?_
  refine wp_isub dX9_isOne_7 rfl ?_
  refine wp_i2l dX9_isOne_8 rfl ?_
  refine wm_callSI (As := [.long p1, .long (0 : Int64), .long ((gI m 85 8) - (1 : Int32)).toInt64]) (rest := []) dX9_isOne_9 ok_X9_162 (by decide) rfl (Nat.le_of_ble_eq_true rfl) ⟨rfl, rfl⟩ rfl (fun t h => o_X9_within h) h (fun q1 h => ?_)
  refine wm_if_eq 44 dX9_isOne_12 rfl rfl h (fun h => ?_) (fun h => ?_)
  · refine wp_iconst (0 : Int32) dX9_isOne_44 ic_0 rfl ?_
    exact wm_zret dX9_isOne_45 rfl ⟨rfl, rfl⟩ h hP
  · refine wp_lload_n dX9_isOne_15 rfl rfl ?_
    refine wp_ldc2 dX9_isOne_16 q1417 rfl ?_
    refine wp_ldc2 dX9_isOne_19 q1408 rfl ?_
    refine wm_callSI (As := [.long p2, .long (-9 : Int64), .long (9 : Int64)]) (rest := []) dX9_isOne_22 ok_X9_162 (by decide) rfl (Nat.le_of_ble_eq_true rfl) ⟨rfl, rfl⟩ rfl (fun t h => o_X9_within h) h (fun q2 h => ?_)
    refine wm_if_eq 44 dX9_isOne_25 rfl rfl h (fun h => ?_) (fun h => ?_)
    · refine wp_iconst (0 : Int32) dX9_isOne_44 ic_0 rfl ?_
      exact wm_zret dX9_isOne_45 rfl ⟨rfl, rfl⟩ h hP
    · refine wp_lload dX9_isOne_28 rfl rfl ?_
      refine wp_lconst (0 : Int64) dX9_isOne_30 rfl rfl ?_
      refine wp_ldc2 dX9_isOne_31 q1418 rfl ?_
      refine wm_callSI (As := [.long p3, .long (0 : Int64), .long (1023 : Int64)]) (rest := []) dX9_isOne_34 ok_X9_162 (by decide) rfl (Nat.le_of_ble_eq_true rfl) ⟨rfl, rfl⟩ rfl (fun t h => o_X9_within h) h (fun q3 h => ?_)
      refine wm_if_eq 44 dX9_isOne_37 rfl rfl h (fun h => ?_) (fun h => ?_)
      · refine wp_iconst (0 : Int32) dX9_isOne_44 ic_0 rfl ?_
        exact wm_zret dX9_isOne_45 rfl ⟨rfl, rfl⟩ h hP
      · refine wp_iconst (1 : Int32) dX9_isOne_40 ic_1 rfl ?_
        refine wp_goto 45 dX9_isOne_41 rfl ?_
        exact wm_zret dX9_isOne_45 rfl ⟨rfl, rfl⟩ h hP
theorem o_X9_isOne {g : Gx}  {p1 : Int64} {p2 : Int64} {p3 : Int64} {m : Mem} {t : Int32 × Mem} (h : f_X9_isOne p1 p2 p3 m = some t) : MxM g 2 mi_X9_isOne [.ref 85, .long p1, .long p2, .long p3] m (qI t) := mx_of pn_X9 (Nat.le_of_ble_eq_true rfl) (k_X9_isOne_E h ⟨rfl, rfl, rfl, rfl, rfl⟩)
noncomputable def f_X9_card  (p1 : Int32) (p2 : Int32) (p3 : Int32) (m : Mem) : Option (Int32 × Mem) := (f_X9_isOne p1.toInt64 p2.toInt64 p3.toInt64 m).bind (fun q1 => if ¬ q1.1 = 0 then if ¬ (gI q1.2 85 9) = (20 : Int32) then (f_X9_adds p1 p2 p3 q1.2).bind (fun q2 => some (((gI q2 85 9) - (1 : Int32)), q2)) else some ((-3 : Int32), q1.2) else some ((-1 : Int32), q1.2))
theorem k_X9_card_E {g : Gx}  {p1 : Int32} {p2 : Int32} {p3 : Int32} {Q : Qy} {m : Mem} {t : Int32 × Mem} (h : f_X9_card p1 p2 p3 m = some t) (hP : pI Q t) : WpM g 3 mi_X9_card 0 [some (.ref 85), some (.int p1), some (.int p2), some (.int p3)] [] m (zM g mi_X9_card Q) := by
  refine wp_aload_n dX9_card_0 rfl rfl ?_
  refine wp_iload_n dX9_card_1 rfl rfl ?_
  refine wp_i2l dX9_card_2 rfl ?_
  refine wp_iload_n dX9_card_3 rfl rfl ?_
  refine wp_i2l dX9_card_4 rfl ?_
  refine wp_iload_n dX9_card_5 rfl rfl ?_
  refine wp_i2l dX9_card_6 rfl ?_
  refine wm_callVI (As := [.long p1.toInt64, .long p2.toInt64, .long p3.toInt64]) (rest := []) dX9_card_7 ok_X9_191 (by decide) rfl s_85 ⟨_, rfl⟩ (Nat.le_of_ble_eq_true rfl) ⟨rfl, rfl⟩ rfl (fun t h => o_X9_isOne h) h (fun q1 h => ?_)
  refine wm_if_ne 15 dX9_card_10 rfl rfl h (fun h => ?_) (fun h => ?_)
  · refine wp_aload_n dX9_card_15 rfl rfl ?_
    refine wm_getI dX9_card_16 s_85 fk_X9_169 rfl rfl ?_
    refine wp_bipush (20 : Int32) dX9_card_19 ib_20 rfl ?_
    refine wm_icmp_ne 27 dX9_card_21 rfl rfl h (fun h => ?_) (fun h => ?_)
    · refine wp_aload_n dX9_card_27 rfl rfl ?_
      refine wp_iload_n dX9_card_28 rfl rfl ?_
      refine wp_iload_n dX9_card_29 rfl rfl ?_
      refine wp_iload_n dX9_card_30 rfl rfl ?_
      refine wm_callVN (As := [.int p1, .int p2, .int p3]) (rest := []) dX9_card_31 ok_X9_194 (by decide) rfl s_85 ⟨_, rfl⟩ (Nat.le_of_ble_eq_true rfl) ⟨rfl, rfl⟩ rfl (fun t h => o_X9_adds h) h (fun q2 h => ?_)
      refine wp_aload_n dX9_card_34 rfl rfl ?_
      refine wm_getI dX9_card_35 s_85 fk_X9_169 rfl rfl ?_
      refine wp_iconst (1 : Int32) dX9_card_38 ic_1 rfl ?_
      refine wp_isub dX9_card_39 rfl ?_
      exact wm_iret dX9_card_40 rfl ⟨rfl, rfl⟩ h hP
    · refine wp_bipush (-3 : Int32) dX9_card_24 ib_m3 rfl ?_
      exact wm_iret dX9_card_26 rfl ⟨rfl, rfl⟩ h hP
  · refine wp_iconst (-1 : Int32) dX9_card_13 ic_m1 rfl ?_
    exact wm_iret dX9_card_14 rfl ⟨rfl, rfl⟩ h hP
theorem o_X9_card {g : Gx}  {p1 : Int32} {p2 : Int32} {p3 : Int32} {m : Mem} {t : Int32 × Mem} (h : f_X9_card p1 p2 p3 m = some t) : MxM g 3 mi_X9_card [.ref 85, .int p1, .int p2, .int p3] m (qI t) := mx_of pn_X9 (Nat.le_of_ble_eq_true rfl) (k_X9_card_E h ⟨rfl, rfl, rfl, rfl, rfl⟩)
noncomputable def f_X9_isShelf  (p1 : Int32) (m : Mem) : Option (Int32 × Mem) := (f_X9_within p1.toInt64 (0 : Int64) (5 : Int64) m).bind (fun q1 => bz q1.1 (some (q1.1, q1.2)))
theorem k_X9_isShelf_E {g : Gx}  {p1 : Int32} {Q : Qy} {m : Mem} {t : Int32 × Mem} (h : f_X9_isShelf p1 m = some t) (hP : pI Q t) : WpM g 2 mi_X9_isShelf 0 [some (.int p1)] [] m (zM g mi_X9_isShelf Q) := by
  refine wp_iload_n dX9_isShelf_0 rfl rfl ?_
  refine wp_i2l dX9_isShelf_1 rfl ?_
  refine wp_lconst (0 : Int64) dX9_isShelf_2 rfl rfl ?_
  refine wp_ldc2 dX9_isShelf_3 q1430 rfl ?_
  refine wm_callSI (As := [.long p1.toInt64, .long (0 : Int64), .long (5 : Int64)]) (rest := []) dX9_isShelf_6 ok_X9_162 (by decide) rfl (Nat.le_of_ble_eq_true rfl) ⟨rfl, rfl⟩ rfl (fun t h => o_X9_within h) h (fun q1 h => ?_)
  exact wm_zret dX9_isShelf_9 rfl ⟨rfl, rfl⟩ h hP
theorem o_X9_isShelf {g : Gx}  {p1 : Int32} {m : Mem} {t : Int32 × Mem} (h : f_X9_isShelf p1 m = some t) : MxM g 2 mi_X9_isShelf [.int p1] m (qI t) := mx_of pn_X9 (Nat.le_of_ble_eq_true rfl) (k_X9_isShelf_E h ⟨rfl, rfl, rfl, rfl, rfl⟩)
abbrev A_X9_cards_69 (g : Gx)  (Q : Qy) (s : Int32 × Int32 × Int32 × Int32 × Int32 × Mem) : Prop := WpM g 3 mi_X9_cards 69 [some (.ref 85), some (.int s.1), some (.int s.2.1), some (.int s.2.2.1), some (.int s.2.2.2.1), some (.int s.2.2.2.2.1), none] [] s.2.2.2.2.2 (zM g mi_X9_cards Q)
abbrev P_X9_cards_69 (g : Gx)  (Q : Qy) : ((Int32 × Int32 × Int32 × Int32 × Int32 × Mem) ⊕ (Int32 × Mem)) → Prop := pS (A_X9_cards_69 g Q) (pI Q)
noncomputable def f_X9_cards_J168  (v1 : Int32) (v2 : Int32) (v3 : Int32) (v4 : Int32) (v6 : Int32) (t0 : Int32) (m : Mem) : Option ((Int32 × Int32 × Int32 × Int32 × Int32 × Mem) ⊕ (Int32 × Mem)) := if t0 = 0 then some (Sum.inl (v1, v2, v3, v4, t0, m)) else ck v6 360 (ck (v6 + (1 : Int32)) 360 (ck (v6 + (2 : Int32)) 360 ((f_X9_adds (gJ m 128 (ix v6)).toInt32 (gJ m 128 (ix (v6 + (1 : Int32)))).toInt32 (gJ m 128 (ix (v6 + (2 : Int32)))).toInt32 m).bind (fun q4 => bnd (v4 + (1 : Int32)) (fun y5 => some (Sum.inl (v1, v2, v3, y5, t0, q4)))))))
theorem k_X9_cards_J168 {g : Gx}  {v1 : Int32} {v2 : Int32} {v3 : Int32} {v4 : Int32} {v6 : Int32} {t0 : Int32}  {Q : Qy} {m : Mem} {t : (Int32 × Int32 × Int32 × Int32 × Int32 × Mem) ⊕ (Int32 × Mem)} (h : f_X9_cards_J168 v1 v2 v3 v4 v6 t0 m = some t) (hP : P_X9_cards_69 g Q t) : WpM g 3 mi_X9_cards 168 [some (.ref 85), some (.int v1), some (.int v2), some (.int v3), some (.int v4), none, some (.int v6)] [.int t0] m (zM g mi_X9_cards Q) := by
  refine wp_istore (L' := [some (.ref 85), some (.int v1), some (.int v2), some (.int v3), some (.int v4), some (.int t0), some (.int v6)]) dX9_cards_168 (by decide) rfl rfl rfl ?_
  refine wp_iload dX9_cards_170 rfl rfl ?_
  refine wm_if_eq 210 dX9_cards_172 rfl rfl h (fun h => ?_) (fun h => ?_)
  · refine wp_goto 69 dX9_cards_210 rfl ?_
    have hB := wm_back h hP
    exact wm_mask (L' := [some (.ref 85), some (.int v1), some (.int v2), some (.int v3), some (.int v4), some (.int t0), none]) [true, true, true, true, true, true, false] rfl (hB)
  · refine wp_aload_n dX9_cards_175 rfl rfl ?_
    refine wp_aload_n dX9_cards_176 rfl rfl ?_
    refine wm_getR dX9_cards_177 s_85 fk_X9_136 rfl r_85_74 rfl ?_
    refine wp_iload dX9_cards_180 rfl rfl ?_
    refine wm_lald dX9_cards_182 s_128 rfl h (fun h => ?_)
    refine wp_l2i dX9_cards_183 rfl ?_
    refine wp_aload_n dX9_cards_184 rfl rfl ?_
    refine wm_getR dX9_cards_185 s_85 fk_X9_136 rfl r_85_74 rfl ?_
    refine wp_iload dX9_cards_188 rfl rfl ?_
    refine wp_iconst (1 : Int32) dX9_cards_190 ic_1 rfl ?_
    refine wp_iadd dX9_cards_191 rfl ?_
    refine wm_lald dX9_cards_192 s_128 rfl h (fun h => ?_)
    refine wp_l2i dX9_cards_193 rfl ?_
    refine wp_aload_n dX9_cards_194 rfl rfl ?_
    refine wm_getR dX9_cards_195 s_85 fk_X9_136 rfl r_85_74 rfl ?_
    refine wp_iload dX9_cards_198 rfl rfl ?_
    refine wp_iconst (2 : Int32) dX9_cards_200 ic_2 rfl ?_
    refine wp_iadd dX9_cards_201 rfl ?_
    refine wm_lald dX9_cards_202 s_128 rfl h (fun h => ?_)
    refine wp_l2i dX9_cards_203 rfl ?_
    refine wm_callVN (As := [.int (gJ m 128 (ix v6)).toInt32, .int (gJ m 128 (ix (v6 + (1 : Int32)))).toInt32, .int (gJ m 128 (ix (v6 + (2 : Int32)))).toInt32]) (rest := []) dX9_cards_204 ok_X9_194 (by decide) rfl s_85 ⟨_, rfl⟩ (Nat.le_of_ble_eq_true rfl) ⟨rfl, rfl⟩ rfl (fun t h => o_X9_adds h) h (fun q4 h => ?_)
    refine wm_inc dX9_cards_207 rfl ii_1 (by decide) rfl rfl h (fun y5 h => ?_)
    refine wm_list (L' := [some (.ref 85), some (.int v1), some (.int v2), some (.int v3), some (.int y5), some (.int t0), some (.int v6)]) rfl ?_
    refine wp_goto 69 dX9_cards_210 rfl ?_
    have hB := wm_back h hP
    exact wm_mask (L' := [some (.ref 85), some (.int v1), some (.int v2), some (.int v3), some (.int y5), some (.int t0), none]) [true, true, true, true, true, true, false] rfl (hB)
noncomputable def f_X9_cards_J167  (v1 : Int32) (v2 : Int32) (v3 : Int32) (v4 : Int32) (v6 : Int32) (m : Mem) : Option ((Int32 × Int32 × Int32 × Int32 × Int32 × Mem) ⊕ (Int32 × Mem)) := f_X9_cards_J168 v1 v2 v3 v4 v6 (0 : Int32) m
theorem k_X9_cards_J167 {g : Gx}  {v1 : Int32} {v2 : Int32} {v3 : Int32} {v4 : Int32} {v6 : Int32}  {Q : Qy} {m : Mem} {t : (Int32 × Int32 × Int32 × Int32 × Int32 × Mem) ⊕ (Int32 × Mem)} (h : f_X9_cards_J167 v1 v2 v3 v4 v6 m = some t) (hP : P_X9_cards_69 g Q t) : WpM g 3 mi_X9_cards 167 [some (.ref 85), some (.int v1), some (.int v2), some (.int v3), some (.int v4), none, some (.int v6)] [] m (zM g mi_X9_cards Q) := by
  refine wp_iconst (0 : Int32) dX9_cards_167 ic_0 rfl ?_
  exact wm_mask (L' := [some (.ref 85), some (.int v1), some (.int v2), some (.int v3), some (.int v4), none, some (.int v6)]) [true, true, true, true, true, false, true] rfl (k_X9_cards_J168  h hP)
noncomputable def f_X9_cards_J111  (v1 : Int32) (v2 : Int32) (v3 : Int32) (v4 : Int32) (t0 : Int32) (m : Mem) : Option ((Int32 × Int32 × Int32 × Int32 × Int32 × Mem) ⊕ (Int32 × Mem)) := bnd ((((60 : Int32) * v1) + v2) + ((3 : Int32) * v4)) (fun y3 => if t0 = 0 then f_X9_cards_J167 v1 v2 v3 v4 y3 m else ck y3 360 (ck (y3 + (1 : Int32)) 360 (ck (y3 + (2 : Int32)) 360 ((f_X9_isOne (gJ m 128 (ix y3)) (gJ m 128 (ix (y3 + (1 : Int32)))) (gJ m 128 (ix (y3 + (2 : Int32)))) m).bind (fun q6 => if q6.1 = 0 then f_X9_cards_J167 v1 v2 v3 v4 y3 q6.2 else f_X9_cards_J168 v1 v2 v3 v4 y3 (1 : Int32) q6.2)))))
theorem k_X9_cards_J111 {g : Gx}  {v1 : Int32} {v2 : Int32} {v3 : Int32} {v4 : Int32} {t0 : Int32}  {Q : Qy} {m : Mem} {t : (Int32 × Int32 × Int32 × Int32 × Int32 × Mem) ⊕ (Int32 × Mem)} (h : f_X9_cards_J111 v1 v2 v3 v4 t0 m = some t) (hP : P_X9_cards_69 g Q t) : WpM g 3 mi_X9_cards 111 [some (.ref 85), some (.int v1), some (.int v2), some (.int v3), some (.int v4), none, none] [.int t0] m (zM g mi_X9_cards Q) := by
  refine wp_istore (L' := [some (.ref 85), some (.int v1), some (.int v2), some (.int v3), some (.int v4), some (.int t0), none]) dX9_cards_111 (by decide) rfl rfl rfl ?_
  refine wp_bipush (60 : Int32) dX9_cards_113 ib_60 rfl ?_
  refine wp_iload_n dX9_cards_115 rfl rfl ?_
  refine wp_imul dX9_cards_116 rfl ?_
  refine wp_iload_n dX9_cards_117 rfl rfl ?_
  refine wp_iadd dX9_cards_118 rfl ?_
  refine wp_iconst (3 : Int32) dX9_cards_119 ic_3 rfl ?_
  refine wp_iload dX9_cards_120 rfl rfl ?_
  refine wp_imul dX9_cards_122 rfl ?_
  refine wp_iadd dX9_cards_123 rfl ?_
  refine wm_nm h (fun y3 h => ?_)
  refine wp_istore (L' := [some (.ref 85), some (.int v1), some (.int v2), some (.int v3), some (.int v4), some (.int t0), some (.int y3)]) dX9_cards_124 (by decide) rfl rfl rfl ?_
  refine wp_iload dX9_cards_126 rfl rfl ?_
  refine wm_if_eq 167 dX9_cards_128 rfl rfl h (fun h => ?_) (fun h => ?_)
  · exact wm_mask (L' := [some (.ref 85), some (.int v1), some (.int v2), some (.int v3), some (.int v4), none, some (.int y3)]) [true, true, true, true, true, false, true] rfl (k_X9_cards_J167  h hP)
  · refine wp_aload_n dX9_cards_131 rfl rfl ?_
    refine wp_aload_n dX9_cards_132 rfl rfl ?_
    refine wm_getR dX9_cards_133 s_85 fk_X9_136 rfl r_85_74 rfl ?_
    refine wp_iload dX9_cards_136 rfl rfl ?_
    refine wm_lald dX9_cards_138 s_128 rfl h (fun h => ?_)
    refine wp_aload_n dX9_cards_139 rfl rfl ?_
    refine wm_getR dX9_cards_140 s_85 fk_X9_136 rfl r_85_74 rfl ?_
    refine wp_iload dX9_cards_143 rfl rfl ?_
    refine wp_iconst (1 : Int32) dX9_cards_145 ic_1 rfl ?_
    refine wp_iadd dX9_cards_146 rfl ?_
    refine wm_lald dX9_cards_147 s_128 rfl h (fun h => ?_)
    refine wp_aload_n dX9_cards_148 rfl rfl ?_
    refine wm_getR dX9_cards_149 s_85 fk_X9_136 rfl r_85_74 rfl ?_
    refine wp_iload dX9_cards_152 rfl rfl ?_
    refine wp_iconst (2 : Int32) dX9_cards_154 ic_2 rfl ?_
    refine wp_iadd dX9_cards_155 rfl ?_
    refine wm_lald dX9_cards_156 s_128 rfl h (fun h => ?_)
    refine wm_callVI (As := [.long (gJ m 128 (ix y3)), .long (gJ m 128 (ix (y3 + (1 : Int32)))), .long (gJ m 128 (ix (y3 + (2 : Int32))))]) (rest := []) dX9_cards_157 ok_X9_191 (by decide) rfl s_85 ⟨_, rfl⟩ (Nat.le_of_ble_eq_true rfl) ⟨rfl, rfl⟩ rfl (fun t h => o_X9_isOne h) h (fun q6 h => ?_)
    refine wm_if_eq 167 dX9_cards_160 rfl rfl h (fun h => ?_) (fun h => ?_)
    · exact wm_mask (L' := [some (.ref 85), some (.int v1), some (.int v2), some (.int v3), some (.int v4), none, some (.int y3)]) [true, true, true, true, true, false, true] rfl (k_X9_cards_J167  h hP)
    · refine wp_iconst (1 : Int32) dX9_cards_163 ic_1 rfl ?_
      refine wp_goto 168 dX9_cards_164 rfl ?_
      exact wm_mask (L' := [some (.ref 85), some (.int v1), some (.int v2), some (.int v3), some (.int v4), none, some (.int y3)]) [true, true, true, true, true, false, true] rfl (k_X9_cards_J168  h hP)
noncomputable def f_X9_cards_J110  (v1 : Int32) (v2 : Int32) (v3 : Int32) (v4 : Int32) (m : Mem) : Option ((Int32 × Int32 × Int32 × Int32 × Int32 × Mem) ⊕ (Int32 × Mem)) := f_X9_cards_J111 v1 v2 v3 v4 (0 : Int32) m
theorem k_X9_cards_J110 {g : Gx}  {v1 : Int32} {v2 : Int32} {v3 : Int32} {v4 : Int32}  {Q : Qy} {m : Mem} {t : (Int32 × Int32 × Int32 × Int32 × Int32 × Mem) ⊕ (Int32 × Mem)} (h : f_X9_cards_J110 v1 v2 v3 v4 m = some t) (hP : P_X9_cards_69 g Q t) : WpM g 3 mi_X9_cards 110 [some (.ref 85), some (.int v1), some (.int v2), some (.int v3), some (.int v4), none, none] [] m (zM g mi_X9_cards Q) := by
  refine wp_iconst (0 : Int32) dX9_cards_110 ic_0 rfl ?_
  exact wm_mask (L' := [some (.ref 85), some (.int v1), some (.int v2), some (.int v3), some (.int v4), none, none]) [true, true, true, true, true, false, false] rfl (k_X9_cards_J111  h hP)
noncomputable def f_X9_cards_L69  (s : Int32 × Int32 × Int32 × Int32 × Int32 × Mem) : Option ((Int32 × Int32 × Int32 × Int32 × Int32 × Mem) ⊕ (Int32 × Mem)) := if s.2.2.2.2.1 = 0 then up (some (s.2.2.2.1, s.2.2.2.2.2)) else if s.2.2.1 ≤ s.2.2.2.1 then up (some (s.2.2.2.1, s.2.2.2.2.2)) else ck s.1 6 (if (((gI s.2.2.2.2.2 127 (ix s.1)) - (3 : Int32)) - ((3 : Int32) * s.2.2.2.1)) < s.2.1 then f_X9_cards_J110 s.1 s.2.1 s.2.2.1 s.2.2.2.1 s.2.2.2.2.2 else if (20 : Int32) ≤ (gI s.2.2.2.2.2 85 9) then f_X9_cards_J110 s.1 s.2.1 s.2.2.1 s.2.2.2.1 s.2.2.2.2.2 else f_X9_cards_J111 s.1 s.2.1 s.2.2.1 s.2.2.2.1 (1 : Int32) s.2.2.2.2.2)
theorem k_X9_cards_L69 {g : Gx}  {Q : Qy} {s : Int32 × Int32 × Int32 × Int32 × Int32 × Mem} {t : (Int32 × Int32 × Int32 × Int32 × Int32 × Mem) ⊕ (Int32 × Mem)} (h : f_X9_cards_L69 s = some t) (hP : P_X9_cards_69 g Q t) : A_X9_cards_69 g Q s := by
  refine wp_iload dX9_cards_69 rfl rfl ?_
  refine wm_if_eq 213 dX9_cards_71 rfl rfl h (fun h => ?_) (fun h => ?_)
  · refine wm_up h hP (fun r h hP => ?_)
    refine wp_iload dX9_cards_213 rfl rfl ?_
    exact wm_iret dX9_cards_215 rfl ⟨rfl, rfl⟩ h hP
  · refine wp_iload dX9_cards_74 rfl rfl ?_
    refine wp_iload_n dX9_cards_76 rfl rfl ?_
    refine wm_icmp_ge 213 dX9_cards_77 rfl rfl h (fun h => ?_) (fun h => ?_)
    · refine wm_up h hP (fun r h hP => ?_)
      refine wp_iload dX9_cards_213 rfl rfl ?_
      exact wm_iret dX9_cards_215 rfl ⟨rfl, rfl⟩ h hP
    · refine wp_iload_n dX9_cards_80 rfl rfl ?_
      refine wp_aload_n dX9_cards_81 rfl rfl ?_
      refine wm_getR dX9_cards_82 s_85 fk_X9_133 rfl r_85_73 rfl ?_
      refine wp_iload_n dX9_cards_85 rfl rfl ?_
      refine wm_iald dX9_cards_86 s_127 rfl h (fun h => ?_)
      refine wp_iconst (3 : Int32) dX9_cards_87 ic_3 rfl ?_
      refine wp_isub dX9_cards_88 rfl ?_
      refine wp_iconst (3 : Int32) dX9_cards_89 ic_3 rfl ?_
      refine wp_iload dX9_cards_90 rfl rfl ?_
      refine wp_imul dX9_cards_92 rfl ?_
      refine wp_isub dX9_cards_93 rfl ?_
      refine wm_icmp_gt 110 dX9_cards_94 rfl rfl h (fun h => ?_) (fun h => ?_)
      · exact wm_mask (L' := [some (.ref 85), some (.int s.1), some (.int s.2.1), some (.int s.2.2.1), some (.int s.2.2.2.1), none, none]) [true, true, true, true, true, false, false] rfl (k_X9_cards_J110  h hP)
      · refine wp_aload_n dX9_cards_97 rfl rfl ?_
        refine wm_getI dX9_cards_98 s_85 fk_X9_169 rfl rfl ?_
        refine wp_bipush (20 : Int32) dX9_cards_101 ib_20 rfl ?_
        refine wm_icmp_ge 110 dX9_cards_103 rfl rfl h (fun h => ?_) (fun h => ?_)
        · exact wm_mask (L' := [some (.ref 85), some (.int s.1), some (.int s.2.1), some (.int s.2.2.1), some (.int s.2.2.2.1), none, none]) [true, true, true, true, true, false, false] rfl (k_X9_cards_J110  h hP)
        · refine wp_iconst (1 : Int32) dX9_cards_106 ic_1 rfl ?_
          refine wp_goto 111 dX9_cards_107 rfl ?_
          exact wm_mask (L' := [some (.ref 85), some (.int s.1), some (.int s.2.1), some (.int s.2.2.1), some (.int s.2.2.2.1), none, none]) [true, true, true, true, true, false, false] rfl (k_X9_cards_J111  h hP)
noncomputable def f_X9_cards_J44  (v1 : Int32) (v2 : Int32) (v3 : Int32) (m : Mem) : Option (Int32 × Mem) := ck v1 6 (if ¬ (gI m 126 (ix v1)) = (51 : Int32) then wh (f_X9_cards_L69) (v1, v2, v3, (0 : Int32), (0 : Int32), m) else if v2 < 0 then wh (f_X9_cards_L69) (v1, v2, v3, (0 : Int32), (0 : Int32), m) else wh (f_X9_cards_L69) (v1, v2, v3, (0 : Int32), (1 : Int32), m))
theorem k_X9_cards_J44 {g : Gx}  {v1 : Int32} {v2 : Int32} {v3 : Int32}  {Q : Qy} {m : Mem} {t : Int32 × Mem} (h : f_X9_cards_J44 v1 v2 v3 m = some t) (hP : pI Q t) : WpM g 3 mi_X9_cards 44 [some (.ref 85), some (.int v1), some (.int v2), some (.int v3), none, none, none] [] m (zM g mi_X9_cards Q) := by
  refine wp_iconst (0 : Int32) dX9_cards_44 ic_0 rfl ?_
  refine wp_istore (L' := [some (.ref 85), some (.int v1), some (.int v2), some (.int v3), some (.int (0 : Int32)), none, none]) dX9_cards_45 (by decide) rfl rfl rfl ?_
  refine wp_aload_n dX9_cards_47 rfl rfl ?_
  refine wm_getR dX9_cards_48 s_85 fk_X9_130 rfl r_85_72 rfl ?_
  refine wp_iload_n dX9_cards_51 rfl rfl ?_
  refine wm_iald dX9_cards_52 s_126 rfl h (fun h => ?_)
  refine wp_bipush (51 : Int32) dX9_cards_53 ib_51 rfl ?_
  refine wm_icmp_ne 66 dX9_cards_55 rfl rfl h (fun h => ?_) (fun h => ?_)
  · refine wp_iconst (0 : Int32) dX9_cards_66 ic_0 rfl ?_
    refine wp_istore (L' := [some (.ref 85), some (.int v1), some (.int v2), some (.int v3), some (.int (0 : Int32)), some (.int (0 : Int32)), none]) dX9_cards_67 (by decide) rfl rfl rfl ?_
    have hB := wh_ok (A := A_X9_cards_69 g Q) (B := pI Q) (fun s t h hP => k_X9_cards_L69  h hP) h hP
    exact wm_mask (L' := [some (.ref 85), some (.int v1), some (.int v2), some (.int v3), some (.int (0 : Int32)), some (.int (0 : Int32)), none]) [true, true, true, true, true, true, false] rfl (hB)
  · refine wp_iload_n dX9_cards_58 rfl rfl ?_
    refine wm_if_lt 66 dX9_cards_59 rfl rfl h (fun h => ?_) (fun h => ?_)
    · refine wp_iconst (0 : Int32) dX9_cards_66 ic_0 rfl ?_
      refine wp_istore (L' := [some (.ref 85), some (.int v1), some (.int v2), some (.int v3), some (.int (0 : Int32)), some (.int (0 : Int32)), none]) dX9_cards_67 (by decide) rfl rfl rfl ?_
      have hB := wh_ok (A := A_X9_cards_69 g Q) (B := pI Q) (fun s t h hP => k_X9_cards_L69  h hP) h hP
      exact wm_mask (L' := [some (.ref 85), some (.int v1), some (.int v2), some (.int v3), some (.int (0 : Int32)), some (.int (0 : Int32)), none]) [true, true, true, true, true, true, false] rfl (hB)
    · refine wp_iconst (1 : Int32) dX9_cards_62 ic_1 rfl ?_
      refine wp_goto 67 dX9_cards_63 rfl ?_
      refine wp_istore (L' := [some (.ref 85), some (.int v1), some (.int v2), some (.int v3), some (.int (0 : Int32)), some (.int (1 : Int32)), none]) dX9_cards_67 (by decide) rfl rfl rfl ?_
      have hB := wh_ok (A := A_X9_cards_69 g Q) (B := pI Q) (fun s t h hP => k_X9_cards_L69  h hP) h hP
      exact wm_mask (L' := [some (.ref 85), some (.int v1), some (.int v2), some (.int v3), some (.int (0 : Int32)), some (.int (1 : Int32)), none]) [true, true, true, true, true, true, false] rfl (hB)
noncomputable def f_X9_cards  (p1 : Int32) (p2 : Int32) (p3 : Int32) (m : Mem) : Option (Int32 × Mem) := (f_X9_isShelf p1 m).bind (fun q1 => if q1.1 = 0 then some ((-1 : Int32), q1.2) else (f_X9_within p3.toInt64 (1 : Int64) (20 : Int64) q1.2).bind (fun q2 => if ¬ q2.1 = 0 then ck p1 6 (if (gI q2.2 126 (ix p1)) < 0 then f_X9_cards_J44 p1 p2 p3 q2.2 else ck p1 6 (if (gI q2.2 126 (ix p1)) = (51 : Int32) then f_X9_cards_J44 p1 p2 p3 q2.2 else some ((-12 : Int32), q2.2))) else some ((-1 : Int32), q2.2)))
theorem k_X9_cards_E {g : Gx}  {p1 : Int32} {p2 : Int32} {p3 : Int32} {Q : Qy} {m : Mem} {t : Int32 × Mem} (h : f_X9_cards p1 p2 p3 m = some t) (hP : pI Q t) : WpM g 3 mi_X9_cards 0 [some (.ref 85), some (.int p1), some (.int p2), some (.int p3), none, none, none] [] m (zM g mi_X9_cards Q) := by
  refine wp_iload_n dX9_cards_0 rfl rfl ?_
  refine wm_callSI (As := [.int p1]) (rest := []) dX9_cards_1 ok_X9_198 (by decide) rfl (Nat.le_of_ble_eq_true rfl) ⟨rfl, rfl⟩ rfl (fun t h => o_X9_isShelf h) h (fun q1 h => ?_)
  refine wm_if_eq 19 dX9_cards_4 rfl rfl h (fun h => ?_) (fun h => ?_)
  · refine wp_iconst (-1 : Int32) dX9_cards_19 ic_m1 rfl ?_
    exact wm_iret dX9_cards_20 rfl ⟨rfl, rfl⟩ h hP
  · refine wp_iload_n dX9_cards_7 rfl rfl ?_
    refine wp_i2l dX9_cards_8 rfl ?_
    refine wp_lconst (1 : Int64) dX9_cards_9 rfl rfl ?_
    refine wp_ldc2 dX9_cards_10 q1431 rfl ?_
    refine wm_callSI (As := [.long p3.toInt64, .long (1 : Int64), .long (20 : Int64)]) (rest := []) dX9_cards_13 ok_X9_162 (by decide) rfl (Nat.le_of_ble_eq_true rfl) ⟨rfl, rfl⟩ rfl (fun t h => o_X9_within h) h (fun q2 h => ?_)
    refine wm_if_ne 21 dX9_cards_16 rfl rfl h (fun h => ?_) (fun h => ?_)
    · refine wp_aload_n dX9_cards_21 rfl rfl ?_
      refine wm_getR dX9_cards_22 s_85 fk_X9_130 rfl r_85_72 rfl ?_
      refine wp_iload_n dX9_cards_25 rfl rfl ?_
      refine wm_iald dX9_cards_26 s_126 rfl h (fun h => ?_)
      refine wm_if_lt 44 dX9_cards_27 rfl rfl h (fun h => ?_) (fun h => ?_)
      · exact wm_mask (L' := [some (.ref 85), some (.int p1), some (.int p2), some (.int p3), none, none, none]) [true, true, true, true, false, false, false] rfl (k_X9_cards_J44  h hP)
      · refine wp_aload_n dX9_cards_30 rfl rfl ?_
        refine wm_getR dX9_cards_31 s_85 fk_X9_130 rfl r_85_72 rfl ?_
        refine wp_iload_n dX9_cards_34 rfl rfl ?_
        refine wm_iald dX9_cards_35 s_126 rfl h (fun h => ?_)
        refine wp_bipush (51 : Int32) dX9_cards_36 ib_51 rfl ?_
        refine wm_icmp_eq 44 dX9_cards_38 rfl rfl h (fun h => ?_) (fun h => ?_)
        · exact wm_mask (L' := [some (.ref 85), some (.int p1), some (.int p2), some (.int p3), none, none, none]) [true, true, true, true, false, false, false] rfl (k_X9_cards_J44  h hP)
        · refine wp_bipush (-12 : Int32) dX9_cards_41 ib_m12 rfl ?_
          exact wm_iret dX9_cards_43 rfl ⟨rfl, rfl⟩ h hP
    · refine wp_iconst (-1 : Int32) dX9_cards_19 ic_m1 rfl ?_
      exact wm_iret dX9_cards_20 rfl ⟨rfl, rfl⟩ h hP
theorem o_X9_cards {g : Gx}  {p1 : Int32} {p2 : Int32} {p3 : Int32} {m : Mem} {t : Int32 × Mem} (h : f_X9_cards p1 p2 p3 m = some t) : MxM g 3 mi_X9_cards [.ref 85, .int p1, .int p2, .int p3] m (qI t) := mx_of pn_X9 (Nat.le_of_ble_eq_true rfl) (k_X9_cards_E h ⟨rfl, rfl, rfl, rfl, rfl⟩)
abbrev A_X9_mostWishing_5 (g : Gx)  (Q : Qy) (s : Int32 × Int32 × Int32 × Int32 × Mem) : Prop := WpM g 3 mi_X9_mostWishing 5 [some (.ref 85), some (.int s.1), some (.int s.2.1), some (.int s.2.2.1), some (.int s.2.2.2.1)] [] s.2.2.2.2 (zM g mi_X9_mostWishing Q)
abbrev P_X9_mostWishing_5 (g : Gx)  (Q : Qy) : ((Int32 × Int32 × Int32 × Int32 × Mem) ⊕ (Int32 × Mem)) → Prop := pS (A_X9_mostWishing_5 g Q) (pI Q)
noncomputable def f_X9_mostWishing_J38  (v1 : Int32) (v2 : Int32) (v3 : Int32) (v4 : Int32) (m : Mem) : Option ((Int32 × Int32 × Int32 × Int32 × Mem) ⊕ (Int32 × Mem)) := if v3 < 0 then bnd (v4 + (1 : Int32)) (fun y3 => some (Sum.inl (v1, v2, v4, y3, m))) else ck v4 10 (ck v3 10 (if (gI m 98 (ix v4)) ≤ (gI m 98 (ix v3)) then bnd (v4 + (1 : Int32)) (fun y4 => some (Sum.inl (v1, v2, v3, y4, m))) else bnd (v4 + (1 : Int32)) (fun y5 => some (Sum.inl (v1, v2, v4, y5, m)))))
theorem k_X9_mostWishing_J38 {g : Gx}  {v1 : Int32} {v2 : Int32} {v3 : Int32} {v4 : Int32}  {Q : Qy} {m : Mem} {t : (Int32 × Int32 × Int32 × Int32 × Mem) ⊕ (Int32 × Mem)} (h : f_X9_mostWishing_J38 v1 v2 v3 v4 m = some t) (hP : P_X9_mostWishing_5 g Q t) : WpM g 3 mi_X9_mostWishing 38 [some (.ref 85), some (.int v1), some (.int v2), some (.int v3), some (.int v4)] [] m (zM g mi_X9_mostWishing Q) := by
  refine wp_iload_n dX9_mostWishing_38 rfl rfl ?_
  refine wm_if_lt 58 dX9_mostWishing_39 rfl rfl h (fun h => ?_) (fun h => ?_)
  · refine wp_iload dX9_mostWishing_58 rfl rfl ?_
    refine wp_istore_n (L' := [some (.ref 85), some (.int v1), some (.int v2), some (.int v4), some (.int v4)]) dX9_mostWishing_60 (by decide) rfl rfl rfl ?_
    refine wm_inc dX9_mostWishing_61 rfl ii_1 (by decide) rfl rfl h (fun y3 h => ?_)
    refine wm_list (L' := [some (.ref 85), some (.int v1), some (.int v2), some (.int v4), some (.int y3)]) rfl ?_
    refine wp_goto 5 dX9_mostWishing_64 rfl ?_
    have hB := wm_back h hP
    exact wm_mask (L' := [some (.ref 85), some (.int v1), some (.int v2), some (.int v4), some (.int y3)]) [true, true, true, true, true] rfl (hB)
  · refine wp_aload_n dX9_mostWishing_42 rfl rfl ?_
    refine wm_getR dX9_mostWishing_43 s_85 fk_X9_46 rfl r_85_33 rfl ?_
    refine wp_iload dX9_mostWishing_46 rfl rfl ?_
    refine wm_iald dX9_mostWishing_48 s_98 rfl h (fun h => ?_)
    refine wp_aload_n dX9_mostWishing_49 rfl rfl ?_
    refine wm_getR dX9_mostWishing_50 s_85 fk_X9_46 rfl r_85_33 rfl ?_
    refine wp_iload_n dX9_mostWishing_53 rfl rfl ?_
    refine wm_iald dX9_mostWishing_54 s_98 rfl h (fun h => ?_)
    refine wm_icmp_le 61 dX9_mostWishing_55 rfl rfl h (fun h => ?_) (fun h => ?_)
    · refine wm_inc dX9_mostWishing_61 rfl ii_1 (by decide) rfl rfl h (fun y4 h => ?_)
      refine wm_list (L' := [some (.ref 85), some (.int v1), some (.int v2), some (.int v3), some (.int y4)]) rfl ?_
      refine wp_goto 5 dX9_mostWishing_64 rfl ?_
      have hB := wm_back h hP
      exact wm_mask (L' := [some (.ref 85), some (.int v1), some (.int v2), some (.int v3), some (.int y4)]) [true, true, true, true, true] rfl (hB)
    · refine wp_iload dX9_mostWishing_58 rfl rfl ?_
      refine wp_istore_n (L' := [some (.ref 85), some (.int v1), some (.int v2), some (.int v4), some (.int v4)]) dX9_mostWishing_60 (by decide) rfl rfl rfl ?_
      refine wm_inc dX9_mostWishing_61 rfl ii_1 (by decide) rfl rfl h (fun y5 h => ?_)
      refine wm_list (L' := [some (.ref 85), some (.int v1), some (.int v2), some (.int v4), some (.int y5)]) rfl ?_
      refine wp_goto 5 dX9_mostWishing_64 rfl ?_
      have hB := wm_back h hP
      exact wm_mask (L' := [some (.ref 85), some (.int v1), some (.int v2), some (.int v4), some (.int y5)]) [true, true, true, true, true] rfl (hB)
noncomputable def f_X9_mostWishing_L5  (s : Int32 × Int32 × Int32 × Int32 × Mem) : Option ((Int32 × Int32 × Int32 × Int32 × Mem) ⊕ (Int32 × Mem)) := if (gI s.2.2.2.2 85 6) ≤ s.2.2.2.1 then up (some (s.2.2.1, s.2.2.2.2)) else (f_X9_wishes s.2.2.2.1 s.2.2.2.2).bind (fun q1 => if q1.1 = 0 then bnd (s.2.2.2.1 + (1 : Int32)) (fun y2 => some (Sum.inl (s.1, s.2.1, s.2.2.1, y2, q1.2))) else if ¬ s.1 = 0 then f_X9_mostWishing_J38 s.1 s.2.1 s.2.2.1 s.2.2.2.1 q1.2 else ck s.2.2.2.1 42 (if s.2.1 ≤ (gI q1.2 86 (ix s.2.2.2.1)) then bnd (s.2.2.2.1 + (1 : Int32)) (fun y6 => some (Sum.inl (s.1, s.2.1, s.2.2.1, y6, q1.2))) else f_X9_mostWishing_J38 s.1 s.2.1 s.2.2.1 s.2.2.2.1 q1.2))
theorem k_X9_mostWishing_L5 {g : Gx}  {Q : Qy} {s : Int32 × Int32 × Int32 × Int32 × Mem} {t : (Int32 × Int32 × Int32 × Int32 × Mem) ⊕ (Int32 × Mem)} (h : f_X9_mostWishing_L5 s = some t) (hP : P_X9_mostWishing_5 g Q t) : A_X9_mostWishing_5 g Q s := by
  refine wp_iload dX9_mostWishing_5 rfl rfl ?_
  refine wp_aload_n dX9_mostWishing_7 rfl rfl ?_
  refine wm_getI dX9_mostWishing_8 s_85 fk_X9_159 rfl rfl ?_
  refine wm_icmp_ge 67 dX9_mostWishing_11 rfl rfl h (fun h => ?_) (fun h => ?_)
  · refine wm_up h hP (fun r h hP => ?_)
    refine wp_iload_n dX9_mostWishing_67 rfl rfl ?_
    exact wm_iret dX9_mostWishing_68 rfl ⟨rfl, rfl⟩ h hP
  · refine wp_aload_n dX9_mostWishing_14 rfl rfl ?_
    refine wp_iload dX9_mostWishing_15 rfl rfl ?_
    refine wm_callVI (As := [.int s.2.2.2.1]) (rest := []) dX9_mostWishing_17 ok_X9_302 (by decide) rfl s_85 ⟨_, rfl⟩ (Nat.le_of_ble_eq_true rfl) ⟨rfl, rfl⟩ rfl (fun t h => o_X9_wishes h) h (fun q1 h => ?_)
    refine wm_if_eq 61 dX9_mostWishing_20 rfl rfl h (fun h => ?_) (fun h => ?_)
    · refine wm_inc dX9_mostWishing_61 rfl ii_1 (by decide) rfl rfl h (fun y2 h => ?_)
      refine wm_list (L' := [some (.ref 85), some (.int s.1), some (.int s.2.1), some (.int s.2.2.1), some (.int y2)]) rfl ?_
      refine wp_goto 5 dX9_mostWishing_64 rfl ?_
      have hB := wm_back h hP
      exact wm_mask (L' := [some (.ref 85), some (.int s.1), some (.int s.2.1), some (.int s.2.2.1), some (.int y2)]) [true, true, true, true, true] rfl (hB)
    · refine wp_iload_n dX9_mostWishing_23 rfl rfl ?_
      refine wm_if_ne 38 dX9_mostWishing_24 rfl rfl h (fun h => ?_) (fun h => ?_)
      · exact wm_mask (L' := [some (.ref 85), some (.int s.1), some (.int s.2.1), some (.int s.2.2.1), some (.int s.2.2.2.1)]) [true, true, true, true, true] rfl (k_X9_mostWishing_J38  h hP)
      · refine wp_aload_n dX9_mostWishing_27 rfl rfl ?_
        refine wm_getR dX9_mostWishing_28 s_85 fk_X9_9 rfl r_85_0 rfl ?_
        refine wp_iload dX9_mostWishing_31 rfl rfl ?_
        refine wm_iald dX9_mostWishing_33 s_86 rfl h (fun h => ?_)
        refine wp_iload_n dX9_mostWishing_34 rfl rfl ?_
        refine wm_icmp_ge 61 dX9_mostWishing_35 rfl rfl h (fun h => ?_) (fun h => ?_)
        · refine wm_inc dX9_mostWishing_61 rfl ii_1 (by decide) rfl rfl h (fun y6 h => ?_)
          refine wm_list (L' := [some (.ref 85), some (.int s.1), some (.int s.2.1), some (.int s.2.2.1), some (.int y6)]) rfl ?_
          refine wp_goto 5 dX9_mostWishing_64 rfl ?_
          have hB := wm_back h hP
          exact wm_mask (L' := [some (.ref 85), some (.int s.1), some (.int s.2.1), some (.int s.2.2.1), some (.int y6)]) [true, true, true, true, true] rfl (hB)
        · exact wm_mask (L' := [some (.ref 85), some (.int s.1), some (.int s.2.1), some (.int s.2.2.1), some (.int s.2.2.2.1)]) [true, true, true, true, true] rfl (k_X9_mostWishing_J38  h hP)
noncomputable def f_X9_mostWishing  (p1 : Int32) (p2 : Int32) (m : Mem) : Option (Int32 × Mem) := wh (f_X9_mostWishing_L5) (p1, p2, (-1 : Int32), (0 : Int32), m)
theorem k_X9_mostWishing_E {g : Gx}  {p1 : Int32} {p2 : Int32} {Q : Qy} {m : Mem} {t : Int32 × Mem} (h : f_X9_mostWishing p1 p2 m = some t) (hP : pI Q t) : WpM g 3 mi_X9_mostWishing 0 [some (.ref 85), some (.int p1), some (.int p2), none, none] [] m (zM g mi_X9_mostWishing Q) := by
  refine wp_iconst (-1 : Int32) dX9_mostWishing_0 ic_m1 rfl ?_
  refine wp_istore_n (L' := [some (.ref 85), some (.int p1), some (.int p2), some (.int (-1 : Int32)), none]) dX9_mostWishing_1 (by decide) rfl rfl rfl ?_
  refine wp_iconst (0 : Int32) dX9_mostWishing_2 ic_0 rfl ?_
  refine wp_istore (L' := [some (.ref 85), some (.int p1), some (.int p2), some (.int (-1 : Int32)), some (.int (0 : Int32))]) dX9_mostWishing_3 (by decide) rfl rfl rfl ?_
  have hB := wh_ok (A := A_X9_mostWishing_5 g Q) (B := pI Q) (fun s t h hP => k_X9_mostWishing_L5  h hP) h hP
  exact wm_mask (L' := [some (.ref 85), some (.int p1), some (.int p2), some (.int (-1 : Int32)), some (.int (0 : Int32))]) [true, true, true, true, true] rfl (hB)
theorem o_X9_mostWishing {g : Gx}  {p1 : Int32} {p2 : Int32} {m : Mem} {t : Int32 × Mem} (h : f_X9_mostWishing p1 p2 m = some t) : MxM g 3 mi_X9_mostWishing [.ref 85, .int p1, .int p2] m (qI t) := mx_of pn_X9 (Nat.le_of_ble_eq_true rfl) (k_X9_mostWishing_E h ⟨rfl, rfl, rfl, rfl, rfl⟩)
abbrev A_X9_chiefLast_4 (g : Gx)  (Q : Qy) (s : Int32 × Int32 × Mem) : Prop := WpM g 4 mi_X9_chiefLast 4 [some (.ref 85), some (.int s.1), some (.int s.2.1)] [] s.2.2 (zM g mi_X9_chiefLast Q)
abbrev P_X9_chiefLast_4 (g : Gx)  (Q : Qy) : ((Int32 × Int32 × Mem) ⊕ (Int32 × Mem)) → Prop := pS (A_X9_chiefLast_4 g Q) (pI Q)
noncomputable def f_X9_chiefLast_L4  (s : Int32 × Int32 × Mem) : Option ((Int32 × Int32 × Mem) ⊕ (Int32 × Mem)) := if (gI s.2.2 85 6) ≤ s.2.1 then up ((f_X9_mostWishing (0 : Int32) s.1 s.2.2).bind (fun q1 => if 0 ≤ q1.1 then some (q1.1, q1.2) else (f_X9_mostWishing (1 : Int32) s.1 q1.2).bind (fun q2 => some (q2.1, q2.2)))) else (f_X9_isThere s.2.1 s.2.2).bind (fun q3 => if q3.1 = 0 then bnd (s.2.1 + (1 : Int32)) (fun y4 => some (Sum.inl (s.1, y4, q3.2))) else ck s.2.1 42 (if (gI q3.2 86 (ix s.2.1)) ≤ s.1 then bnd (s.2.1 + (1 : Int32)) (fun y5 => some (Sum.inl (s.1, y5, q3.2))) else ck s.2.1 42 (bnd (gI q3.2 86 (ix s.2.1)) (fun y6 => bnd (s.2.1 + (1 : Int32)) (fun y7 => some (Sum.inl (y6, y7, q3.2)))))))
theorem k_X9_chiefLast_L4 {g : Gx}  {Q : Qy} {s : Int32 × Int32 × Mem} {t : (Int32 × Int32 × Mem) ⊕ (Int32 × Mem)} (h : f_X9_chiefLast_L4 s = some t) (hP : P_X9_chiefLast_4 g Q t) : A_X9_chiefLast_4 g Q s := by
  refine wp_iload_n dX9_chiefLast_4 rfl rfl ?_
  refine wp_aload_n dX9_chiefLast_5 rfl rfl ?_
  refine wm_getI dX9_chiefLast_6 s_85 fk_X9_159 rfl rfl ?_
  refine wm_icmp_ge 47 dX9_chiefLast_9 rfl rfl h (fun h => ?_) (fun h => ?_)
  · refine wm_up h hP (fun r h hP => ?_)
    refine wp_aload_n dX9_chiefLast_47 rfl rfl ?_
    refine wp_iconst (0 : Int32) dX9_chiefLast_48 ic_0 rfl ?_
    refine wp_iload_n dX9_chiefLast_49 rfl rfl ?_
    refine wm_callVI (As := [.int (0 : Int32), .int s.1]) (rest := []) dX9_chiefLast_50 ok_X9_308 (by decide) rfl s_85 ⟨_, rfl⟩ (Nat.le_of_ble_eq_true rfl) ⟨rfl, rfl⟩ rfl (fun t h => o_X9_mostWishing h) h (fun q1 h => ?_)
    refine wp_istore_n (L' := [some (.ref 85), some (.int s.1), some (.int q1.1)]) dX9_chiefLast_53 (by decide) rfl rfl rfl ?_
    refine wp_iload_n dX9_chiefLast_54 rfl rfl ?_
    refine wm_if_ge 67 dX9_chiefLast_55 rfl rfl h (fun h => ?_) (fun h => ?_)
    · refine wp_iload_n dX9_chiefLast_67 rfl rfl ?_
      exact wm_iret dX9_chiefLast_68 rfl ⟨rfl, rfl⟩ h hP
    · refine wp_aload_n dX9_chiefLast_58 rfl rfl ?_
      refine wp_iconst (1 : Int32) dX9_chiefLast_59 ic_1 rfl ?_
      refine wp_iload_n dX9_chiefLast_60 rfl rfl ?_
      refine wm_callVI (As := [.int (1 : Int32), .int s.1]) (rest := []) dX9_chiefLast_61 ok_X9_308 (by decide) rfl s_85 ⟨_, rfl⟩ (Nat.le_of_ble_eq_true rfl) ⟨rfl, rfl⟩ rfl (fun t h => o_X9_mostWishing h) h (fun q2 h => ?_)
      refine wp_goto 68 dX9_chiefLast_64 rfl ?_
      exact wm_iret dX9_chiefLast_68 rfl ⟨rfl, rfl⟩ h hP
  · refine wp_aload_n dX9_chiefLast_12 rfl rfl ?_
    refine wp_iload_n dX9_chiefLast_13 rfl rfl ?_
    refine wm_callVI (As := [.int s.2.1]) (rest := []) dX9_chiefLast_14 ok_X9_299 (by decide) rfl s_85 ⟨_, rfl⟩ (Nat.le_of_ble_eq_true rfl) ⟨rfl, rfl⟩ rfl (fun t h => o_X9_isThere h) h (fun q3 h => ?_)
    refine wm_if_eq 39 dX9_chiefLast_17 rfl rfl h (fun h => ?_) (fun h => ?_)
    · refine wp_iload_n dX9_chiefLast_39 rfl rfl ?_
      refine wp_istore_n (L' := [some (.ref 85), some (.int s.1), some (.int s.2.1)]) dX9_chiefLast_40 (by decide) rfl rfl rfl ?_
      refine wm_inc dX9_chiefLast_41 rfl ii_1 (by decide) rfl rfl h (fun y4 h => ?_)
      refine wm_list (L' := [some (.ref 85), some (.int s.1), some (.int y4)]) rfl ?_
      refine wp_goto 4 dX9_chiefLast_44 rfl ?_
      have hB := wm_back h hP
      exact wm_mask (L' := [some (.ref 85), some (.int s.1), some (.int y4)]) [true, true, true] rfl (hB)
    · refine wp_aload_n dX9_chiefLast_20 rfl rfl ?_
      refine wm_getR dX9_chiefLast_21 s_85 fk_X9_9 rfl r_85_0 rfl ?_
      refine wp_iload_n dX9_chiefLast_24 rfl rfl ?_
      refine wm_iald dX9_chiefLast_25 s_86 rfl h (fun h => ?_)
      refine wp_iload_n dX9_chiefLast_26 rfl rfl ?_
      refine wm_icmp_le 39 dX9_chiefLast_27 rfl rfl h (fun h => ?_) (fun h => ?_)
      · refine wp_iload_n dX9_chiefLast_39 rfl rfl ?_
        refine wp_istore_n (L' := [some (.ref 85), some (.int s.1), some (.int s.2.1)]) dX9_chiefLast_40 (by decide) rfl rfl rfl ?_
        refine wm_inc dX9_chiefLast_41 rfl ii_1 (by decide) rfl rfl h (fun y5 h => ?_)
        refine wm_list (L' := [some (.ref 85), some (.int s.1), some (.int y5)]) rfl ?_
        refine wp_goto 4 dX9_chiefLast_44 rfl ?_
        have hB := wm_back h hP
        exact wm_mask (L' := [some (.ref 85), some (.int s.1), some (.int y5)]) [true, true, true] rfl (hB)
      · refine wp_aload_n dX9_chiefLast_30 rfl rfl ?_
        refine wm_getR dX9_chiefLast_31 s_85 fk_X9_9 rfl r_85_0 rfl ?_
        refine wp_iload_n dX9_chiefLast_34 rfl rfl ?_
        refine wm_iald dX9_chiefLast_35 s_86 rfl h (fun h => ?_)
        refine wp_goto 40 dX9_chiefLast_36 rfl ?_
        refine wm_nm h (fun y6 h => ?_)
        refine wp_istore_n (L' := [some (.ref 85), some (.int y6), some (.int s.2.1)]) dX9_chiefLast_40 (by decide) rfl rfl rfl ?_
        refine wm_inc dX9_chiefLast_41 rfl ii_1 (by decide) rfl rfl h (fun y7 h => ?_)
        refine wm_list (L' := [some (.ref 85), some (.int y6), some (.int y7)]) rfl ?_
        refine wp_goto 4 dX9_chiefLast_44 rfl ?_
        have hB := wm_back h hP
        exact wm_mask (L' := [some (.ref 85), some (.int y6), some (.int y7)]) [true, true, true] rfl (hB)
noncomputable def f_X9_chiefLast   (m : Mem) : Option (Int32 × Mem) := wh (f_X9_chiefLast_L4) ((-1 : Int32), (0 : Int32), m)
theorem k_X9_chiefLast_E {g : Gx}   {Q : Qy} {m : Mem} {t : Int32 × Mem} (h : f_X9_chiefLast m = some t) (hP : pI Q t) : WpM g 4 mi_X9_chiefLast 0 [some (.ref 85), none, none] [] m (zM g mi_X9_chiefLast Q) := by
  refine wp_iconst (-1 : Int32) dX9_chiefLast_0 ic_m1 rfl ?_
  refine wp_istore_n (L' := [some (.ref 85), some (.int (-1 : Int32)), none]) dX9_chiefLast_1 (by decide) rfl rfl rfl ?_
  refine wp_iconst (0 : Int32) dX9_chiefLast_2 ic_0 rfl ?_
  refine wp_istore_n (L' := [some (.ref 85), some (.int (-1 : Int32)), some (.int (0 : Int32))]) dX9_chiefLast_3 (by decide) rfl rfl rfl ?_
  have hB := wh_ok (A := A_X9_chiefLast_4 g Q) (B := pI Q) (fun s t h hP => k_X9_chiefLast_L4  h hP) h hP
  exact wm_mask (L' := [some (.ref 85), some (.int (-1 : Int32)), some (.int (0 : Int32))]) [true, true, true] rfl (hB)
theorem o_X9_chiefLast {g : Gx}   {m : Mem} {t : Int32 × Mem} (h : f_X9_chiefLast m = some t) : MxM g 4 mi_X9_chiefLast [.ref 85] m (qI t) := mx_of pn_X9 (Nat.le_of_ble_eq_true rfl) (k_X9_chiefLast_E h ⟨rfl, rfl, rfl, rfl, rfl⟩)
abbrev A_X9_comesTo_12 (g : Gx)  (Q : Qy) (s : Int32 × Int32 × Int32 × Mem) : Prop := WpM g 2 mi_X9_comesTo 12 [some (.ref 85), some (.int s.1), some (.int s.2.1), some (.int s.2.2.1)] [] s.2.2.2 (zM g mi_X9_comesTo Q)
abbrev P_X9_comesTo_12 (g : Gx)  (Q : Qy) : ((Int32 × Int32 × Int32 × Mem) ⊕ (Int32 × Mem)) → Prop := pS (A_X9_comesTo_12 g Q) (pI Q)
noncomputable def f_X9_comesTo_L12  (s : Int32 × Int32 × Int32 × Mem) : Option ((Int32 × Int32 × Int32 × Mem) ⊕ (Int32 × Mem)) := if (gI s.2.2.2 85 9) ≤ s.2.2.1 then up (some (s.2.1, s.2.2.2)) else ck s.2.2.1 20 (if ¬ (gI s.2.2.2 91 (ix s.2.2.1)) = s.1 then bnd (s.2.1 + (0 : Int32)) (fun y2 => bnd (s.2.2.1 + (1 : Int32)) (fun y3 => some (Sum.inl (s.1, y2, y3, s.2.2.2)))) else (f_X9_isSaid s.2.2.1 s.2.2.2).bind (fun q4 => if q4.1 = 0 then bnd (s.2.1 + (0 : Int32)) (fun y5 => bnd (s.2.2.1 + (1 : Int32)) (fun y6 => some (Sum.inl (s.1, y5, y6, q4.2)))) else ck s.2.2.1 20 (bnd (s.2.1 + (gI q4.2 92 (ix s.2.2.1))) (fun y7 => bnd (s.2.2.1 + (1 : Int32)) (fun y8 => some (Sum.inl (s.1, y7, y8, q4.2)))))))
theorem k_X9_comesTo_L12 {g : Gx}  {Q : Qy} {s : Int32 × Int32 × Int32 × Mem} {t : (Int32 × Int32 × Int32 × Mem) ⊕ (Int32 × Mem)} (h : f_X9_comesTo_L12 s = some t) (hP : P_X9_comesTo_12 g Q t) : A_X9_comesTo_12 g Q s := by
  refine wp_iload_n dX9_comesTo_12 rfl rfl ?_
  refine wp_aload_n dX9_comesTo_13 rfl rfl ?_
  refine wm_getI dX9_comesTo_14 s_85 fk_X9_169 rfl rfl ?_
  refine wm_icmp_ge 57 dX9_comesTo_17 rfl rfl h (fun h => ?_) (fun h => ?_)
  · refine wm_up h hP (fun r h hP => ?_)
    refine wp_iload_n dX9_comesTo_57 rfl rfl ?_
    exact wm_iret dX9_comesTo_58 rfl ⟨rfl, rfl⟩ h hP
  · refine wp_iload_n dX9_comesTo_20 rfl rfl ?_
    refine wp_aload_n dX9_comesTo_21 rfl rfl ?_
    refine wm_getR dX9_comesTo_22 s_85 fk_X9_25 rfl r_85_10 rfl ?_
    refine wp_iload_n dX9_comesTo_25 rfl rfl ?_
    refine wm_iald dX9_comesTo_26 s_91 rfl h (fun h => ?_)
    refine wp_iload_n dX9_comesTo_27 rfl rfl ?_
    refine wm_icmp_ne 48 dX9_comesTo_28 rfl rfl h (fun h => ?_) (fun h => ?_)
    · refine wp_iconst (0 : Int32) dX9_comesTo_48 ic_0 rfl ?_
      refine wp_iadd dX9_comesTo_49 rfl ?_
      refine wm_nm h (fun y2 h => ?_)
      refine wp_istore_n (L' := [some (.ref 85), some (.int s.1), some (.int y2), some (.int s.2.2.1)]) dX9_comesTo_50 (by decide) rfl rfl rfl ?_
      refine wm_inc dX9_comesTo_51 rfl ii_1 (by decide) rfl rfl h (fun y3 h => ?_)
      refine wm_list (L' := [some (.ref 85), some (.int s.1), some (.int y2), some (.int y3)]) rfl ?_
      refine wp_goto 12 dX9_comesTo_54 rfl ?_
      have hB := wm_back h hP
      exact wm_mask (L' := [some (.ref 85), some (.int s.1), some (.int y2), some (.int y3)]) [true, true, true, true] rfl (hB)
    · refine wp_aload_n dX9_comesTo_31 rfl rfl ?_
      refine wp_iload_n dX9_comesTo_32 rfl rfl ?_
      refine wm_callVI (As := [.int s.2.2.1]) (rest := [.int s.2.1]) dX9_comesTo_33 ok_X9_296 (by decide) rfl s_85 ⟨_, rfl⟩ (Nat.le_of_ble_eq_true rfl) ⟨rfl, rfl⟩ rfl (fun t h => o_X9_isSaid h) h (fun q4 h => ?_)
      refine wm_if_eq 48 dX9_comesTo_36 rfl rfl h (fun h => ?_) (fun h => ?_)
      · refine wp_iconst (0 : Int32) dX9_comesTo_48 ic_0 rfl ?_
        refine wp_iadd dX9_comesTo_49 rfl ?_
        refine wm_nm h (fun y5 h => ?_)
        refine wp_istore_n (L' := [some (.ref 85), some (.int s.1), some (.int y5), some (.int s.2.2.1)]) dX9_comesTo_50 (by decide) rfl rfl rfl ?_
        refine wm_inc dX9_comesTo_51 rfl ii_1 (by decide) rfl rfl h (fun y6 h => ?_)
        refine wm_list (L' := [some (.ref 85), some (.int s.1), some (.int y5), some (.int y6)]) rfl ?_
        refine wp_goto 12 dX9_comesTo_54 rfl ?_
        have hB := wm_back h hP
        exact wm_mask (L' := [some (.ref 85), some (.int s.1), some (.int y5), some (.int y6)]) [true, true, true, true] rfl (hB)
      · refine wp_aload_n dX9_comesTo_39 rfl rfl ?_
        refine wm_getR dX9_comesTo_40 s_85 fk_X9_28 rfl r_85_11 rfl ?_
        refine wp_iload_n dX9_comesTo_43 rfl rfl ?_
        refine wm_iald dX9_comesTo_44 s_92 rfl h (fun h => ?_)
        refine wp_goto 49 dX9_comesTo_45 rfl ?_
        refine wp_iadd dX9_comesTo_49 rfl ?_
        refine wm_nm h (fun y7 h => ?_)
        refine wp_istore_n (L' := [some (.ref 85), some (.int s.1), some (.int y7), some (.int s.2.2.1)]) dX9_comesTo_50 (by decide) rfl rfl rfl ?_
        refine wm_inc dX9_comesTo_51 rfl ii_1 (by decide) rfl rfl h (fun y8 h => ?_)
        refine wm_list (L' := [some (.ref 85), some (.int s.1), some (.int y7), some (.int y8)]) rfl ?_
        refine wp_goto 12 dX9_comesTo_54 rfl ?_
        have hB := wm_back h hP
        exact wm_mask (L' := [some (.ref 85), some (.int s.1), some (.int y7), some (.int y8)]) [true, true, true, true] rfl (hB)
noncomputable def f_X9_comesTo  (p1 : Int32) (m : Mem) : Option (Int32 × Mem) := ck ((30 : Int32) + p1) 42 (bnd (gI m 86 (ix ((30 : Int32) + p1))) (fun y1 => wh (f_X9_comesTo_L12) (p1, y1, (0 : Int32), m)))
theorem k_X9_comesTo_E {g : Gx}  {p1 : Int32} {Q : Qy} {m : Mem} {t : Int32 × Mem} (h : f_X9_comesTo p1 m = some t) (hP : pI Q t) : WpM g 2 mi_X9_comesTo 0 [some (.ref 85), some (.int p1), none, none] [] m (zM g mi_X9_comesTo Q) := by
  refine wp_aload_n dX9_comesTo_0 rfl rfl ?_
  refine wm_getR dX9_comesTo_1 s_85 fk_X9_9 rfl r_85_0 rfl ?_
  refine wp_bipush (30 : Int32) dX9_comesTo_4 ib_30 rfl ?_
  refine wp_iload_n dX9_comesTo_6 rfl rfl ?_
  refine wp_iadd dX9_comesTo_7 rfl ?_
  refine wm_iald dX9_comesTo_8 s_86 rfl h (fun h => ?_)
  refine wm_nm h (fun y1 h => ?_)
  refine wp_istore_n (L' := [some (.ref 85), some (.int p1), some (.int y1), none]) dX9_comesTo_9 (by decide) rfl rfl rfl ?_
  refine wp_iconst (0 : Int32) dX9_comesTo_10 ic_0 rfl ?_
  refine wp_istore_n (L' := [some (.ref 85), some (.int p1), some (.int y1), some (.int (0 : Int32))]) dX9_comesTo_11 (by decide) rfl rfl rfl ?_
  have hB := wh_ok (A := A_X9_comesTo_12 g Q) (B := pI Q) (fun s t h hP => k_X9_comesTo_L12  h hP) h hP
  exact wm_mask (L' := [some (.ref 85), some (.int p1), some (.int y1), some (.int (0 : Int32))]) [true, true, true, true] rfl (hB)
theorem o_X9_comesTo {g : Gx}  {p1 : Int32} {m : Mem} {t : Int32 × Mem} (h : f_X9_comesTo p1 m = some t) : MxM g 2 mi_X9_comesTo [.ref 85, .int p1] m (qI t) := mx_of pn_X9 (Nat.le_of_ble_eq_true rfl) (k_X9_comesTo_E h ⟨rfl, rfl, rfl, rfl, rfl⟩)
noncomputable def f_X9_thereFor  (p1 : Int32) (m : Mem) : Option (Int32 × Mem) := ck ((20 : Int32) + p1) 42 (if (gI m 85 29) ≤ (gI m 86 (ix ((20 : Int32) + p1))) then some ((0 : Int32), m) else ck ((20 : Int32) + p1) 42 (some (((gI m 85 29) - (gI m 86 (ix ((20 : Int32) + p1)))), m)))
theorem k_X9_thereFor_E {g : Gx}  {p1 : Int32} {Q : Qy} {m : Mem} {t : Int32 × Mem} (h : f_X9_thereFor p1 m = some t) (hP : pI Q t) : WpM g 1 mi_X9_thereFor 0 [some (.ref 85), some (.int p1)] [] m (zM g mi_X9_thereFor Q) := by
  refine wp_aload_n dX9_thereFor_0 rfl rfl ?_
  refine wm_getI dX9_thereFor_1 s_85 fk_X9_289 rfl rfl ?_
  refine wp_aload_n dX9_thereFor_4 rfl rfl ?_
  refine wm_getR dX9_thereFor_5 s_85 fk_X9_9 rfl r_85_0 rfl ?_
  refine wp_bipush (20 : Int32) dX9_thereFor_8 ib_20 rfl ?_
  refine wp_iload_n dX9_thereFor_10 rfl rfl ?_
  refine wp_iadd dX9_thereFor_11 rfl ?_
  refine wm_iald dX9_thereFor_12 s_86 rfl h (fun h => ?_)
  refine wm_icmp_le 33 dX9_thereFor_13 rfl rfl h (fun h => ?_) (fun h => ?_)
  · refine wp_iconst (0 : Int32) dX9_thereFor_33 ic_0 rfl ?_
    exact wm_iret dX9_thereFor_34 rfl ⟨rfl, rfl⟩ h hP
  · refine wp_aload_n dX9_thereFor_16 rfl rfl ?_
    refine wm_getI dX9_thereFor_17 s_85 fk_X9_289 rfl rfl ?_
    refine wp_aload_n dX9_thereFor_20 rfl rfl ?_
    refine wm_getR dX9_thereFor_21 s_85 fk_X9_9 rfl r_85_0 rfl ?_
    refine wp_bipush (20 : Int32) dX9_thereFor_24 ib_20 rfl ?_
    refine wp_iload_n dX9_thereFor_26 rfl rfl ?_
    refine wp_iadd dX9_thereFor_27 rfl ?_
    refine wm_iald dX9_thereFor_28 s_86 rfl h (fun h => ?_)
    refine wp_isub dX9_thereFor_29 rfl ?_
    refine wp_goto 34 dX9_thereFor_30 rfl ?_
    exact wm_iret dX9_thereFor_34 rfl ⟨rfl, rfl⟩ h hP
theorem o_X9_thereFor {g : Gx}  {p1 : Int32} {m : Mem} {t : Int32 × Mem} (h : f_X9_thereFor p1 m = some t) : MxM g 1 mi_X9_thereFor [.ref 85, .int p1] m (qI t) := mx_of pn_X9 (Nat.le_of_ble_eq_true rfl) (k_X9_thereFor_E h ⟨rfl, rfl, rfl, rfl, rfl⟩)
abbrev A_X9_cost_4 (g : Gx)  (Q : Qy) (s : Int32 × Int32 × Mem) : Prop := WpM g 2 mi_X9_cost 4 [some (.ref 85), some (.int s.1), some (.int s.2.1)] [] s.2.2 (zM g mi_X9_cost Q)
abbrev P_X9_cost_4 (g : Gx)  (Q : Qy) : ((Int32 × Int32 × Mem) ⊕ (Int32 × Mem)) → Prop := pS (A_X9_cost_4 g Q) (pI Q)
noncomputable def f_X9_cost_L4  (s : Int32 × Int32 × Mem) : Option ((Int32 × Int32 × Mem) ⊕ (Int32 × Mem)) := if (gI s.2.2 85 6) ≤ s.2.1 then up (some (s.1, s.2.2)) else ck s.2.1 10 ((f_X9_thereFor s.2.1 s.2.2).bind (fun q1 => bnd (s.1 + ((gI s.2.2 90 (ix s.2.1)) * q1.1)) (fun y2 => bnd (s.2.1 + (1 : Int32)) (fun y3 => some (Sum.inl (y2, y3, q1.2))))))
theorem k_X9_cost_L4 {g : Gx}  {Q : Qy} {s : Int32 × Int32 × Mem} {t : (Int32 × Int32 × Mem) ⊕ (Int32 × Mem)} (h : f_X9_cost_L4 s = some t) (hP : P_X9_cost_4 g Q t) : A_X9_cost_4 g Q s := by
  refine wp_iload_n dX9_cost_4 rfl rfl ?_
  refine wp_aload_n dX9_cost_5 rfl rfl ?_
  refine wm_getI dX9_cost_6 s_85 fk_X9_159 rfl rfl ?_
  refine wm_icmp_ge 33 dX9_cost_9 rfl rfl h (fun h => ?_) (fun h => ?_)
  · refine wm_up h hP (fun r h hP => ?_)
    refine wp_iload_n dX9_cost_33 rfl rfl ?_
    exact wm_iret dX9_cost_34 rfl ⟨rfl, rfl⟩ h hP
  · refine wp_iload_n dX9_cost_12 rfl rfl ?_
    refine wp_aload_n dX9_cost_13 rfl rfl ?_
    refine wm_getR dX9_cost_14 s_85 fk_X9_22 rfl r_85_7 rfl ?_
    refine wp_iload_n dX9_cost_17 rfl rfl ?_
    refine wm_iald dX9_cost_18 s_90 rfl h (fun h => ?_)
    refine wp_aload_n dX9_cost_19 rfl rfl ?_
    refine wp_iload_n dX9_cost_20 rfl rfl ?_
    refine wm_callVI (As := [.int s.2.1]) (rest := [.int (gI s.2.2 90 (ix s.2.1)), .int s.1]) dX9_cost_21 ok_X9_370 (by decide) rfl s_85 ⟨_, rfl⟩ (Nat.le_of_ble_eq_true rfl) ⟨rfl, rfl⟩ rfl (fun t h => o_X9_thereFor h) h (fun q1 h => ?_)
    refine wp_imul dX9_cost_24 rfl ?_
    refine wp_iadd dX9_cost_25 rfl ?_
    refine wm_nm h (fun y2 h => ?_)
    refine wp_istore_n (L' := [some (.ref 85), some (.int y2), some (.int s.2.1)]) dX9_cost_26 (by decide) rfl rfl rfl ?_
    refine wm_inc dX9_cost_27 rfl ii_1 (by decide) rfl rfl h (fun y3 h => ?_)
    refine wm_list (L' := [some (.ref 85), some (.int y2), some (.int y3)]) rfl ?_
    refine wp_goto 4 dX9_cost_30 rfl ?_
    have hB := wm_back h hP
    exact wm_mask (L' := [some (.ref 85), some (.int y2), some (.int y3)]) [true, true, true] rfl (hB)
noncomputable def f_X9_cost   (m : Mem) : Option (Int32 × Mem) := wh (f_X9_cost_L4) ((0 : Int32), (0 : Int32), m)
theorem k_X9_cost_E {g : Gx}   {Q : Qy} {m : Mem} {t : Int32 × Mem} (h : f_X9_cost m = some t) (hP : pI Q t) : WpM g 2 mi_X9_cost 0 [some (.ref 85), none, none] [] m (zM g mi_X9_cost Q) := by
  refine wp_iconst (0 : Int32) dX9_cost_0 ic_0 rfl ?_
  refine wp_istore_n (L' := [some (.ref 85), some (.int (0 : Int32)), none]) dX9_cost_1 (by decide) rfl rfl rfl ?_
  refine wp_iconst (0 : Int32) dX9_cost_2 ic_0 rfl ?_
  refine wp_istore_n (L' := [some (.ref 85), some (.int (0 : Int32)), some (.int (0 : Int32))]) dX9_cost_3 (by decide) rfl rfl rfl ?_
  have hB := wh_ok (A := A_X9_cost_4 g Q) (B := pI Q) (fun s t h hP => k_X9_cost_L4  h hP) h hP
  exact wm_mask (L' := [some (.ref 85), some (.int (0 : Int32)), some (.int (0 : Int32))]) [true, true, true] rfl (hB)
theorem o_X9_cost {g : Gx}   {m : Mem} {t : Int32 × Mem} (h : f_X9_cost m = some t) : MxM g 2 mi_X9_cost [.ref 85] m (qI t) := mx_of pn_X9 (Nat.le_of_ble_eq_true rfl) (k_X9_cost_E h ⟨rfl, rfl, rfl, rfl, rfl⟩)
noncomputable def f_X9_count  (p1 : Int32) (m : Mem) : Option (Int32 × Mem) := sw p1 [((0 : Int32), some ((gI m 85 6), m)), ((1 : Int32), some ((gI m 85 8), m)), ((2 : Int32), some ((gI m 85 9), m)), ((3 : Int32), some ((gI m 85 17), m)), ((4 : Int32), some ((gI m 85 5), m)), ((5 : Int32), some ((gI m 85 66), m)), ((6 : Int32), some ((gI m 85 69), m))] (some ((-1 : Int32), m))
theorem k_X9_count_E {g : Gx}  {p1 : Int32} {Q : Qy} {m : Mem} {t : Int32 × Mem} (h : f_X9_count p1 m = some t) (hP : pI Q t) : WpM g 1 mi_X9_count 0 [some (.ref 85), some (.int p1)] [] m (zM g mi_X9_count Q) := by
  refine wp_iload_n dX9_count_0 rfl rfl ?_
  refine wm_tsw [((0 : Int32), 44), ((1 : Int32), 49), ((2 : Int32), 54), ((3 : Int32), 59), ((4 : Int32), 64), ((5 : Int32), 69), ((6 : Int32), 74)] 79 dX9_count_1 rfl (by decide) (by decide +kernel) (by decide +kernel) (by decide +kernel) h rfl ⟨fun h => ?_, fun h => ?_, fun h => ?_, fun h => ?_, fun h => ?_, fun h => ?_, fun h => ?_, trivial⟩ (fun h => ?_)
  · refine wp_aload_n dX9_count_44 rfl rfl ?_
    refine wm_getI dX9_count_45 s_85 fk_X9_159 rfl rfl ?_
    exact wm_iret dX9_count_48 rfl ⟨rfl, rfl⟩ h hP
  · refine wp_aload_n dX9_count_49 rfl rfl ?_
    refine wm_getI dX9_count_50 s_85 fk_X9_166 rfl rfl ?_
    exact wm_iret dX9_count_53 rfl ⟨rfl, rfl⟩ h hP
  · refine wp_aload_n dX9_count_54 rfl rfl ?_
    refine wm_getI dX9_count_55 s_85 fk_X9_169 rfl rfl ?_
    exact wm_iret dX9_count_58 rfl ⟨rfl, rfl⟩ h hP
  · refine wp_aload_n dX9_count_59 rfl rfl ?_
    refine wm_getI dX9_count_60 s_85 fk_X9_227 rfl rfl ?_
    exact wm_iret dX9_count_63 rfl ⟨rfl, rfl⟩ h hP
  · refine wp_aload_n dX9_count_64 rfl rfl ?_
    refine wm_getI dX9_count_65 s_85 fk_X9_153 rfl rfl ?_
    exact wm_iret dX9_count_68 rfl ⟨rfl, rfl⟩ h hP
  · refine wp_aload_n dX9_count_69 rfl rfl ?_
    refine wm_getI dX9_count_70 s_85 fk_X9_444 rfl rfl ?_
    exact wm_iret dX9_count_73 rfl ⟨rfl, rfl⟩ h hP
  · refine wp_aload_n dX9_count_74 rfl rfl ?_
    refine wm_getI dX9_count_75 s_85 fk_X9_449 rfl rfl ?_
    exact wm_iret dX9_count_78 rfl ⟨rfl, rfl⟩ h hP
  · refine wp_iconst (-1 : Int32) dX9_count_79 ic_m1 rfl ?_
    exact wm_iret dX9_count_80 rfl ⟨rfl, rfl⟩ h hP
theorem o_X9_count {g : Gx}  {p1 : Int32} {m : Mem} {t : Int32 × Mem} (h : f_X9_count p1 m = some t) : MxM g 1 mi_X9_count [.ref 85, .int p1] m (qI t) := mx_of pn_X9 (Nat.le_of_ble_eq_true rfl) (k_X9_count_E h ⟨rfl, rfl, rfl, rfl, rfl⟩)
abbrev A_X9_decided_4 (g : Gx)  (Q : Qy) (s : Int32 × Int32 × Mem) : Prop := WpM g 3 mi_X9_decided 4 [some (.ref 85), some (.int s.1), some (.int s.2.1)] [] s.2.2 (zM g mi_X9_decided Q)
abbrev P_X9_decided_4 (g : Gx)  (Q : Qy) : ((Int32 × Int32 × Mem) ⊕ (Int32 × Mem)) → Prop := pS (A_X9_decided_4 g Q) (pI Q)
noncomputable def f_X9_decided_L4  (s : Int32 × Int32 × Mem) : Option ((Int32 × Int32 × Mem) ⊕ (Int32 × Mem)) := if (gI s.2.2 85 8) ≤ s.2.1 then up (some (s.1, s.2.2)) else (f_X9_comesTo s.2.1 s.2.2).bind (fun q1 => if q1.1 ≤ 0 then bnd (s.1 ||| (0 : Int32)) (fun y2 => bnd (s.2.1 + (1 : Int32)) (fun y3 => some (Sum.inl (y2, y3, q1.2)))) else bnd (s.1 ||| ((1 : Int32) <<< (s.2.1 &&& 31))) (fun y4 => bnd (s.2.1 + (1 : Int32)) (fun y5 => some (Sum.inl (y4, y5, q1.2)))))
theorem k_X9_decided_L4 {g : Gx}  {Q : Qy} {s : Int32 × Int32 × Mem} {t : (Int32 × Int32 × Mem) ⊕ (Int32 × Mem)} (h : f_X9_decided_L4 s = some t) (hP : P_X9_decided_4 g Q t) : A_X9_decided_4 g Q s := by
  refine wp_iload_n dX9_decided_4 rfl rfl ?_
  refine wp_aload_n dX9_decided_5 rfl rfl ?_
  refine wm_getI dX9_decided_6 s_85 fk_X9_166 rfl rfl ?_
  refine wm_icmp_ge 36 dX9_decided_9 rfl rfl h (fun h => ?_) (fun h => ?_)
  · refine wm_up h hP (fun r h hP => ?_)
    refine wp_iload_n dX9_decided_36 rfl rfl ?_
    exact wm_iret dX9_decided_37 rfl ⟨rfl, rfl⟩ h hP
  · refine wp_iload_n dX9_decided_12 rfl rfl ?_
    refine wp_aload_n dX9_decided_13 rfl rfl ?_
    refine wp_iload_n dX9_decided_14 rfl rfl ?_
    refine wm_callVI (As := [.int s.2.1]) (rest := [.int s.1]) dX9_decided_15 ok_X9_355 (by decide) rfl s_85 ⟨_, rfl⟩ (Nat.le_of_ble_eq_true rfl) ⟨rfl, rfl⟩ rfl (fun t h => o_X9_comesTo h) h (fun q1 h => ?_)
    refine wm_if_le 27 dX9_decided_18 rfl rfl h (fun h => ?_) (fun h => ?_)
    · refine wp_iconst (0 : Int32) dX9_decided_27 ic_0 rfl ?_
      refine wp_ior dX9_decided_28 rfl ?_
      refine wm_nm h (fun y2 h => ?_)
      refine wp_istore_n (L' := [some (.ref 85), some (.int y2), some (.int s.2.1)]) dX9_decided_29 (by decide) rfl rfl rfl ?_
      refine wm_inc dX9_decided_30 rfl ii_1 (by decide) rfl rfl h (fun y3 h => ?_)
      refine wm_list (L' := [some (.ref 85), some (.int y2), some (.int y3)]) rfl ?_
      refine wp_goto 4 dX9_decided_33 rfl ?_
      have hB := wm_back h hP
      exact wm_mask (L' := [some (.ref 85), some (.int y2), some (.int y3)]) [true, true, true] rfl (hB)
    · refine wp_iconst (1 : Int32) dX9_decided_21 ic_1 rfl ?_
      refine wp_iload_n dX9_decided_22 rfl rfl ?_
      refine wp_ishl dX9_decided_23 rfl ?_
      refine wp_goto 28 dX9_decided_24 rfl ?_
      refine wp_ior dX9_decided_28 rfl ?_
      refine wm_nm h (fun y4 h => ?_)
      refine wp_istore_n (L' := [some (.ref 85), some (.int y4), some (.int s.2.1)]) dX9_decided_29 (by decide) rfl rfl rfl ?_
      refine wm_inc dX9_decided_30 rfl ii_1 (by decide) rfl rfl h (fun y5 h => ?_)
      refine wm_list (L' := [some (.ref 85), some (.int y4), some (.int y5)]) rfl ?_
      refine wp_goto 4 dX9_decided_33 rfl ?_
      have hB := wm_back h hP
      exact wm_mask (L' := [some (.ref 85), some (.int y4), some (.int y5)]) [true, true, true] rfl (hB)
noncomputable def f_X9_decided   (m : Mem) : Option (Int32 × Mem) := wh (f_X9_decided_L4) ((0 : Int32), (0 : Int32), m)
theorem k_X9_decided_E {g : Gx}   {Q : Qy} {m : Mem} {t : Int32 × Mem} (h : f_X9_decided m = some t) (hP : pI Q t) : WpM g 3 mi_X9_decided 0 [some (.ref 85), none, none] [] m (zM g mi_X9_decided Q) := by
  refine wp_iconst (0 : Int32) dX9_decided_0 ic_0 rfl ?_
  refine wp_istore_n (L' := [some (.ref 85), some (.int (0 : Int32)), none]) dX9_decided_1 (by decide) rfl rfl rfl ?_
  refine wp_iconst (0 : Int32) dX9_decided_2 ic_0 rfl ?_
  refine wp_istore_n (L' := [some (.ref 85), some (.int (0 : Int32)), some (.int (0 : Int32))]) dX9_decided_3 (by decide) rfl rfl rfl ?_
  have hB := wh_ok (A := A_X9_decided_4 g Q) (B := pI Q) (fun s t h hP => k_X9_decided_L4  h hP) h hP
  exact wm_mask (L' := [some (.ref 85), some (.int (0 : Int32)), some (.int (0 : Int32))]) [true, true, true] rfl (hB)
theorem o_X9_decided {g : Gx}   {m : Mem} {t : Int32 × Mem} (h : f_X9_decided m = some t) : MxM g 3 mi_X9_decided [.ref 85] m (qI t) := mx_of pn_X9 (Nat.le_of_ble_eq_true rfl) (k_X9_decided_E h ⟨rfl, rfl, rfl, rfl, rfl⟩)
abbrev A_X9_did_53 (g : Gx)  (Q : Qy) (s : Int32 × Int32 × Int32 × Int32 × Int32 × Int32 × Mem) : Prop := WpM g 2 mi_X9_did 53 [some (.ref 85), some (.int s.1), some (.int s.2.1), some (.int s.2.2.1), some (.int s.2.2.2.1), some (.int s.2.2.2.2.1), some (.int s.2.2.2.2.2.1), none] [] s.2.2.2.2.2.2 (zM g mi_X9_did Q)
abbrev P_X9_did_53 (g : Gx)  (Q : Qy) : ((Int32 × Int32 × Int32 × Int32 × Int32 × Int32 × Mem) ⊕ (Int32 × Mem)) → Prop := pS (A_X9_did_53 g Q) (pI Q)
noncomputable def f_X9_did_J134  (v1 : Int32) (v2 : Int32) (v3 : Int32) (v4 : Int32) (v5 : Int32) (v6 : Int32) (t0 : Int32) (m : Mem) : Option ((Int32 × Int32 × Int32 × Int32 × Int32 × Int32 × Mem) ⊕ (Int32 × Mem)) := if t0 = 0 then bnd (v5 + (0 : Int32)) (fun y5 => bnd (v6 + (1 : Int32)) (fun y6 => some (Sum.inl (v1, v2, v3, v4, y5, y6, m)))) else ck v6 200 (ck (gI m 117 (ix v6)) 20 (if (gI m 121 (ix (gI m 117 (ix v6)))) < 0 then bnd (v5 + (0 : Int32)) (fun y7 => bnd (v6 + (1 : Int32)) (fun y8 => some (Sum.inl (v1, v2, v3, v4, y7, y8, m)))) else ck v6 200 (ck (gI m 117 (ix v6)) 20 (if (gI m 121 (ix (gI m 117 (ix v6)))) = v1 then bnd (v5 + (0 : Int32)) (fun y9 => bnd (v6 + (1 : Int32)) (fun y10 => some (Sum.inl (v1, v2, v3, v4, y9, y10, m)))) else bnd (v5 + (1 : Int32)) (fun y11 => bnd (v6 + (1 : Int32)) (fun y12 => some (Sum.inl (v1, v2, v3, v4, y11, y12, m))))))))
theorem k_X9_did_J134 {g : Gx}  {v1 : Int32} {v2 : Int32} {v3 : Int32} {v4 : Int32} {v5 : Int32} {v6 : Int32} {t0 : Int32}  {Q : Qy} {m : Mem} {t : (Int32 × Int32 × Int32 × Int32 × Int32 × Int32 × Mem) ⊕ (Int32 × Mem)} (h : f_X9_did_J134 v1 v2 v3 v4 v5 v6 t0 m = some t) (hP : P_X9_did_53 g Q t) : WpM g 2 mi_X9_did 134 [some (.ref 85), some (.int v1), some (.int v2), some (.int v3), some (.int v4), some (.int v5), some (.int v6), none] [.int t0] m (zM g mi_X9_did Q) := by
  refine wp_istore (L' := [some (.ref 85), some (.int v1), some (.int v2), some (.int v3), some (.int v4), some (.int v5), some (.int v6), some (.int t0)]) dX9_did_134 (by decide) rfl rfl rfl ?_
  refine wp_iload dX9_did_136 rfl rfl ?_
  refine wp_iload dX9_did_138 rfl rfl ?_
  refine wm_if_eq 178 dX9_did_140 rfl rfl h (fun h => ?_) (fun h => ?_)
  · refine wp_iconst (0 : Int32) dX9_did_178 ic_0 rfl ?_
    refine wp_iadd dX9_did_179 rfl ?_
    refine wm_nm h (fun y5 h => ?_)
    refine wp_istore (L' := [some (.ref 85), some (.int v1), some (.int v2), some (.int v3), some (.int v4), some (.int y5), some (.int v6), some (.int t0)]) dX9_did_180 (by decide) rfl rfl rfl ?_
    refine wm_inc dX9_did_182 rfl ii_1 (by decide) rfl rfl h (fun y6 h => ?_)
    refine wm_list (L' := [some (.ref 85), some (.int v1), some (.int v2), some (.int v3), some (.int v4), some (.int y5), some (.int y6), some (.int t0)]) rfl ?_
    refine wp_goto 53 dX9_did_185 rfl ?_
    have hB := wm_back h hP
    exact wm_mask (L' := [some (.ref 85), some (.int v1), some (.int v2), some (.int v3), some (.int v4), some (.int y5), some (.int y6), none]) [true, true, true, true, true, true, true, false] rfl (hB)
  · refine wp_aload_n dX9_did_143 rfl rfl ?_
    refine wm_getR dX9_did_144 s_85 fk_X9_115 rfl r_85_60 rfl ?_
    refine wp_aload_n dX9_did_147 rfl rfl ?_
    refine wm_getR dX9_did_148 s_85 fk_X9_103 rfl r_85_56 rfl ?_
    refine wp_iload dX9_did_151 rfl rfl ?_
    refine wm_iald dX9_did_153 s_117 rfl h (fun h => ?_)
    refine wm_iald dX9_did_154 s_121 rfl h (fun h => ?_)
    refine wm_if_lt 178 dX9_did_155 rfl rfl h (fun h => ?_) (fun h => ?_)
    · refine wp_iconst (0 : Int32) dX9_did_178 ic_0 rfl ?_
      refine wp_iadd dX9_did_179 rfl ?_
      refine wm_nm h (fun y7 h => ?_)
      refine wp_istore (L' := [some (.ref 85), some (.int v1), some (.int v2), some (.int v3), some (.int v4), some (.int y7), some (.int v6), some (.int t0)]) dX9_did_180 (by decide) rfl rfl rfl ?_
      refine wm_inc dX9_did_182 rfl ii_1 (by decide) rfl rfl h (fun y8 h => ?_)
      refine wm_list (L' := [some (.ref 85), some (.int v1), some (.int v2), some (.int v3), some (.int v4), some (.int y7), some (.int y8), some (.int t0)]) rfl ?_
      refine wp_goto 53 dX9_did_185 rfl ?_
      have hB := wm_back h hP
      exact wm_mask (L' := [some (.ref 85), some (.int v1), some (.int v2), some (.int v3), some (.int v4), some (.int y7), some (.int y8), none]) [true, true, true, true, true, true, true, false] rfl (hB)
    · refine wp_aload_n dX9_did_158 rfl rfl ?_
      refine wm_getR dX9_did_159 s_85 fk_X9_115 rfl r_85_60 rfl ?_
      refine wp_aload_n dX9_did_162 rfl rfl ?_
      refine wm_getR dX9_did_163 s_85 fk_X9_103 rfl r_85_56 rfl ?_
      refine wp_iload dX9_did_166 rfl rfl ?_
      refine wm_iald dX9_did_168 s_117 rfl h (fun h => ?_)
      refine wm_iald dX9_did_169 s_121 rfl h (fun h => ?_)
      refine wp_iload_n dX9_did_170 rfl rfl ?_
      refine wm_icmp_eq 178 dX9_did_171 rfl rfl h (fun h => ?_) (fun h => ?_)
      · refine wp_iconst (0 : Int32) dX9_did_178 ic_0 rfl ?_
        refine wp_iadd dX9_did_179 rfl ?_
        refine wm_nm h (fun y9 h => ?_)
        refine wp_istore (L' := [some (.ref 85), some (.int v1), some (.int v2), some (.int v3), some (.int v4), some (.int y9), some (.int v6), some (.int t0)]) dX9_did_180 (by decide) rfl rfl rfl ?_
        refine wm_inc dX9_did_182 rfl ii_1 (by decide) rfl rfl h (fun y10 h => ?_)
        refine wm_list (L' := [some (.ref 85), some (.int v1), some (.int v2), some (.int v3), some (.int v4), some (.int y9), some (.int y10), some (.int t0)]) rfl ?_
        refine wp_goto 53 dX9_did_185 rfl ?_
        have hB := wm_back h hP
        exact wm_mask (L' := [some (.ref 85), some (.int v1), some (.int v2), some (.int v3), some (.int v4), some (.int y9), some (.int y10), none]) [true, true, true, true, true, true, true, false] rfl (hB)
      · refine wp_iconst (1 : Int32) dX9_did_174 ic_1 rfl ?_
        refine wp_goto 179 dX9_did_175 rfl ?_
        refine wp_iadd dX9_did_179 rfl ?_
        refine wm_nm h (fun y11 h => ?_)
        refine wp_istore (L' := [some (.ref 85), some (.int v1), some (.int v2), some (.int v3), some (.int v4), some (.int y11), some (.int v6), some (.int t0)]) dX9_did_180 (by decide) rfl rfl rfl ?_
        refine wm_inc dX9_did_182 rfl ii_1 (by decide) rfl rfl h (fun y12 h => ?_)
        refine wm_list (L' := [some (.ref 85), some (.int v1), some (.int v2), some (.int v3), some (.int v4), some (.int y11), some (.int y12), some (.int t0)]) rfl ?_
        refine wp_goto 53 dX9_did_185 rfl ?_
        have hB := wm_back h hP
        exact wm_mask (L' := [some (.ref 85), some (.int v1), some (.int v2), some (.int v3), some (.int v4), some (.int y11), some (.int y12), none]) [true, true, true, true, true, true, true, false] rfl (hB)
noncomputable def f_X9_did_J133  (v1 : Int32) (v2 : Int32) (v3 : Int32) (v4 : Int32) (v5 : Int32) (v6 : Int32) (m : Mem) : Option ((Int32 × Int32 × Int32 × Int32 × Int32 × Int32 × Mem) ⊕ (Int32 × Mem)) := f_X9_did_J134 v1 v2 v3 v4 v5 v6 (0 : Int32) m
theorem k_X9_did_J133 {g : Gx}  {v1 : Int32} {v2 : Int32} {v3 : Int32} {v4 : Int32} {v5 : Int32} {v6 : Int32}  {Q : Qy} {m : Mem} {t : (Int32 × Int32 × Int32 × Int32 × Int32 × Int32 × Mem) ⊕ (Int32 × Mem)} (h : f_X9_did_J133 v1 v2 v3 v4 v5 v6 m = some t) (hP : P_X9_did_53 g Q t) : WpM g 2 mi_X9_did 133 [some (.ref 85), some (.int v1), some (.int v2), some (.int v3), some (.int v4), some (.int v5), some (.int v6), none] [] m (zM g mi_X9_did Q) := by
  refine wp_iconst (0 : Int32) dX9_did_133 ic_0 rfl ?_
  exact wm_mask (L' := [some (.ref 85), some (.int v1), some (.int v2), some (.int v3), some (.int v4), some (.int v5), some (.int v6), none]) [true, true, true, true, true, true, true, false] rfl (k_X9_did_J134  h hP)
noncomputable def f_X9_did_J105  (v1 : Int32) (v2 : Int32) (v3 : Int32) (v5 : Int32) (v6 : Int32) (t0 : Int32) (t1 : Int32) (m : Mem) : Option ((Int32 × Int32 × Int32 × Int32 × Int32 × Int32 × Mem) ⊕ (Int32 × Mem)) := bnd (t1 + t0) (fun y4 => ck v6 200 (if ¬ (gI m 112 (ix v6)) = v1 then f_X9_did_J133 v1 v2 v3 y4 v5 v6 m else ck v6 200 (if (gI m 117 (ix v6)) < 0 then f_X9_did_J133 v1 v2 v3 y4 v5 v6 m else f_X9_did_J134 v1 v2 v3 y4 v5 v6 (1 : Int32) m)))
theorem k_X9_did_J105 {g : Gx}  {v1 : Int32} {v2 : Int32} {v3 : Int32} {v5 : Int32} {v6 : Int32} {t0 : Int32} {t1 : Int32}  {Q : Qy} {m : Mem} {t : (Int32 × Int32 × Int32 × Int32 × Int32 × Int32 × Mem) ⊕ (Int32 × Mem)} (h : f_X9_did_J105 v1 v2 v3 v5 v6 t0 t1 m = some t) (hP : P_X9_did_53 g Q t) : WpM g 2 mi_X9_did 105 [some (.ref 85), some (.int v1), some (.int v2), some (.int v3), none, some (.int v5), some (.int v6), none] [.int t0, .int t1] m (zM g mi_X9_did Q) := by
  refine wp_iadd dX9_did_105 rfl ?_
  refine wm_nm h (fun y4 h => ?_)
  refine wp_istore (L' := [some (.ref 85), some (.int v1), some (.int v2), some (.int v3), some (.int y4), some (.int v5), some (.int v6), none]) dX9_did_106 (by decide) rfl rfl rfl ?_
  refine wp_aload_n dX9_did_108 rfl rfl ?_
  refine wm_getR dX9_did_109 s_85 fk_X9_88 rfl r_85_51 rfl ?_
  refine wp_iload dX9_did_112 rfl rfl ?_
  refine wm_iald dX9_did_114 s_112 rfl h (fun h => ?_)
  refine wp_iload_n dX9_did_115 rfl rfl ?_
  refine wm_icmp_ne 133 dX9_did_116 rfl rfl h (fun h => ?_) (fun h => ?_)
  · exact wm_mask (L' := [some (.ref 85), some (.int v1), some (.int v2), some (.int v3), some (.int y4), some (.int v5), some (.int v6), none]) [true, true, true, true, true, true, true, false] rfl (k_X9_did_J133  h hP)
  · refine wp_aload_n dX9_did_119 rfl rfl ?_
    refine wm_getR dX9_did_120 s_85 fk_X9_103 rfl r_85_56 rfl ?_
    refine wp_iload dX9_did_123 rfl rfl ?_
    refine wm_iald dX9_did_125 s_117 rfl h (fun h => ?_)
    refine wm_if_lt 133 dX9_did_126 rfl rfl h (fun h => ?_) (fun h => ?_)
    · exact wm_mask (L' := [some (.ref 85), some (.int v1), some (.int v2), some (.int v3), some (.int y4), some (.int v5), some (.int v6), none]) [true, true, true, true, true, true, true, false] rfl (k_X9_did_J133  h hP)
    · refine wp_iconst (1 : Int32) dX9_did_129 ic_1 rfl ?_
      refine wp_goto 134 dX9_did_130 rfl ?_
      exact wm_mask (L' := [some (.ref 85), some (.int v1), some (.int v2), some (.int v3), some (.int y4), some (.int v5), some (.int v6), none]) [true, true, true, true, true, true, true, false] rfl (k_X9_did_J134  h hP)
noncomputable def f_X9_did_J85  (v1 : Int32) (v2 : Int32) (v4 : Int32) (v5 : Int32) (v6 : Int32) (t0 : Int32) (t1 : Int32) (m : Mem) : Option ((Int32 × Int32 × Int32 × Int32 × Int32 × Int32 × Mem) ⊕ (Int32 × Mem)) := bnd (t1 + t0) (fun y3 => ck v6 200 (if ¬ (gI m 118 (ix v6)) = v1 then f_X9_did_J105 v1 v2 y3 v5 v6 (0 : Int32) v4 m else f_X9_did_J105 v1 v2 y3 v5 v6 (1 : Int32) v4 m))
theorem k_X9_did_J85 {g : Gx}  {v1 : Int32} {v2 : Int32} {v4 : Int32} {v5 : Int32} {v6 : Int32} {t0 : Int32} {t1 : Int32}  {Q : Qy} {m : Mem} {t : (Int32 × Int32 × Int32 × Int32 × Int32 × Int32 × Mem) ⊕ (Int32 × Mem)} (h : f_X9_did_J85 v1 v2 v4 v5 v6 t0 t1 m = some t) (hP : P_X9_did_53 g Q t) : WpM g 2 mi_X9_did 85 [some (.ref 85), some (.int v1), some (.int v2), none, some (.int v4), some (.int v5), some (.int v6), none] [.int t0, .int t1] m (zM g mi_X9_did Q) := by
  refine wp_iadd dX9_did_85 rfl ?_
  refine wm_nm h (fun y3 h => ?_)
  refine wp_istore_n (L' := [some (.ref 85), some (.int v1), some (.int v2), some (.int y3), some (.int v4), some (.int v5), some (.int v6), none]) dX9_did_86 (by decide) rfl rfl rfl ?_
  refine wp_iload dX9_did_87 rfl rfl ?_
  refine wp_aload_n dX9_did_89 rfl rfl ?_
  refine wm_getR dX9_did_90 s_85 fk_X9_106 rfl r_85_57 rfl ?_
  refine wp_iload dX9_did_93 rfl rfl ?_
  refine wm_iald dX9_did_95 s_118 rfl h (fun h => ?_)
  refine wp_iload_n dX9_did_96 rfl rfl ?_
  refine wm_icmp_ne 104 dX9_did_97 rfl rfl h (fun h => ?_) (fun h => ?_)
  · refine wp_iconst (0 : Int32) dX9_did_104 ic_0 rfl ?_
    exact wm_mask (L' := [some (.ref 85), some (.int v1), some (.int v2), some (.int y3), none, some (.int v5), some (.int v6), none]) [true, true, true, true, false, true, true, false] rfl (k_X9_did_J105  h hP)
  · refine wp_iconst (1 : Int32) dX9_did_100 ic_1 rfl ?_
    refine wp_goto 105 dX9_did_101 rfl ?_
    exact wm_mask (L' := [some (.ref 85), some (.int v1), some (.int v2), some (.int y3), none, some (.int v5), some (.int v6), none]) [true, true, true, true, false, true, true, false] rfl (k_X9_did_J105  h hP)
noncomputable def f_X9_did_L53  (s : Int32 × Int32 × Int32 × Int32 × Int32 × Int32 × Mem) : Option ((Int32 × Int32 × Int32 × Int32 × Int32 × Int32 × Mem) ⊕ (Int32 × Mem)) := if (gI s.2.2.2.2.2.2 85 46) ≤ s.2.2.2.2.2.1 then up (if ¬ s.2.1 = 0 then if ¬ s.2.1 = (1 : Int32) then if ¬ s.2.1 = (2 : Int32) then ck s.1 10 (some ((gI s.2.2.2.2.2.2 123 (ix s.1)), s.2.2.2.2.2.2)) else some (s.2.2.2.2.1, s.2.2.2.2.2.2) else some (s.2.2.2.1, s.2.2.2.2.2.2) else ck (0 : Int32) 10 (if ¬ (gI s.2.2.2.2.2.2 111 (ix (0 : Int32))) = 0 then ck (0 : Int32) 10 (dv (gI s.2.2.2.2.2.2 111 (ix (0 : Int32))) (some ((((1000 : Int32) * s.2.2.1) / (gI s.2.2.2.2.2.2 111 (ix (0 : Int32)))), s.2.2.2.2.2.2))) else some ((0 : Int32), s.2.2.2.2.2.2))) else ck s.2.2.2.2.2.1 200 (if ¬ (gI s.2.2.2.2.2.2 112 (ix s.2.2.2.2.2.1)) = s.1 then f_X9_did_J85 s.1 s.2.1 s.2.2.2.1 s.2.2.2.2.1 s.2.2.2.2.2.1 (0 : Int32) s.2.2.1 s.2.2.2.2.2.2 else ck s.2.2.2.2.2.1 200 (f_X9_did_J85 s.1 s.2.1 s.2.2.2.1 s.2.2.2.2.1 s.2.2.2.2.2.1 (gI s.2.2.2.2.2.2 115 (ix s.2.2.2.2.2.1)) s.2.2.1 s.2.2.2.2.2.2))
theorem k_X9_did_L53 {g : Gx}  {Q : Qy} {s : Int32 × Int32 × Int32 × Int32 × Int32 × Int32 × Mem} {t : (Int32 × Int32 × Int32 × Int32 × Int32 × Int32 × Mem) ⊕ (Int32 × Mem)} (h : f_X9_did_L53 s = some t) (hP : P_X9_did_53 g Q t) : A_X9_did_53 g Q s := by
  refine wp_iload dX9_did_53 rfl rfl ?_
  refine wp_aload_n dX9_did_55 rfl rfl ?_
  refine wm_getI dX9_did_56 s_85 fk_X9_150 rfl rfl ?_
  refine wm_icmp_ge 188 dX9_did_59 rfl rfl h (fun h => ?_) (fun h => ?_)
  · refine wm_up h hP (fun r h hP => ?_)
    refine wp_iload_n dX9_did_188 rfl rfl ?_
    refine wm_if_ne 220 dX9_did_189 rfl rfl h (fun h => ?_) (fun h => ?_)
    · refine wp_iload_n dX9_did_220 rfl rfl ?_
      refine wp_iconst (1 : Int32) dX9_did_221 ic_1 rfl ?_
      refine wm_icmp_ne 230 dX9_did_222 rfl rfl h (fun h => ?_) (fun h => ?_)
      · refine wp_iload_n dX9_did_230 rfl rfl ?_
        refine wp_iconst (2 : Int32) dX9_did_231 ic_2 rfl ?_
        refine wm_icmp_ne 240 dX9_did_232 rfl rfl h (fun h => ?_) (fun h => ?_)
        · refine wp_aload_n dX9_did_240 rfl rfl ?_
          refine wm_getR dX9_did_241 s_85 fk_X9_121 rfl r_85_62 rfl ?_
          refine wp_iload_n dX9_did_244 rfl rfl ?_
          refine wm_iald dX9_did_245 s_123 rfl h (fun h => ?_)
          exact wm_iret dX9_did_246 rfl ⟨rfl, rfl⟩ h hP
        · refine wp_iload dX9_did_235 rfl rfl ?_
          refine wp_goto 246 dX9_did_237 rfl ?_
          exact wm_iret dX9_did_246 rfl ⟨rfl, rfl⟩ h hP
      · refine wp_iload dX9_did_225 rfl rfl ?_
        refine wp_goto 246 dX9_did_227 rfl ?_
        exact wm_iret dX9_did_246 rfl ⟨rfl, rfl⟩ h hP
    · refine wp_aload_n dX9_did_192 rfl rfl ?_
      refine wm_getR dX9_did_193 s_85 fk_X9_85 rfl r_85_50 rfl ?_
      refine wp_iconst (0 : Int32) dX9_did_196 ic_0 rfl ?_
      refine wm_iald dX9_did_197 s_111 rfl h (fun h => ?_)
      refine wm_if_ne 205 dX9_did_198 rfl rfl h (fun h => ?_) (fun h => ?_)
      · refine wp_sipush (1000 : Int32) dX9_did_205 is_1000 rfl ?_
        refine wp_iload_n dX9_did_208 rfl rfl ?_
        refine wp_imul dX9_did_209 rfl ?_
        refine wp_aload_n dX9_did_210 rfl rfl ?_
        refine wm_getR dX9_did_211 s_85 fk_X9_85 rfl r_85_50 rfl ?_
        refine wp_iconst (0 : Int32) dX9_did_214 ic_0 rfl ?_
        refine wm_iald dX9_did_215 s_111 rfl h (fun h => ?_)
        refine wm_idiv dX9_did_216 rfl h (fun h => ?_)
        refine wp_goto 246 dX9_did_217 rfl ?_
        exact wm_iret dX9_did_246 rfl ⟨rfl, rfl⟩ h hP
      · refine wp_iconst (0 : Int32) dX9_did_201 ic_0 rfl ?_
        refine wp_goto 246 dX9_did_202 rfl ?_
        exact wm_iret dX9_did_246 rfl ⟨rfl, rfl⟩ h hP
  · refine wp_iload_n dX9_did_62 rfl rfl ?_
    refine wp_aload_n dX9_did_63 rfl rfl ?_
    refine wm_getR dX9_did_64 s_85 fk_X9_88 rfl r_85_51 rfl ?_
    refine wp_iload dX9_did_67 rfl rfl ?_
    refine wm_iald dX9_did_69 s_112 rfl h (fun h => ?_)
    refine wp_iload_n dX9_did_70 rfl rfl ?_
    refine wm_icmp_ne 84 dX9_did_71 rfl rfl h (fun h => ?_) (fun h => ?_)
    · refine wp_iconst (0 : Int32) dX9_did_84 ic_0 rfl ?_
      exact wm_mask (L' := [some (.ref 85), some (.int s.1), some (.int s.2.1), none, some (.int s.2.2.2.1), some (.int s.2.2.2.2.1), some (.int s.2.2.2.2.2.1), none]) [true, true, true, false, true, true, true, false] rfl (k_X9_did_J85  h hP)
    · refine wp_aload_n dX9_did_74 rfl rfl ?_
      refine wm_getR dX9_did_75 s_85 fk_X9_97 rfl r_85_54 rfl ?_
      refine wp_iload dX9_did_78 rfl rfl ?_
      refine wm_iald dX9_did_80 s_115 rfl h (fun h => ?_)
      refine wp_goto 85 dX9_did_81 rfl ?_
      exact wm_mask (L' := [some (.ref 85), some (.int s.1), some (.int s.2.1), none, some (.int s.2.2.2.1), some (.int s.2.2.2.2.1), some (.int s.2.2.2.2.2.1), none]) [true, true, true, false, true, true, true, false] rfl (k_X9_did_J85  h hP)
noncomputable def f_X9_did  (p1 : Int32) (p2 : Int32) (m : Mem) : Option (Int32 × Mem) := (f_X9_within p2.toInt64 (0 : Int64) (3 : Int64) m).bind (fun q1 => if ¬ q1.1 = 0 then if 0 ≤ (gI q1.2 85 46) then (f_X9_within p1.toInt64 (0 : Int64) ((gI q1.2 85 47) - (1 : Int32)).toInt64 q1.2).bind (fun q2 => if ¬ q2.1 = 0 then wh (f_X9_did_L53) (p1, p2, (0 : Int32), (0 : Int32), (0 : Int32), (0 : Int32), q2.2) else some ((-1 : Int32), q2.2)) else some ((-5 : Int32), q1.2) else some ((-1 : Int32), q1.2))
theorem k_X9_did_E {g : Gx}  {p1 : Int32} {p2 : Int32} {Q : Qy} {m : Mem} {t : Int32 × Mem} (h : f_X9_did p1 p2 m = some t) (hP : pI Q t) : WpM g 2 mi_X9_did 0 [some (.ref 85), some (.int p1), some (.int p2), none, none, none, none, none] [] m (zM g mi_X9_did Q) := by
  refine wp_iload_n dX9_did_0 rfl rfl ?_
  refine wp_i2l dX9_did_1 rfl ?_
  refine wp_lconst (0 : Int64) dX9_did_2 rfl rfl ?_
  refine wp_ldc2 dX9_did_3 q1668 rfl ?_
  refine wm_callSI (As := [.long p2.toInt64, .long (0 : Int64), .long (3 : Int64)]) (rest := []) dX9_did_6 ok_X9_162 (by decide) rfl (Nat.le_of_ble_eq_true rfl) ⟨rfl, rfl⟩ rfl (fun t h => o_X9_within h) h (fun q1 h => ?_)
  refine wm_if_ne 14 dX9_did_9 rfl rfl h (fun h => ?_) (fun h => ?_)
  · refine wp_aload_n dX9_did_14 rfl rfl ?_
    refine wm_getI dX9_did_15 s_85 fk_X9_150 rfl rfl ?_
    refine wm_if_ge 24 dX9_did_18 rfl rfl h (fun h => ?_) (fun h => ?_)
    · refine wp_iload_n dX9_did_24 rfl rfl ?_
      refine wp_i2l dX9_did_25 rfl ?_
      refine wp_lconst (0 : Int64) dX9_did_26 rfl rfl ?_
      refine wp_aload_n dX9_did_27 rfl rfl ?_
      refine wm_getI dX9_did_28 s_85 fk_X9_379 rfl rfl ?_
      refine wp_iconst (1 : Int32) dX9_did_31 ic_1 rfl ?_
      refine wp_isub dX9_did_32 rfl ?_
      refine wp_i2l dX9_did_33 rfl ?_
      refine wm_callSI (As := [.long p1.toInt64, .long (0 : Int64), .long ((gI q1.2 85 47) - (1 : Int32)).toInt64]) (rest := []) dX9_did_34 ok_X9_162 (by decide) rfl (Nat.le_of_ble_eq_true rfl) ⟨rfl, rfl⟩ rfl (fun t h => o_X9_within h) h (fun q2 h => ?_)
      refine wm_if_ne 42 dX9_did_37 rfl rfl h (fun h => ?_) (fun h => ?_)
      · refine wp_iconst (0 : Int32) dX9_did_42 ic_0 rfl ?_
        refine wp_istore_n (L' := [some (.ref 85), some (.int p1), some (.int p2), some (.int (0 : Int32)), none, none, none, none]) dX9_did_43 (by decide) rfl rfl rfl ?_
        refine wp_iconst (0 : Int32) dX9_did_44 ic_0 rfl ?_
        refine wp_istore (L' := [some (.ref 85), some (.int p1), some (.int p2), some (.int (0 : Int32)), some (.int (0 : Int32)), none, none, none]) dX9_did_45 (by decide) rfl rfl rfl ?_
        refine wp_iconst (0 : Int32) dX9_did_47 ic_0 rfl ?_
        refine wp_istore (L' := [some (.ref 85), some (.int p1), some (.int p2), some (.int (0 : Int32)), some (.int (0 : Int32)), some (.int (0 : Int32)), none, none]) dX9_did_48 (by decide) rfl rfl rfl ?_
        refine wp_iconst (0 : Int32) dX9_did_50 ic_0 rfl ?_
        refine wp_istore (L' := [some (.ref 85), some (.int p1), some (.int p2), some (.int (0 : Int32)), some (.int (0 : Int32)), some (.int (0 : Int32)), some (.int (0 : Int32)), none]) dX9_did_51 (by decide) rfl rfl rfl ?_
        have hB := wh_ok (A := A_X9_did_53 g Q) (B := pI Q) (fun s t h hP => k_X9_did_L53  h hP) h hP
        exact wm_mask (L' := [some (.ref 85), some (.int p1), some (.int p2), some (.int (0 : Int32)), some (.int (0 : Int32)), some (.int (0 : Int32)), some (.int (0 : Int32)), none]) [true, true, true, true, true, true, true, false] rfl (hB)
      · refine wp_iconst (-1 : Int32) dX9_did_40 ic_m1 rfl ?_
        exact wm_iret dX9_did_41 rfl ⟨rfl, rfl⟩ h hP
    · refine wp_bipush (-5 : Int32) dX9_did_21 ib_m5 rfl ?_
      exact wm_iret dX9_did_23 rfl ⟨rfl, rfl⟩ h hP
  · refine wp_iconst (-1 : Int32) dX9_did_12 ic_m1 rfl ?_
    exact wm_iret dX9_did_13 rfl ⟨rfl, rfl⟩ h hP
theorem o_X9_did {g : Gx}  {p1 : Int32} {p2 : Int32} {m : Mem} {t : Int32 × Mem} (h : f_X9_did p1 p2 m = some t) : MxM g 2 mi_X9_did [.ref 85, .int p1, .int p2] m (qI t) := mx_of pn_X9 (Nat.le_of_ble_eq_true rfl) (k_X9_did_E h ⟨rfl, rfl, rfl, rfl, rfl⟩)
abbrev A_X9_either_5 (g : Gx) (d0 : Nat) (Q : Qy) (s : Int32 × Mem) : Prop := WpM g (d0 + 6) mi_X9_either 5 [some (.ref 85), some (.int s.1), none] [] s.2 (zM g mi_X9_either Q)
abbrev P_X9_either_5 (g : Gx) (d0 : Nat) (Q : Qy) : ((Int32 × Mem) ⊕ (Int32 × Mem)) → Prop := pS (A_X9_either_5 g d0 Q) (pI Q)
noncomputable def f_X9_either_L5 (rc : Mem → Option (Int32 × Mem)) (s : Int32 × Mem) : Option ((Int32 × Mem) ⊕ (Int32 × Mem)) := (f_X9_takes (124 : Int32) s.2).bind (fun q2 => if q2.1 = 0 then up (some (s.1, q2.2)) else (f_X9_both rc q2.2).bind (fun q3 => if ¬ s.1 = 0 then some (Sum.inl ((1 : Int32), q3.2)) else if q3.1 = 0 then some (Sum.inl ((0 : Int32), q3.2)) else some (Sum.inl ((1 : Int32), q3.2))))
theorem k_X9_either_L5 {g : Gx} {d0 : Nat} {rc : Mem → Option (Int32 × Mem)} (hrc : ∀ m t, rc m = some t → MxM g d0 mi_X9_one [.ref 85] m (qI t)) {Q : Qy} {s : Int32 × Mem} {t : (Int32 × Mem) ⊕ (Int32 × Mem)} (h : f_X9_either_L5 rc s = some t) (hP : P_X9_either_5 g d0 Q t) : A_X9_either_5 g d0 Q s := by
  refine wp_aload_n dX9_either_5 rfl rfl ?_
  refine wp_bipush (124 : Int32) dX9_either_6 ib_124 rfl ?_
  refine wm_callVI (As := [.int (124 : Int32)]) (rest := []) dX9_either_8 ok_X9_249 (by omega) rfl s_85 ⟨_, rfl⟩ (Nat.le_of_ble_eq_true rfl) ⟨rfl, rfl⟩ rfl (fun t h => o_X9_takes h) h (fun q2 h => ?_)
  refine wm_if_eq 36 dX9_either_11 rfl rfl h (fun h => ?_) (fun h => ?_)
  · refine wm_up h hP (fun r h hP => ?_)
    refine wp_iload_n dX9_either_36 rfl rfl ?_
    exact wm_iret dX9_either_37 rfl ⟨rfl, rfl⟩ h hP
  · refine wp_aload_n dX9_either_14 rfl rfl ?_
    refine wm_callVI (As := []) (rest := []) dX9_either_15 ok_X9_246 (by omega) rfl s_85 ⟨_, rfl⟩ (Nat.le_of_ble_eq_true rfl) ⟨rfl, rfl⟩ rfl (fun t h => o_X9_both hrc h) h (fun q3 h => ?_)
    refine wp_istore_n (L' := [some (.ref 85), some (.int s.1), some (.int q3.1)]) dX9_either_18 (by decide) rfl rfl rfl ?_
    refine wp_iload_n dX9_either_19 rfl rfl ?_
    refine wm_if_ne 27 dX9_either_20 rfl rfl h (fun h => ?_) (fun h => ?_)
    · refine wp_iconst (1 : Int32) dX9_either_27 ic_1 rfl ?_
      refine wp_goto 32 dX9_either_28 rfl ?_
      refine wp_istore_n (L' := [some (.ref 85), some (.int (1 : Int32)), some (.int q3.1)]) dX9_either_32 (by decide) rfl rfl rfl ?_
      refine wp_goto 5 dX9_either_33 rfl ?_
      have hB := wm_back h hP
      exact wm_mask (L' := [some (.ref 85), some (.int (1 : Int32)), none]) [true, true, false] rfl (hB)
    · refine wp_iload_n dX9_either_23 rfl rfl ?_
      refine wm_if_eq 31 dX9_either_24 rfl rfl h (fun h => ?_) (fun h => ?_)
      · refine wp_iconst (0 : Int32) dX9_either_31 ic_0 rfl ?_
        refine wp_istore_n (L' := [some (.ref 85), some (.int (0 : Int32)), some (.int q3.1)]) dX9_either_32 (by decide) rfl rfl rfl ?_
        refine wp_goto 5 dX9_either_33 rfl ?_
        have hB := wm_back h hP
        exact wm_mask (L' := [some (.ref 85), some (.int (0 : Int32)), none]) [true, true, false] rfl (hB)
      · refine wp_iconst (1 : Int32) dX9_either_27 ic_1 rfl ?_
        refine wp_goto 32 dX9_either_28 rfl ?_
        refine wp_istore_n (L' := [some (.ref 85), some (.int (1 : Int32)), some (.int q3.1)]) dX9_either_32 (by decide) rfl rfl rfl ?_
        refine wp_goto 5 dX9_either_33 rfl ?_
        have hB := wm_back h hP
        exact wm_mask (L' := [some (.ref 85), some (.int (1 : Int32)), none]) [true, true, false] rfl (hB)
noncomputable def f_X9_either (rc : Mem → Option (Int32 × Mem))  (m : Mem) : Option (Int32 × Mem) := (f_X9_both rc m).bind (fun q1 => wh (f_X9_either_L5 rc) (q1.1, q1.2))
theorem k_X9_either_E {g : Gx} {d0 : Nat} {rc : Mem → Option (Int32 × Mem)} (hrc : ∀ m t, rc m = some t → MxM g d0 mi_X9_one [.ref 85] m (qI t))  {Q : Qy} {m : Mem} {t : Int32 × Mem} (h : f_X9_either rc m = some t) (hP : pI Q t) : WpM g (d0 + 6) mi_X9_either 0 [some (.ref 85), none, none] [] m (zM g mi_X9_either Q) := by
  refine wp_aload_n dX9_either_0 rfl rfl ?_
  refine wm_callVI (As := []) (rest := []) dX9_either_1 ok_X9_246 (by omega) rfl s_85 ⟨_, rfl⟩ (Nat.le_of_ble_eq_true rfl) ⟨rfl, rfl⟩ rfl (fun t h => o_X9_both hrc h) h (fun q1 h => ?_)
  refine wp_istore_n (L' := [some (.ref 85), some (.int q1.1), none]) dX9_either_4 (by decide) rfl rfl rfl ?_
  have hB := wh_ok (A := A_X9_either_5 g d0 Q) (B := pI Q) (fun s t h hP => k_X9_either_L5 hrc h hP) h hP
  exact wm_mask (L' := [some (.ref 85), some (.int q1.1), none]) [true, true, false] rfl (hB)
theorem o_X9_either {g : Gx} {d0 : Nat} {rc : Mem → Option (Int32 × Mem)} (hrc : ∀ m t, rc m = some t → MxM g d0 mi_X9_one [.ref 85] m (qI t))  {m : Mem} {t : Int32 × Mem} (h : f_X9_either rc m = some t) : MxM g (d0 + 6) mi_X9_either [.ref 85] m (qI t) := mx_of pn_X9 (Nat.le_of_ble_eq_true rfl) (k_X9_either_E hrc h ⟨rfl, rfl, rfl, rfl, rfl⟩)
noncomputable def f_X9_refusal  (p1 : Int32) (p2 : Int32) (m : Mem) : Option (Int32 × Mem) := (f_X9_isShelf p1 m).bind (fun q1 => if ¬ q1.1 = 0 then ck p1 6 (if 0 ≤ (gI q1.2 126 (ix p1)) then ck p1 6 (if (50 : Int32) ≤ (gI q1.2 126 (ix p1)) then if p2 < 0 then some ((-13 : Int32), q1.2) else ck p1 6 (if (gI q1.2 127 (ix p1)) ≤ p2 then some ((-13 : Int32), q1.2) else some ((0 : Int32), q1.2)) else some ((-12 : Int32), q1.2)) else some ((-11 : Int32), q1.2)) else some ((-1 : Int32), q1.2))
theorem k_X9_refusal_E {g : Gx}  {p1 : Int32} {p2 : Int32} {Q : Qy} {m : Mem} {t : Int32 × Mem} (h : f_X9_refusal p1 p2 m = some t) (hP : pI Q t) : WpM g 3 mi_X9_refusal 0 [some (.ref 85), some (.int p1), some (.int p2)] [] m (zM g mi_X9_refusal Q) := by
  refine wp_iload_n dX9_refusal_0 rfl rfl ?_
  refine wm_callSI (As := [.int p1]) (rest := []) dX9_refusal_1 ok_X9_198 (by decide) rfl (Nat.le_of_ble_eq_true rfl) ⟨rfl, rfl⟩ rfl (fun t h => o_X9_isShelf h) h (fun q1 h => ?_)
  refine wm_if_ne 9 dX9_refusal_4 rfl rfl h (fun h => ?_) (fun h => ?_)
  · refine wp_aload_n dX9_refusal_9 rfl rfl ?_
    refine wm_getR dX9_refusal_10 s_85 fk_X9_130 rfl r_85_72 rfl ?_
    refine wp_iload_n dX9_refusal_13 rfl rfl ?_
    refine wm_iald dX9_refusal_14 s_126 rfl h (fun h => ?_)
    refine wm_if_ge 21 dX9_refusal_15 rfl rfl h (fun h => ?_) (fun h => ?_)
    · refine wp_aload_n dX9_refusal_21 rfl rfl ?_
      refine wm_getR dX9_refusal_22 s_85 fk_X9_130 rfl r_85_72 rfl ?_
      refine wp_iload_n dX9_refusal_25 rfl rfl ?_
      refine wm_iald dX9_refusal_26 s_126 rfl h (fun h => ?_)
      refine wp_bipush (50 : Int32) dX9_refusal_27 ib_50 rfl ?_
      refine wm_icmp_ge 35 dX9_refusal_29 rfl rfl h (fun h => ?_) (fun h => ?_)
      · refine wp_iload_n dX9_refusal_35 rfl rfl ?_
        refine wm_if_lt 53 dX9_refusal_36 rfl rfl h (fun h => ?_) (fun h => ?_)
        · refine wp_bipush (-13 : Int32) dX9_refusal_53 ib_m13 rfl ?_
          exact wm_iret dX9_refusal_55 rfl ⟨rfl, rfl⟩ h hP
        · refine wp_iload_n dX9_refusal_39 rfl rfl ?_
          refine wp_aload_n dX9_refusal_40 rfl rfl ?_
          refine wm_getR dX9_refusal_41 s_85 fk_X9_133 rfl r_85_73 rfl ?_
          refine wp_iload_n dX9_refusal_44 rfl rfl ?_
          refine wm_iald dX9_refusal_45 s_127 rfl h (fun h => ?_)
          refine wm_icmp_ge 53 dX9_refusal_46 rfl rfl h (fun h => ?_) (fun h => ?_)
          · refine wp_bipush (-13 : Int32) dX9_refusal_53 ib_m13 rfl ?_
            exact wm_iret dX9_refusal_55 rfl ⟨rfl, rfl⟩ h hP
          · refine wp_iconst (0 : Int32) dX9_refusal_49 ic_0 rfl ?_
            refine wp_goto 55 dX9_refusal_50 rfl ?_
            exact wm_iret dX9_refusal_55 rfl ⟨rfl, rfl⟩ h hP
      · refine wp_bipush (-12 : Int32) dX9_refusal_32 ib_m12 rfl ?_
        exact wm_iret dX9_refusal_34 rfl ⟨rfl, rfl⟩ h hP
    · refine wp_bipush (-11 : Int32) dX9_refusal_18 ib_m11 rfl ?_
      exact wm_iret dX9_refusal_20 rfl ⟨rfl, rfl⟩ h hP
  · refine wp_iconst (-1 : Int32) dX9_refusal_7 ic_m1 rfl ?_
    exact wm_iret dX9_refusal_8 rfl ⟨rfl, rfl⟩ h hP
theorem o_X9_refusal {g : Gx}  {p1 : Int32} {p2 : Int32} {m : Mem} {t : Int32 × Mem} (h : f_X9_refusal p1 p2 m = some t) : MxM g 3 mi_X9_refusal [.ref 85, .int p1, .int p2] m (qI t) := mx_of pn_X9 (Nat.le_of_ble_eq_true rfl) (k_X9_refusal_E h ⟨rfl, rfl, rfl, rfl, rfl⟩)
noncomputable def f_X9_element  (p1 : Int32) (p2 : Int32) (m : Mem) : Option (Int64 × Mem) := (f_X9_refusal p1 p2 m).bind (fun q1 => if q1.1 = 0 then ck (((60 : Int32) * p1) + p2) 360 (some ((gJ q1.2 128 (ix (((60 : Int32) * p1) + p2))), q1.2)) else some ((-9223372036854775808 : Int64), q1.2))
theorem k_X9_element_E {g : Gx}  {p1 : Int32} {p2 : Int32} {Q : Qy} {m : Mem} {t : Int64 × Mem} (h : f_X9_element p1 p2 m = some t) (hP : pL Q t) : WpM g 4 mi_X9_element 0 [some (.ref 85), some (.int p1), some (.int p2)] [] m (zM g mi_X9_element Q) := by
  refine wp_aload_n dX9_element_0 rfl rfl ?_
  refine wp_iload_n dX9_element_1 rfl rfl ?_
  refine wp_iload_n dX9_element_2 rfl rfl ?_
  refine wm_callVI (As := [.int p1, .int p2]) (rest := []) dX9_element_3 ok_X9_478 (by decide) rfl s_85 ⟨_, rfl⟩ (Nat.le_of_ble_eq_true rfl) ⟨rfl, rfl⟩ rfl (fun t h => o_X9_refusal h) h (fun q1 h => ?_)
  refine wm_if_eq 15 dX9_element_6 rfl rfl h (fun h => ?_) (fun h => ?_)
  · refine wp_aload_n dX9_element_15 rfl rfl ?_
    refine wm_getR dX9_element_16 s_85 fk_X9_136 rfl r_85_74 rfl ?_
    refine wp_bipush (60 : Int32) dX9_element_19 ib_60 rfl ?_
    refine wp_iload_n dX9_element_21 rfl rfl ?_
    refine wp_imul dX9_element_22 rfl ?_
    refine wp_iload_n dX9_element_23 rfl rfl ?_
    refine wp_iadd dX9_element_24 rfl ?_
    refine wm_lald dX9_element_25 s_128 rfl h (fun h => ?_)
    exact wm_lret dX9_element_26 rfl ⟨rfl, rfl⟩ h hP
  · refine wp_ldc2 dX9_element_9 q1771 rfl ?_
    refine wp_goto 26 dX9_element_12 rfl ?_
    exact wm_lret dX9_element_26 rfl ⟨rfl, rfl⟩ h hP
theorem o_X9_element {g : Gx}  {p1 : Int32} {p2 : Int32} {m : Mem} {t : Int64 × Mem} (h : f_X9_element p1 p2 m = some t) : MxM g 4 mi_X9_element [.ref 85, .int p1, .int p2] m (qL t) := mx_of pn_X9 (Nat.le_of_ble_eq_true rfl) (k_X9_element_E h ⟨rfl, rfl, rfl, rfl, rfl⟩)
noncomputable def f_X9_feed  (p1 : Int32) (m : Mem) : Option (Int32 × Mem) := (f_X9_within p1.toInt64 (0 : Int64) (255 : Int64) m).bind (fun q1 => if ¬ q1.1 = 0 then if ¬ (gI q1.2 85 17) = (120 : Int32) then ck (gI q1.2 85 17) 120 (bnd (sI q1.2 94 (ix (gI q1.2 85 17)) p1) (fun m2 => bnd (sI m2 85 17 ((gI m2 85 17) + (1 : Int32))) (fun m3 => some ((gI m3 85 17), m3)))) else some ((-3 : Int32), q1.2) else some ((-1 : Int32), q1.2))
theorem k_X9_feed_E {g : Gx}  {p1 : Int32} {Q : Qy} {m : Mem} {t : Int32 × Mem} (h : f_X9_feed p1 m = some t) (hP : pI Q t) : WpM g 2 mi_X9_feed 0 [some (.ref 85), some (.int p1)] [] m (zM g mi_X9_feed Q) := by
  refine wp_iload_n dX9_feed_0 rfl rfl ?_
  refine wp_i2l dX9_feed_1 rfl ?_
  refine wp_lconst (0 : Int64) dX9_feed_2 rfl rfl ?_
  refine wp_ldc2 dX9_feed_3 q1465 rfl ?_
  refine wm_callSI (As := [.long p1.toInt64, .long (0 : Int64), .long (255 : Int64)]) (rest := []) dX9_feed_6 ok_X9_162 (by decide) rfl (Nat.le_of_ble_eq_true rfl) ⟨rfl, rfl⟩ rfl (fun t h => o_X9_within h) h (fun q1 h => ?_)
  refine wm_if_ne 14 dX9_feed_9 rfl rfl h (fun h => ?_) (fun h => ?_)
  · refine wp_aload_n dX9_feed_14 rfl rfl ?_
    refine wm_getI dX9_feed_15 s_85 fk_X9_227 rfl rfl ?_
    refine wp_bipush (120 : Int32) dX9_feed_18 ib_120 rfl ?_
    refine wm_icmp_ne 26 dX9_feed_20 rfl rfl h (fun h => ?_) (fun h => ?_)
    · refine wp_aload_n dX9_feed_26 rfl rfl ?_
      refine wm_getR dX9_feed_27 s_85 fk_X9_34 rfl r_85_16 rfl ?_
      refine wp_aload_n dX9_feed_30 rfl rfl ?_
      refine wm_getI dX9_feed_31 s_85 fk_X9_227 rfl rfl ?_
      refine wp_iload_n dX9_feed_34 rfl rfl ?_
      refine wm_iast dX9_feed_35 s_94 rfl h (fun m2 h => ?_)
      refine wp_aload_n dX9_feed_36 rfl rfl ?_
      refine wp_dup dX9_feed_37 rfl rfl ?_
      refine wm_getI dX9_feed_38 s_85 fk_X9_227 rfl rfl ?_
      refine wp_iconst (1 : Int32) dX9_feed_41 ic_1 rfl ?_
      refine wp_iadd dX9_feed_42 rfl ?_
      refine wm_putI dX9_feed_43 s_85 fk_X9_227 rfl rfl h (fun m3 h => ?_)
      refine wp_aload_n dX9_feed_46 rfl rfl ?_
      refine wm_getI dX9_feed_47 s_85 fk_X9_227 rfl rfl ?_
      exact wm_iret dX9_feed_50 rfl ⟨rfl, rfl⟩ h hP
    · refine wp_bipush (-3 : Int32) dX9_feed_23 ib_m3 rfl ?_
      exact wm_iret dX9_feed_25 rfl ⟨rfl, rfl⟩ h hP
  · refine wp_iconst (-1 : Int32) dX9_feed_12 ic_m1 rfl ?_
    exact wm_iret dX9_feed_13 rfl ⟨rfl, rfl⟩ h hP
theorem o_X9_feed {g : Gx}  {p1 : Int32} {m : Mem} {t : Int32 × Mem} (h : f_X9_feed p1 m = some t) : MxM g 2 mi_X9_feed [.ref 85, .int p1] m (qI t) := mx_of pn_X9 (Nat.le_of_ble_eq_true rfl) (k_X9_feed_E h ⟨rfl, rfl, rfl, rfl, rfl⟩)
noncomputable def f_X9_isTable   (m : Mem) : Option (Int32 × Mem) := if (gI m 85 6) ≤ 0 then bz (0 : Int32) (some ((0 : Int32), m)) else if (gI m 85 8) ≤ 0 then bz (0 : Int32) (some ((0 : Int32), m)) else bz (1 : Int32) (some ((1 : Int32), m))
theorem k_X9_isTable_E {g : Gx}   {Q : Qy} {m : Mem} {t : Int32 × Mem} (h : f_X9_isTable m = some t) (hP : pI Q t) : WpM g 1 mi_X9_isTable 0 [some (.ref 85)] [] m (zM g mi_X9_isTable Q) := by
  refine wp_aload_n dX9_isTable_0 rfl rfl ?_
  refine wm_getI dX9_isTable_1 s_85 fk_X9_159 rfl rfl ?_
  refine wm_if_le 18 dX9_isTable_4 rfl rfl h (fun h => ?_) (fun h => ?_)
  · refine wp_iconst (0 : Int32) dX9_isTable_18 ic_0 rfl ?_
    exact wm_zret dX9_isTable_19 rfl ⟨rfl, rfl⟩ h hP
  · refine wp_aload_n dX9_isTable_7 rfl rfl ?_
    refine wm_getI dX9_isTable_8 s_85 fk_X9_166 rfl rfl ?_
    refine wm_if_le 18 dX9_isTable_11 rfl rfl h (fun h => ?_) (fun h => ?_)
    · refine wp_iconst (0 : Int32) dX9_isTable_18 ic_0 rfl ?_
      exact wm_zret dX9_isTable_19 rfl ⟨rfl, rfl⟩ h hP
    · refine wp_iconst (1 : Int32) dX9_isTable_14 ic_1 rfl ?_
      refine wp_goto 19 dX9_isTable_15 rfl ?_
      exact wm_zret dX9_isTable_19 rfl ⟨rfl, rfl⟩ h hP
theorem o_X9_isTable {g : Gx}   {m : Mem} {t : Int32 × Mem} (h : f_X9_isTable m = some t) : MxM g 1 mi_X9_isTable [.ref 85] m (qI t) := mx_of pn_X9 (Nat.le_of_ble_eq_true rfl) (k_X9_isTable_E h ⟨rfl, rfl, rfl, rfl, rfl⟩)
abbrev A_X9_plain_23 (g : Gx)  (Q : Qy) (s : Int32 × Mem) : Prop := WpM g 1 mi_X9_plain 23 [some (.ref 85), some (.int s.1)] [] s.2 (zM g mi_X9_plain Q)
abbrev P_X9_plain_23 (g : Gx)  (Q : Qy) : ((Int32 × Mem) ⊕ Mem) → Prop := pS (A_X9_plain_23 g Q) (pV Q)
noncomputable def f_X9_plain_L23  (s : Int32 × Mem) : Option ((Int32 × Mem) ⊕ Mem) := if (gI s.2 85 8) ≤ s.1 then up (some s.2) else ck s.1 6 (bnd (sI s.2 103 (ix s.1) s.1) (fun m4 => bnd (s.1 + (1 : Int32)) (fun y5 => some (Sum.inl (y5, m4)))))
theorem k_X9_plain_L23 {g : Gx}  {Q : Qy} {s : Int32 × Mem} {t : (Int32 × Mem) ⊕ Mem} (h : f_X9_plain_L23 s = some t) (hP : P_X9_plain_23 g Q t) : A_X9_plain_23 g Q s := by
  refine wp_iload_n dX9_plain_23 rfl rfl ?_
  refine wp_aload_n dX9_plain_24 rfl rfl ?_
  refine wm_getI dX9_plain_25 s_85 fk_X9_166 rfl rfl ?_
  refine wm_icmp_ge 44 dX9_plain_28 rfl rfl h (fun h => ?_) (fun h => ?_)
  · refine wm_up h hP (fun r h hP => ?_)
    exact wm_vret dX9_plain_44 rfl ⟨rfl, rfl⟩ h hP
  · refine wp_aload_n dX9_plain_31 rfl rfl ?_
    refine wm_getR dX9_plain_32 s_85 fk_X9_61 rfl r_85_38 rfl ?_
    refine wp_iload_n dX9_plain_35 rfl rfl ?_
    refine wp_iload_n dX9_plain_36 rfl rfl ?_
    refine wm_iast dX9_plain_37 s_103 rfl h (fun m4 h => ?_)
    refine wm_inc dX9_plain_38 rfl ii_1 (by decide) rfl rfl h (fun y5 h => ?_)
    refine wm_list (L' := [some (.ref 85), some (.int y5)]) rfl ?_
    refine wp_goto 23 dX9_plain_41 rfl ?_
    have hB := wm_back h hP
    exact wm_mask (L' := [some (.ref 85), some (.int y5)]) [true, true] rfl (hB)
noncomputable def f_X9_plain   (m : Mem) : Option Mem := bnd (sI m 85 26 (gI m 85 13)) (fun m1 => bnd (sI m1 85 27 (gI m1 85 15)) (fun m2 => bnd (sI m2 85 28 (-1 : Int32)) (fun m3 => wh (f_X9_plain_L23) ((0 : Int32), m3))))
theorem k_X9_plain_E {g : Gx}   {Q : Qy} {m : Mem} {t : Mem} (h : f_X9_plain m = some t) (hP : pV Q t) : WpM g 1 mi_X9_plain 0 [some (.ref 85), none] [] m (zM g mi_X9_plain Q) := by
  refine wp_aload_n dX9_plain_0 rfl rfl ?_
  refine wp_aload_n dX9_plain_1 rfl rfl ?_
  refine wm_getI dX9_plain_2 s_85 fk_X9_205 rfl rfl ?_
  refine wm_putI dX9_plain_5 s_85 fk_X9_280 rfl rfl h (fun m1 h => ?_)
  refine wp_aload_n dX9_plain_8 rfl rfl ?_
  refine wp_aload_n dX9_plain_9 rfl rfl ?_
  refine wm_getI dX9_plain_10 s_85 fk_X9_147 rfl rfl ?_
  refine wm_putI dX9_plain_13 s_85 fk_X9_283 rfl rfl h (fun m2 h => ?_)
  refine wp_aload_n dX9_plain_16 rfl rfl ?_
  refine wp_iconst (-1 : Int32) dX9_plain_17 ic_m1 rfl ?_
  refine wm_putI dX9_plain_18 s_85 fk_X9_286 rfl rfl h (fun m3 h => ?_)
  refine wp_iconst (0 : Int32) dX9_plain_21 ic_0 rfl ?_
  refine wp_istore_n (L' := [some (.ref 85), some (.int (0 : Int32))]) dX9_plain_22 (by decide) rfl rfl rfl ?_
  have hB := wh_ok (A := A_X9_plain_23 g Q) (B := pV Q) (fun s t h hP => k_X9_plain_L23  h hP) h hP
  exact wm_mask (L' := [some (.ref 85), some (.int (0 : Int32))]) [true, true] rfl (hB)
theorem o_X9_plain {g : Gx}   {m : Mem} {t : Mem} (h : f_X9_plain m = some t) : MxM g 1 mi_X9_plain [.ref 85] m (qV t) := mx_of pn_X9 (Nat.le_of_ble_eq_true rfl) (k_X9_plain_E h ⟨rfl, rfl, rfl, rfl, rfl⟩)
