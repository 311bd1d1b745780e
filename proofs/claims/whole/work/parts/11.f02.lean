abbrev A_X3_weigh_2 (g : Gx) (a : Nat) (Q : Qy) (s : Int32 × Int32 × Mem) : Prop := WpM g 3 mi_X3_weigh 2 [some (.ref a), some (.int s.1), some (.int s.2.1)] [] s.2.2 (zM g mi_X3_weigh Q)
abbrev P_X3_weigh_2 (g : Gx) (a : Nat) (Q : Qy) : ((Int32 × Int32 × Mem) ⊕ Mem) → Prop := pS (A_X3_weigh_2 g a Q) (pV Q)
noncomputable def f_X3_weigh_L2 (a : Nat) (s : Int32 × Int32 × Mem) : Option ((Int32 × Int32 × Mem) ⊕ Mem) := if (gI s.2.2 1 13) ≤ s.2.1 then up (some s.2.2) else (f_X3_isThere a s.2.1 s.2.2).bind (fun q1 => if q1.1 = 0 then ck s.2.1 10 (bnd (sI q1.2 (a + 9) (ix s.2.1) (0 : Int32)) (fun m2 => bnd (s.2.1 + (1 : Int32)) (fun y3 => some (Sum.inl (s.1, y3, m2))))) else (f_X3_namesOf a s.2.1 s.1 q1.2).bind (fun q4 => (f_X2_value (a + 8) q4).bind (fun q5 => ck s.2.1 10 (bnd (sI q5.2 (a + 9) (ix s.2.1) q5.1) (fun m6 => bnd (s.2.1 + (1 : Int32)) (fun y7 => some (Sum.inl (s.1, y7, m6))))))))
theorem k_X3_weigh_L2 {g : Gx} {a : Nat} (ha : MA a) {Q : Qy} {s : Int32 × Int32 × Mem} {t : (Int32 × Int32 × Mem) ⊕ Mem} (h : f_X3_weigh_L2 a s = some t) (hP : P_X3_weigh_2 g a Q t) : A_X3_weigh_2 g a Q s := by
  refine wp_iload_n dX3_weigh_2 rfl rfl ?_
  refine wp_aload_n dX3_weigh_3 rfl rfl ?_
  refine wm_getR dX3_weigh_4 (sM_0 ha) fk_X3_47 rfl (rM_10 ha) rfl ?_
  refine wm_getI dX3_weigh_7 s_1 fk_X3_108 rfl rfl ?_
  refine wm_icmp_ge 53 dX3_weigh_10 rfl rfl h (fun h => ?_) (fun h => ?_)
  · refine wm_up h hP (fun r h hP => ?_)
    exact wm_vret dX3_weigh_53 rfl ⟨rfl, rfl⟩ h hP
  · refine wp_aload_n dX3_weigh_13 rfl rfl ?_
    refine wm_getR dX3_weigh_14 (sM_0 ha) fk_X3_38 rfl (rM_12 ha) rfl ?_
    refine wp_iload_n dX3_weigh_17 rfl rfl ?_
    refine wp_aload_n dX3_weigh_18 rfl rfl ?_
    refine wp_iload_n dX3_weigh_19 rfl rfl ?_
    refine wm_callVI (As := [.int s.2.1]) (rest := [.int s.2.1, .ref (a + 9)]) dX3_weigh_20 ok_X3_111 (by decide) rfl (sM_0 ha) ⟨_, rfl⟩ (Nat.le_of_ble_eq_true rfl) ⟨rfl, rfl⟩ rfl (fun t h => o_X3_isThere ha h) h (fun q1 h => ?_)
    refine wm_if_eq 45 dX3_weigh_23 rfl rfl h (fun h => ?_) (fun h => ?_)
    · refine wp_iconst (0 : Int32) dX3_weigh_45 ic_0 rfl ?_
      refine wm_iast dX3_weigh_46 (sM_9 ha) rfl h (fun m2 h => ?_)
      refine wm_inc dX3_weigh_47 rfl ii_1 (by decide) rfl rfl h (fun y3 h => ?_)
      refine wm_list (L' := [some (.ref a), some (.int s.1), some (.int y3)]) rfl ?_
      refine wp_goto 2 dX3_weigh_50 rfl ?_
      have hB := wm_back h hP
      exact wm_mask (L' := [some (.ref a), some (.int s.1), some (.int y3)]) [true, true, true] rfl (hB)
    · refine wp_aload_n dX3_weigh_26 rfl rfl ?_
      refine wm_getR dX3_weigh_27 (sM_0 ha) fk_X3_47 rfl (rM_10 ha) rfl ?_
      refine wm_getR dX3_weigh_30 s_1 fk_X3_131 rfl r_1_12 rfl ?_
      refine wp_aload_n dX3_weigh_33 rfl rfl ?_
      refine wp_iload_n dX3_weigh_34 rfl rfl ?_
      refine wp_iload_n dX3_weigh_35 rfl rfl ?_
      refine wm_callVK (As := [.int s.2.1, .int s.1]) (rest := [.ref 14, .int s.2.1, .ref (a + 9)]) dX3_weigh_36 ok_X3_135 (by decide) rfl (sM_0 ha) ⟨_, rfl⟩ (Nat.le_of_ble_eq_true rfl) ⟨rfl, rfl⟩ rfl (fun t h => o_X3_namesOf ha h) h (fun q4 h => ?_)
      refine wm_callVI (As := [.ref (a + 8)]) (rest := [.int s.2.1, .ref (a + 9)]) dX3_weigh_39 ok_X3_139 (by decide) rfl s_14 ⟨_, rfl⟩ (Nat.le_of_ble_eq_true rfl) ⟨rfl, rfl⟩ rfl (fun t h => o_X2_value (sM_8 ha) h) h (fun q5 h => ?_)
      refine wp_goto 46 dX3_weigh_42 rfl ?_
      refine wm_iast dX3_weigh_46 (sM_9 ha) rfl h (fun m6 h => ?_)
      refine wm_inc dX3_weigh_47 rfl ii_1 (by decide) rfl rfl h (fun y7 h => ?_)
      refine wm_list (L' := [some (.ref a), some (.int s.1), some (.int y7)]) rfl ?_
      refine wp_goto 2 dX3_weigh_50 rfl ?_
      have hB := wm_back h hP
      exact wm_mask (L' := [some (.ref a), some (.int s.1), some (.int y7)]) [true, true, true] rfl (hB)
noncomputable def f_X3_weigh (a : Nat) (p1 : Int32) (m : Mem) : Option Mem := wh (f_X3_weigh_L2 a) (p1, (0 : Int32), m)
theorem k_X3_weigh_E {g : Gx} {a : Nat} (ha : MA a) {p1 : Int32} {Q : Qy} {m : Mem} {t : Mem} (h : f_X3_weigh a p1 m = some t) (hP : pV Q t) : WpM g 3 mi_X3_weigh 0 [some (.ref a), some (.int p1), none] [] m (zM g mi_X3_weigh Q) := by
  refine wp_iconst (0 : Int32) dX3_weigh_0 ic_0 rfl ?_
  refine wp_istore_n (L' := [some (.ref a), some (.int p1), some (.int (0 : Int32))]) dX3_weigh_1 (by decide) rfl rfl rfl ?_
  have hB := wh_ok (A := A_X3_weigh_2 g a Q) (B := pV Q) (fun s t h hP => k_X3_weigh_L2 ha h hP) h hP
  exact wm_mask (L' := [some (.ref a), some (.int p1), some (.int (0 : Int32))]) [true, true, true] rfl (hB)
theorem o_X3_weigh {g : Gx} {a : Nat} (ha : MA a) {p1 : Int32} {m : Mem} {t : Mem} (h : f_X3_weigh a p1 m = some t) : MxM g 3 mi_X3_weigh [.ref a, .int p1] m (qV t) := mx_of pn_X3 (Nat.le_of_ble_eq_true rfl) (k_X3_weigh_E ha h ⟨rfl, rfl, rfl, rfl, rfl⟩)
abbrev A_X3_whoSpokeLeast_4 (g : Gx) (a : Nat) (Q : Qy) (s : Int32 × Int32 × Mem) : Prop := WpM g 1 mi_X3_whoSpokeLeast 4 [some (.ref a), some (.int s.1), some (.int s.2.1)] [] s.2.2 (zM g mi_X3_whoSpokeLeast Q)
abbrev P_X3_whoSpokeLeast_4 (g : Gx) (a : Nat) (Q : Qy) : ((Int32 × Int32 × Mem) ⊕ (Int32 × Mem)) → Prop := pS (A_X3_whoSpokeLeast_4 g a Q) (pI Q)
noncomputable def f_X3_whoSpokeLeast_L4 (a : Nat) (s : Int32 × Int32 × Mem) : Option ((Int32 × Int32 × Mem) ⊕ (Int32 × Mem)) := if (gI s.2.2 1 13) ≤ s.2.1 then up (some (s.1, s.2.2)) else ck s.2.1 10 (if (gI s.2.2 (a + 9) (ix s.2.1)) ≤ 0 then bnd (s.2.1 + (1 : Int32)) (fun y1 => some (Sum.inl (s.1, y1, s.2.2))) else if s.1 < 0 then bnd (s.2.1 + (1 : Int32)) (fun y2 => some (Sum.inl (s.2.1, y2, s.2.2))) else ck s.2.1 10 (ck s.1 10 (if (gI s.2.2 (a + 10) (ix s.2.1)) < (gI s.2.2 (a + 10) (ix s.1)) then bnd (s.2.1 + (1 : Int32)) (fun y3 => some (Sum.inl (s.2.1, y3, s.2.2))) else ck s.2.1 10 (ck s.1 10 (if ¬ (gI s.2.2 (a + 10) (ix s.2.1)) = (gI s.2.2 (a + 10) (ix s.1)) then bnd (s.2.1 + (1 : Int32)) (fun y4 => some (Sum.inl (s.1, y4, s.2.2))) else ck s.2.1 10 (ck s.1 10 (if (gI s.2.2 (a + 9) (ix s.2.1)) ≤ (gI s.2.2 (a + 9) (ix s.1)) then bnd (s.2.1 + (1 : Int32)) (fun y5 => some (Sum.inl (s.1, y5, s.2.2))) else bnd (s.2.1 + (1 : Int32)) (fun y6 => some (Sum.inl (s.2.1, y6, s.2.2))))))))))
theorem k_X3_whoSpokeLeast_L4 {g : Gx} {a : Nat} (ha : MA a) {Q : Qy} {s : Int32 × Int32 × Mem} {t : (Int32 × Int32 × Mem) ⊕ (Int32 × Mem)} (h : f_X3_whoSpokeLeast_L4 a s = some t) (hP : P_X3_whoSpokeLeast_4 g a Q t) : A_X3_whoSpokeLeast_4 g a Q s := by
  refine wp_iload_n dX3_whoSpokeLeast_4 rfl rfl ?_
  refine wp_aload_n dX3_whoSpokeLeast_5 rfl rfl ?_
  refine wm_getR dX3_whoSpokeLeast_6 (sM_0 ha) fk_X3_47 rfl (rM_10 ha) rfl ?_
  refine wm_getI dX3_whoSpokeLeast_9 s_1 fk_X3_108 rfl rfl ?_
  refine wm_icmp_ge 81 dX3_whoSpokeLeast_12 rfl rfl h (fun h => ?_) (fun h => ?_)
  · refine wm_up h hP (fun r h hP => ?_)
    refine wp_iload_n dX3_whoSpokeLeast_81 rfl rfl ?_
    exact wm_iret dX3_whoSpokeLeast_82 rfl ⟨rfl, rfl⟩ h hP
  · refine wp_aload_n dX3_whoSpokeLeast_15 rfl rfl ?_
    refine wm_getR dX3_whoSpokeLeast_16 (sM_0 ha) fk_X3_38 rfl (rM_12 ha) rfl ?_
    refine wp_iload_n dX3_whoSpokeLeast_19 rfl rfl ?_
    refine wm_iald dX3_whoSpokeLeast_20 (sM_9 ha) rfl h (fun h => ?_)
    refine wm_if_le 75 dX3_whoSpokeLeast_21 rfl rfl h (fun h => ?_) (fun h => ?_)
    · refine wm_inc dX3_whoSpokeLeast_75 rfl ii_1 (by decide) rfl rfl h (fun y1 h => ?_)
      refine wm_list (L' := [some (.ref a), some (.int s.1), some (.int y1)]) rfl ?_
      refine wp_goto 4 dX3_whoSpokeLeast_78 rfl ?_
      have hB := wm_back h hP
      exact wm_mask (L' := [some (.ref a), some (.int s.1), some (.int y1)]) [true, true, true] rfl (hB)
    · refine wp_iload_n dX3_whoSpokeLeast_24 rfl rfl ?_
      refine wm_if_lt 73 dX3_whoSpokeLeast_25 rfl rfl h (fun h => ?_) (fun h => ?_)
      · refine wp_iload_n dX3_whoSpokeLeast_73 rfl rfl ?_
        refine wp_istore_n (L' := [some (.ref a), some (.int s.2.1), some (.int s.2.1)]) dX3_whoSpokeLeast_74 (by decide) rfl rfl rfl ?_
        refine wm_inc dX3_whoSpokeLeast_75 rfl ii_1 (by decide) rfl rfl h (fun y2 h => ?_)
        refine wm_list (L' := [some (.ref a), some (.int s.2.1), some (.int y2)]) rfl ?_
        refine wp_goto 4 dX3_whoSpokeLeast_78 rfl ?_
        have hB := wm_back h hP
        exact wm_mask (L' := [some (.ref a), some (.int s.2.1), some (.int y2)]) [true, true, true] rfl (hB)
      · refine wp_aload_n dX3_whoSpokeLeast_28 rfl rfl ?_
        refine wm_getR dX3_whoSpokeLeast_29 (sM_0 ha) fk_X3_41 rfl (rM_13 ha) rfl ?_
        refine wp_iload_n dX3_whoSpokeLeast_32 rfl rfl ?_
        refine wm_iald dX3_whoSpokeLeast_33 (sM_10 ha) rfl h (fun h => ?_)
        refine wp_aload_n dX3_whoSpokeLeast_34 rfl rfl ?_
        refine wm_getR dX3_whoSpokeLeast_35 (sM_0 ha) fk_X3_41 rfl (rM_13 ha) rfl ?_
        refine wp_iload_n dX3_whoSpokeLeast_38 rfl rfl ?_
        refine wm_iald dX3_whoSpokeLeast_39 (sM_10 ha) rfl h (fun h => ?_)
        refine wm_icmp_lt 73 dX3_whoSpokeLeast_40 rfl rfl h (fun h => ?_) (fun h => ?_)
        · refine wp_iload_n dX3_whoSpokeLeast_73 rfl rfl ?_
          refine wp_istore_n (L' := [some (.ref a), some (.int s.2.1), some (.int s.2.1)]) dX3_whoSpokeLeast_74 (by decide) rfl rfl rfl ?_
          refine wm_inc dX3_whoSpokeLeast_75 rfl ii_1 (by decide) rfl rfl h (fun y3 h => ?_)
          refine wm_list (L' := [some (.ref a), some (.int s.2.1), some (.int y3)]) rfl ?_
          refine wp_goto 4 dX3_whoSpokeLeast_78 rfl ?_
          have hB := wm_back h hP
          exact wm_mask (L' := [some (.ref a), some (.int s.2.1), some (.int y3)]) [true, true, true] rfl (hB)
        · refine wp_aload_n dX3_whoSpokeLeast_43 rfl rfl ?_
          refine wm_getR dX3_whoSpokeLeast_44 (sM_0 ha) fk_X3_41 rfl (rM_13 ha) rfl ?_
          refine wp_iload_n dX3_whoSpokeLeast_47 rfl rfl ?_
          refine wm_iald dX3_whoSpokeLeast_48 (sM_10 ha) rfl h (fun h => ?_)
          refine wp_aload_n dX3_whoSpokeLeast_49 rfl rfl ?_
          refine wm_getR dX3_whoSpokeLeast_50 (sM_0 ha) fk_X3_41 rfl (rM_13 ha) rfl ?_
          refine wp_iload_n dX3_whoSpokeLeast_53 rfl rfl ?_
          refine wm_iald dX3_whoSpokeLeast_54 (sM_10 ha) rfl h (fun h => ?_)
          refine wm_icmp_ne 75 dX3_whoSpokeLeast_55 rfl rfl h (fun h => ?_) (fun h => ?_)
          · refine wm_inc dX3_whoSpokeLeast_75 rfl ii_1 (by decide) rfl rfl h (fun y4 h => ?_)
            refine wm_list (L' := [some (.ref a), some (.int s.1), some (.int y4)]) rfl ?_
            refine wp_goto 4 dX3_whoSpokeLeast_78 rfl ?_
            have hB := wm_back h hP
            exact wm_mask (L' := [some (.ref a), some (.int s.1), some (.int y4)]) [true, true, true] rfl (hB)
          · refine wp_aload_n dX3_whoSpokeLeast_58 rfl rfl ?_
            refine wm_getR dX3_whoSpokeLeast_59 (sM_0 ha) fk_X3_38 rfl (rM_12 ha) rfl ?_
            refine wp_iload_n dX3_whoSpokeLeast_62 rfl rfl ?_
            refine wm_iald dX3_whoSpokeLeast_63 (sM_9 ha) rfl h (fun h => ?_)
            refine wp_aload_n dX3_whoSpokeLeast_64 rfl rfl ?_
            refine wm_getR dX3_whoSpokeLeast_65 (sM_0 ha) fk_X3_38 rfl (rM_12 ha) rfl ?_
            refine wp_iload_n dX3_whoSpokeLeast_68 rfl rfl ?_
            refine wm_iald dX3_whoSpokeLeast_69 (sM_9 ha) rfl h (fun h => ?_)
            refine wm_icmp_le 75 dX3_whoSpokeLeast_70 rfl rfl h (fun h => ?_) (fun h => ?_)
            · refine wm_inc dX3_whoSpokeLeast_75 rfl ii_1 (by decide) rfl rfl h (fun y5 h => ?_)
              refine wm_list (L' := [some (.ref a), some (.int s.1), some (.int y5)]) rfl ?_
              refine wp_goto 4 dX3_whoSpokeLeast_78 rfl ?_
              have hB := wm_back h hP
              exact wm_mask (L' := [some (.ref a), some (.int s.1), some (.int y5)]) [true, true, true] rfl (hB)
            · refine wp_iload_n dX3_whoSpokeLeast_73 rfl rfl ?_
              refine wp_istore_n (L' := [some (.ref a), some (.int s.2.1), some (.int s.2.1)]) dX3_whoSpokeLeast_74 (by decide) rfl rfl rfl ?_
              refine wm_inc dX3_whoSpokeLeast_75 rfl ii_1 (by decide) rfl rfl h (fun y6 h => ?_)
              refine wm_list (L' := [some (.ref a), some (.int s.2.1), some (.int y6)]) rfl ?_
              refine wp_goto 4 dX3_whoSpokeLeast_78 rfl ?_
              have hB := wm_back h hP
              exact wm_mask (L' := [some (.ref a), some (.int s.2.1), some (.int y6)]) [true, true, true] rfl (hB)
noncomputable def f_X3_whoSpokeLeast (a : Nat)  (m : Mem) : Option (Int32 × Mem) := wh (f_X3_whoSpokeLeast_L4 a) ((-1 : Int32), (0 : Int32), m)
theorem k_X3_whoSpokeLeast_E {g : Gx} {a : Nat} (ha : MA a)  {Q : Qy} {m : Mem} {t : Int32 × Mem} (h : f_X3_whoSpokeLeast a m = some t) (hP : pI Q t) : WpM g 1 mi_X3_whoSpokeLeast 0 [some (.ref a), none, none] [] m (zM g mi_X3_whoSpokeLeast Q) := by
  refine wp_iconst (-1 : Int32) dX3_whoSpokeLeast_0 ic_m1 rfl ?_
  refine wp_istore_n (L' := [some (.ref a), some (.int (-1 : Int32)), none]) dX3_whoSpokeLeast_1 (by decide) rfl rfl rfl ?_
  refine wp_iconst (0 : Int32) dX3_whoSpokeLeast_2 ic_0 rfl ?_
  refine wp_istore_n (L' := [some (.ref a), some (.int (-1 : Int32)), some (.int (0 : Int32))]) dX3_whoSpokeLeast_3 (by decide) rfl rfl rfl ?_
  have hB := wh_ok (A := A_X3_whoSpokeLeast_4 g a Q) (B := pI Q) (fun s t h hP => k_X3_whoSpokeLeast_L4 ha h hP) h hP
  exact wm_mask (L' := [some (.ref a), some (.int (-1 : Int32)), some (.int (0 : Int32))]) [true, true, true] rfl (hB)
theorem o_X3_whoSpokeLeast {g : Gx} {a : Nat} (ha : MA a)  {m : Mem} {t : Int32 × Mem} (h : f_X3_whoSpokeLeast a m = some t) : MxM g 1 mi_X3_whoSpokeLeast [.ref a] m (qI t) := mx_of pn_X3 (Nat.le_of_ble_eq_true rfl) (k_X3_whoSpokeLeast_E ha h ⟨rfl, rfl, rfl, rfl, rfl⟩)
noncomputable def f_X3_nextSpeaker (a : Nat)  (m : Mem) : Option (Int32 × Mem) := sw (gI m a 15) [((1 : Int32), (f_X3_byTurns a m).bind (fun q1 => some (q1.1, q1.2))), ((2 : Int32), (f_X3_whoSpokeLeast a m).bind (fun q2 => some (q2.1, q2.2))), ((3 : Int32), if (gI m a 18) < 0 then (f_X3_byTurns a m).bind (fun q3 => some (q3.1, q3.2)) else ck (gI m a 18) 10 (if (gI m (a + 9) (ix (gI m a 18))) ≤ 0 then (f_X3_byTurns a m).bind (fun q4 => some (q4.1, q4.2)) else some ((gI m a 18), m))), ((4 : Int32), (f_X3_chiefLast a m).bind (fun q5 => some (q5.1, q5.2)))] ((f_X3_whoWishesMost a (10 : Int32) m).bind (fun q6 => some (q6.1, q6.2)))
theorem k_X3_nextSpeaker_E {g : Gx} {a : Nat} (ha : MA a)  {Q : Qy} {m : Mem} {t : Int32 × Mem} (h : f_X3_nextSpeaker a m = some t) (hP : pI Q t) : WpM g 3 mi_X3_nextSpeaker 0 [some (.ref a)] [] m (zM g mi_X3_nextSpeaker Q) := by
  refine wp_aload_n dX3_nextSpeaker_0 rfl rfl ?_
  refine wm_getI dX3_nextSpeaker_1 (sM_0 ha) fk_X3_73 rfl rfl ?_
  refine wm_tsw [((1 : Int32), 36), ((2 : Int32), 41), ((3 : Int32), 46), ((4 : Int32), 77)] 82 dX3_nextSpeaker_4 rfl (by decide) (by decide +kernel) (by decide +kernel) (by decide +kernel) h rfl ⟨fun h => ?_, fun h => ?_, fun h => ?_, fun h => ?_, trivial⟩ (fun h => ?_)
  · refine wp_aload_n dX3_nextSpeaker_36 rfl rfl ?_
    refine wm_callVI (As := []) (rest := []) dX3_nextSpeaker_37 ok_X3_158 (by decide) rfl (sM_0 ha) ⟨_, rfl⟩ (Nat.le_of_ble_eq_true rfl) ⟨rfl, rfl⟩ rfl (fun t h => o_X3_byTurns ha h) h (fun q1 h => ?_)
    exact wm_iret dX3_nextSpeaker_40 rfl ⟨rfl, rfl⟩ h hP
  · refine wp_aload_n dX3_nextSpeaker_41 rfl rfl ?_
    refine wm_callVI (As := []) (rest := []) dX3_nextSpeaker_42 ok_X3_161 (by decide) rfl (sM_0 ha) ⟨_, rfl⟩ (Nat.le_of_ble_eq_true rfl) ⟨rfl, rfl⟩ rfl (fun t h => o_X3_whoSpokeLeast ha h) h (fun q2 h => ?_)
    exact wm_iret dX3_nextSpeaker_45 rfl ⟨rfl, rfl⟩ h hP
  · refine wp_aload_n dX3_nextSpeaker_46 rfl rfl ?_
    refine wm_getI dX3_nextSpeaker_47 (sM_0 ha) fk_X3_67 rfl rfl ?_
    refine wm_if_lt 72 dX3_nextSpeaker_50 rfl rfl h (fun h => ?_) (fun h => ?_)
    · refine wp_aload_n dX3_nextSpeaker_72 rfl rfl ?_
      refine wm_callVI (As := []) (rest := []) dX3_nextSpeaker_73 ok_X3_158 (by decide) rfl (sM_0 ha) ⟨_, rfl⟩ (Nat.le_of_ble_eq_true rfl) ⟨rfl, rfl⟩ rfl (fun t h => o_X3_byTurns ha h) h (fun q3 h => ?_)
      exact wm_iret dX3_nextSpeaker_76 rfl ⟨rfl, rfl⟩ h hP
    · refine wp_aload_n dX3_nextSpeaker_53 rfl rfl ?_
      refine wm_getR dX3_nextSpeaker_54 (sM_0 ha) fk_X3_38 rfl (rM_12 ha) rfl ?_
      refine wp_aload_n dX3_nextSpeaker_57 rfl rfl ?_
      refine wm_getI dX3_nextSpeaker_58 (sM_0 ha) fk_X3_67 rfl rfl ?_
      refine wm_iald dX3_nextSpeaker_61 (sM_9 ha) rfl h (fun h => ?_)
      refine wm_if_le 72 dX3_nextSpeaker_62 rfl rfl h (fun h => ?_) (fun h => ?_)
      · refine wp_aload_n dX3_nextSpeaker_72 rfl rfl ?_
        refine wm_callVI (As := []) (rest := []) dX3_nextSpeaker_73 ok_X3_158 (by decide) rfl (sM_0 ha) ⟨_, rfl⟩ (Nat.le_of_ble_eq_true rfl) ⟨rfl, rfl⟩ rfl (fun t h => o_X3_byTurns ha h) h (fun q4 h => ?_)
        exact wm_iret dX3_nextSpeaker_76 rfl ⟨rfl, rfl⟩ h hP
      · refine wp_aload_n dX3_nextSpeaker_65 rfl rfl ?_
        refine wm_getI dX3_nextSpeaker_66 (sM_0 ha) fk_X3_67 rfl rfl ?_
        refine wp_goto 76 dX3_nextSpeaker_69 rfl ?_
        exact wm_iret dX3_nextSpeaker_76 rfl ⟨rfl, rfl⟩ h hP
  · refine wp_aload_n dX3_nextSpeaker_77 rfl rfl ?_
    refine wm_callVI (As := []) (rest := []) dX3_nextSpeaker_78 ok_X3_164 (by decide) rfl (sM_0 ha) ⟨_, rfl⟩ (Nat.le_of_ble_eq_true rfl) ⟨rfl, rfl⟩ rfl (fun t h => o_X3_chiefLast ha h) h (fun q5 h => ?_)
    exact wm_iret dX3_nextSpeaker_81 rfl ⟨rfl, rfl⟩ h hP
  · refine wp_aload_n dX3_nextSpeaker_82 rfl rfl ?_
    refine wp_bipush (10 : Int32) dX3_nextSpeaker_83 ib_10 rfl ?_
    refine wm_callVI (As := [.int (10 : Int32)]) (rest := []) dX3_nextSpeaker_85 ok_X3_167 (by decide) rfl (sM_0 ha) ⟨_, rfl⟩ (Nat.le_of_ble_eq_true rfl) ⟨rfl, rfl⟩ rfl (fun t h => o_X3_whoWishesMost ha h) h (fun q6 h => ?_)
    exact wm_iret dX3_nextSpeaker_88 rfl ⟨rfl, rfl⟩ h hP
theorem o_X3_nextSpeaker {g : Gx} {a : Nat} (ha : MA a)  {m : Mem} {t : Int32 × Mem} (h : f_X3_nextSpeaker a m = some t) : MxM g 3 mi_X3_nextSpeaker [.ref a] m (qI t) := mx_of pn_X3 (Nat.le_of_ble_eq_true rfl) (k_X3_nextSpeaker_E ha h ⟨rfl, rfl, rfl, rfl, rfl⟩)
abbrev A_X3_whoStops_2 (g : Gx) (a : Nat) (Q : Qy) (s : Int32 × Int32 × Mem) : Prop := WpM g 1 mi_X3_whoStops 2 [some (.ref a), some (.int s.1), some (.int s.2.1)] [] s.2.2 (zM g mi_X3_whoStops Q)
abbrev P_X3_whoStops_2 (g : Gx) (a : Nat) (Q : Qy) : ((Int32 × Int32 × Mem) ⊕ (Int32 × Mem)) → Prop := pS (A_X3_whoStops_2 g a Q) (pI Q)
noncomputable def f_X3_whoStops_L2 (a : Nat) (s : Int32 × Int32 × Mem) : Option ((Int32 × Int32 × Mem) ⊕ (Int32 × Mem)) := if (gI s.2.2 1 13) ≤ s.2.1 then up (some ((-2 : Int32), s.2.2)) else if s.2.1 = s.1 then bnd (s.2.1 + (1 : Int32)) (fun y1 => some (Sum.inl (s.1, y1, s.2.2))) else ck s.1 10 (if s.2.1 = (gI s.2.2 (a + 11) (ix s.1)) then bnd (s.2.1 + (1 : Int32)) (fun y2 => some (Sum.inl (s.1, y2, s.2.2))) else ck s.2.1 10 (ck s.1 10 (if (gI s.2.2 3 (ix s.2.1)) < ((gI s.2.2 3 (ix s.1)) + (3 : Int32)) then bnd (s.2.1 + (1 : Int32)) (fun y3 => some (Sum.inl (s.1, y3, s.2.2))) else ck s.2.1 10 (ck s.1 10 (if (gI s.2.2 (a + 9) (ix s.2.1)) ≤ (gI s.2.2 (a + 9) (ix s.1)) then bnd (s.2.1 + (1 : Int32)) (fun y4 => some (Sum.inl (s.1, y4, s.2.2))) else up (some (s.2.1, s.2.2)))))))
theorem k_X3_whoStops_L2 {g : Gx} {a : Nat} (ha : MA a) {Q : Qy} {s : Int32 × Int32 × Mem} {t : (Int32 × Int32 × Mem) ⊕ (Int32 × Mem)} (h : f_X3_whoStops_L2 a s = some t) (hP : P_X3_whoStops_2 g a Q t) : A_X3_whoStops_2 g a Q s := by
  refine wp_iload_n dX3_whoStops_2 rfl rfl ?_
  refine wp_aload_n dX3_whoStops_3 rfl rfl ?_
  refine wm_getR dX3_whoStops_4 (sM_0 ha) fk_X3_47 rfl (rM_10 ha) rfl ?_
  refine wm_getI dX3_whoStops_7 s_1 fk_X3_108 rfl rfl ?_
  refine wm_icmp_ge 74 dX3_whoStops_10 rfl rfl h (fun h => ?_) (fun h => ?_)
  · refine wm_up h hP (fun r h hP => ?_)
    refine wp_bipush (-2 : Int32) dX3_whoStops_74 ib_m2 rfl ?_
    exact wm_iret dX3_whoStops_76 rfl ⟨rfl, rfl⟩ h hP
  · refine wp_iload_n dX3_whoStops_13 rfl rfl ?_
    refine wp_iload_n dX3_whoStops_14 rfl rfl ?_
    refine wm_icmp_eq 68 dX3_whoStops_15 rfl rfl h (fun h => ?_) (fun h => ?_)
    · refine wm_inc dX3_whoStops_68 rfl ii_1 (by decide) rfl rfl h (fun y1 h => ?_)
      refine wm_list (L' := [some (.ref a), some (.int s.1), some (.int y1)]) rfl ?_
      refine wp_goto 2 dX3_whoStops_71 rfl ?_
      have hB := wm_back h hP
      exact wm_mask (L' := [some (.ref a), some (.int s.1), some (.int y1)]) [true, true, true] rfl (hB)
    · refine wp_iload_n dX3_whoStops_18 rfl rfl ?_
      refine wp_aload_n dX3_whoStops_19 rfl rfl ?_
      refine wm_getR dX3_whoStops_20 (sM_0 ha) fk_X3_44 rfl (rM_14 ha) rfl ?_
      refine wp_iload_n dX3_whoStops_23 rfl rfl ?_
      refine wm_iald dX3_whoStops_24 (sM_11 ha) rfl h (fun h => ?_)
      refine wm_icmp_eq 68 dX3_whoStops_25 rfl rfl h (fun h => ?_) (fun h => ?_)
      · refine wm_inc dX3_whoStops_68 rfl ii_1 (by decide) rfl rfl h (fun y2 h => ?_)
        refine wm_list (L' := [some (.ref a), some (.int s.1), some (.int y2)]) rfl ?_
        refine wp_goto 2 dX3_whoStops_71 rfl ?_
        have hB := wm_back h hP
        exact wm_mask (L' := [some (.ref a), some (.int s.1), some (.int y2)]) [true, true, true] rfl (hB)
      · refine wp_aload_n dX3_whoStops_28 rfl rfl ?_
        refine wm_getR dX3_whoStops_29 (sM_0 ha) fk_X3_47 rfl (rM_10 ha) rfl ?_
        refine wm_getR dX3_whoStops_32 s_1 fk_X3_146 rfl r_1_1 rfl ?_
        refine wp_iload_n dX3_whoStops_35 rfl rfl ?_
        refine wm_iald dX3_whoStops_36 s_3 rfl h (fun h => ?_)
        refine wp_aload_n dX3_whoStops_37 rfl rfl ?_
        refine wm_getR dX3_whoStops_38 (sM_0 ha) fk_X3_47 rfl (rM_10 ha) rfl ?_
        refine wm_getR dX3_whoStops_41 s_1 fk_X3_146 rfl r_1_1 rfl ?_
        refine wp_iload_n dX3_whoStops_44 rfl rfl ?_
        refine wm_iald dX3_whoStops_45 s_3 rfl h (fun h => ?_)
        refine wp_iconst (3 : Int32) dX3_whoStops_46 ic_3 rfl ?_
        refine wp_iadd dX3_whoStops_47 rfl ?_
        refine wm_icmp_lt 68 dX3_whoStops_48 rfl rfl h (fun h => ?_) (fun h => ?_)
        · refine wm_inc dX3_whoStops_68 rfl ii_1 (by decide) rfl rfl h (fun y3 h => ?_)
          refine wm_list (L' := [some (.ref a), some (.int s.1), some (.int y3)]) rfl ?_
          refine wp_goto 2 dX3_whoStops_71 rfl ?_
          have hB := wm_back h hP
          exact wm_mask (L' := [some (.ref a), some (.int s.1), some (.int y3)]) [true, true, true] rfl (hB)
        · refine wp_aload_n dX3_whoStops_51 rfl rfl ?_
          refine wm_getR dX3_whoStops_52 (sM_0 ha) fk_X3_38 rfl (rM_12 ha) rfl ?_
          refine wp_iload_n dX3_whoStops_55 rfl rfl ?_
          refine wm_iald dX3_whoStops_56 (sM_9 ha) rfl h (fun h => ?_)
          refine wp_aload_n dX3_whoStops_57 rfl rfl ?_
          refine wm_getR dX3_whoStops_58 (sM_0 ha) fk_X3_38 rfl (rM_12 ha) rfl ?_
          refine wp_iload_n dX3_whoStops_61 rfl rfl ?_
          refine wm_iald dX3_whoStops_62 (sM_9 ha) rfl h (fun h => ?_)
          refine wm_icmp_le 68 dX3_whoStops_63 rfl rfl h (fun h => ?_) (fun h => ?_)
          · refine wm_inc dX3_whoStops_68 rfl ii_1 (by decide) rfl rfl h (fun y4 h => ?_)
            refine wm_list (L' := [some (.ref a), some (.int s.1), some (.int y4)]) rfl ?_
            refine wp_goto 2 dX3_whoStops_71 rfl ?_
            have hB := wm_back h hP
            exact wm_mask (L' := [some (.ref a), some (.int s.1), some (.int y4)]) [true, true, true] rfl (hB)
          · refine wm_up h hP (fun r h hP => ?_)
            refine wp_iload_n dX3_whoStops_66 rfl rfl ?_
            exact wm_iret dX3_whoStops_67 rfl ⟨rfl, rfl⟩ h hP
noncomputable def f_X3_whoStops (a : Nat) (p1 : Int32) (m : Mem) : Option (Int32 × Mem) := wh (f_X3_whoStops_L2 a) (p1, (0 : Int32), m)
theorem k_X3_whoStops_E {g : Gx} {a : Nat} (ha : MA a) {p1 : Int32} {Q : Qy} {m : Mem} {t : Int32 × Mem} (h : f_X3_whoStops a p1 m = some t) (hP : pI Q t) : WpM g 1 mi_X3_whoStops 0 [some (.ref a), some (.int p1), none] [] m (zM g mi_X3_whoStops Q) := by
  refine wp_iconst (0 : Int32) dX3_whoStops_0 ic_0 rfl ?_
  refine wp_istore_n (L' := [some (.ref a), some (.int p1), some (.int (0 : Int32))]) dX3_whoStops_1 (by decide) rfl rfl rfl ?_
  have hB := wh_ok (A := A_X3_whoStops_2 g a Q) (B := pI Q) (fun s t h hP => k_X3_whoStops_L2 ha h hP) h hP
  exact wm_mask (L' := [some (.ref a), some (.int p1), some (.int (0 : Int32))]) [true, true, true] rfl (hB)
theorem o_X3_whoStops {g : Gx} {a : Nat} (ha : MA a) {p1 : Int32} {m : Mem} {t : Int32 × Mem} (h : f_X3_whoStops a p1 m = some t) : MxM g 1 mi_X3_whoStops [.ref a, .int p1] m (qI t) := mx_of pn_X3 (Nat.le_of_ble_eq_true rfl) (k_X3_whoStops_E ha h ⟨rfl, rfl, rfl, rfl, rfl⟩)
abbrev A_X3_lowestBits_4 (g : Gx)  (Q : Qy) (s : Int32 × Int32 × Int32 × Int32 × Mem) : Prop := WpM g 1 mi_X3_lowestBits 4 [some (.int s.1), some (.int s.2.1), some (.int s.2.2.1), some (.int s.2.2.2.1)] [] s.2.2.2.2 (zM g mi_X3_lowestBits Q)
abbrev P_X3_lowestBits_4 (g : Gx)  (Q : Qy) : ((Int32 × Int32 × Int32 × Int32 × Mem) ⊕ (Int32 × Mem)) → Prop := pS (A_X3_lowestBits_4 g Q) (pI Q)
noncomputable def f_X3_lowestBits_L4  (s : Int32 × Int32 × Int32 × Int32 × Mem) : Option ((Int32 × Int32 × Int32 × Int32 × Mem) ⊕ (Int32 × Mem)) := if s.2.1 ≤ s.2.2.2.1 then up (some ((s.1 &&& (s.2.2.1 ^^^ (-1 : Int32))), s.2.2.2.2)) else bnd (s.2.2.1 &&& (s.2.2.1 - (1 : Int32))) (fun y1 => bnd (s.2.2.2.1 + (1 : Int32)) (fun y2 => some (Sum.inl (s.1, s.2.1, y1, y2, s.2.2.2.2))))
theorem k_X3_lowestBits_L4 {g : Gx}  {Q : Qy} {s : Int32 × Int32 × Int32 × Int32 × Mem} {t : (Int32 × Int32 × Int32 × Int32 × Mem) ⊕ (Int32 × Mem)} (h : f_X3_lowestBits_L4 s = some t) (hP : P_X3_lowestBits_4 g Q t) : A_X3_lowestBits_4 g Q s := by
  refine wp_iload_n dX3_lowestBits_4 rfl rfl ?_
  refine wp_iload_n dX3_lowestBits_5 rfl rfl ?_
  refine wm_icmp_ge 21 dX3_lowestBits_6 rfl rfl h (fun h => ?_) (fun h => ?_)
  · refine wm_up h hP (fun r h hP => ?_)
    refine wp_iload_n dX3_lowestBits_21 rfl rfl ?_
    refine wp_iload_n dX3_lowestBits_22 rfl rfl ?_
    refine wp_iconst (-1 : Int32) dX3_lowestBits_23 ic_m1 rfl ?_
    refine wp_ixor dX3_lowestBits_24 rfl ?_
    refine wp_iand dX3_lowestBits_25 rfl ?_
    exact wm_iret dX3_lowestBits_26 rfl ⟨rfl, rfl⟩ h hP
  · refine wp_iload_n dX3_lowestBits_9 rfl rfl ?_
    refine wp_iload_n dX3_lowestBits_10 rfl rfl ?_
    refine wp_iconst (1 : Int32) dX3_lowestBits_11 ic_1 rfl ?_
    refine wp_isub dX3_lowestBits_12 rfl ?_
    refine wp_iand dX3_lowestBits_13 rfl ?_
    refine wm_nm h (fun y1 h => ?_)
    refine wp_istore_n (L' := [some (.int s.1), some (.int s.2.1), some (.int y1), some (.int s.2.2.2.1)]) dX3_lowestBits_14 (by decide) rfl rfl rfl ?_
    refine wm_inc dX3_lowestBits_15 rfl ii_1 (by decide) rfl rfl h (fun y2 h => ?_)
    refine wm_list (L' := [some (.int s.1), some (.int s.2.1), some (.int y1), some (.int y2)]) rfl ?_
    refine wp_goto 4 dX3_lowestBits_18 rfl ?_
    have hB := wm_back h hP
    exact wm_mask (L' := [some (.int s.1), some (.int s.2.1), some (.int y1), some (.int y2)]) [true, true, true, true] rfl (hB)
noncomputable def f_X3_lowestBits  (p1 : Int32) (p2 : Int32) (m : Mem) : Option (Int32 × Mem) := wh (f_X3_lowestBits_L4) (p1, p2, p1, (0 : Int32), m)
theorem k_X3_lowestBits_E {g : Gx}  {p1 : Int32} {p2 : Int32} {Q : Qy} {m : Mem} {t : Int32 × Mem} (h : f_X3_lowestBits p1 p2 m = some t) (hP : pI Q t) : WpM g 1 mi_X3_lowestBits 0 [some (.int p1), some (.int p2), none, none] [] m (zM g mi_X3_lowestBits Q) := by
  refine wp_iload_n dX3_lowestBits_0 rfl rfl ?_
  refine wp_istore_n (L' := [some (.int p1), some (.int p2), some (.int p1), none]) dX3_lowestBits_1 (by decide) rfl rfl rfl ?_
  refine wp_iconst (0 : Int32) dX3_lowestBits_2 ic_0 rfl ?_
  refine wp_istore_n (L' := [some (.int p1), some (.int p2), some (.int p1), some (.int (0 : Int32))]) dX3_lowestBits_3 (by decide) rfl rfl rfl ?_
  have hB := wh_ok (A := A_X3_lowestBits_4 g Q) (B := pI Q) (fun s t h hP => k_X3_lowestBits_L4  h hP) h hP
  exact wm_mask (L' := [some (.int p1), some (.int p2), some (.int p1), some (.int (0 : Int32))]) [true, true, true, true] rfl (hB)
theorem o_X3_lowestBits {g : Gx}  {p1 : Int32} {p2 : Int32} {m : Mem} {t : Int32 × Mem} (h : f_X3_lowestBits p1 p2 m = some t) : MxM g 1 mi_X3_lowestBits [.int p1, .int p2] m (qI t) := mx_of pn_X3 (Nat.le_of_ble_eq_true rfl) (k_X3_lowestBits_E h ⟨rfl, rfl, rfl, rfl, rfl⟩)
noncomputable def f_X3_lowestPlace  (p1 : Int32) (m : Mem) : Option (Int32 × Mem) := if ¬ p1 = 0 then (f_J6_bitCount_0f7a4 ((p1 &&& (-p1)) - (1 : Int32)) m).bind (fun q1 => some (q1.1, q1.2)) else some ((-2 : Int32), m)
theorem k_X3_lowestPlace_E {g : Gx}  {p1 : Int32} {Q : Qy} {m : Mem} {t : Int32 × Mem} (h : f_X3_lowestPlace p1 m = some t) (hP : pI Q t) : WpM g 2 mi_X3_lowestPlace 0 [some (.int p1)] [] m (zM g mi_X3_lowestPlace Q) := by
  refine wp_iload_n dX3_lowestPlace_0 rfl rfl ?_
  refine wm_if_ne 9 dX3_lowestPlace_1 rfl rfl h (fun h => ?_) (fun h => ?_)
  · refine wp_iload_n dX3_lowestPlace_9 rfl rfl ?_
    refine wp_iload_n dX3_lowestPlace_10 rfl rfl ?_
    refine wp_ineg dX3_lowestPlace_11 rfl ?_
    refine wp_iand dX3_lowestPlace_12 rfl ?_
    refine wp_iconst (1 : Int32) dX3_lowestPlace_13 ic_1 rfl ?_
    refine wp_isub dX3_lowestPlace_14 rfl ?_
    refine wm_callSI (As := [.int ((p1 &&& (-p1)) - (1 : Int32))]) (rest := []) dX3_lowestPlace_15 ok_X3_152 (by decide) rfl (Nat.le_of_ble_eq_true rfl) ⟨rfl, rfl⟩ rfl (fun t h => o_J6_bitCount_0f7a4 h) h (fun q1 h => ?_)
    exact wm_iret dX3_lowestPlace_18 rfl ⟨rfl, rfl⟩ h hP
  · refine wp_bipush (-2 : Int32) dX3_lowestPlace_4 ib_m2 rfl ?_
    refine wp_goto 18 dX3_lowestPlace_6 rfl ?_
    exact wm_iret dX3_lowestPlace_18 rfl ⟨rfl, rfl⟩ h hP
theorem o_X3_lowestPlace {g : Gx}  {p1 : Int32} {m : Mem} {t : Int32 × Mem} (h : f_X3_lowestPlace p1 m = some t) : MxM g 2 mi_X3_lowestPlace [.int p1] m (qI t) := mx_of pn_X3 (Nat.le_of_ble_eq_true rfl) (k_X3_lowestPlace_E h ⟨rfl, rfl, rfl, rfl, rfl⟩)
noncomputable def f_X3_lengthOf (a : Nat) (p1 : Int32) (m : Mem) : Option (Int32 × Mem) := bnd (mnI (gI m a 16) ((1 : Int32) + p1)) (fun y1 => ck (1 : Int32) 3 (if ¬ (gI m 11 (ix (1 : Int32))) = (1 : Int32) then some (y1, m) else some (((((2 : Int32) * y1) + (2 : Int32)) / (3 : Int32)), m)))
theorem k_X3_lengthOf_E {g : Gx} {a : Nat} (ha : MA a) {p1 : Int32} {Q : Qy} {m : Mem} {t : Int32 × Mem} (h : f_X3_lengthOf a p1 m = some t) (hP : pI Q t) : WpM g 1 mi_X3_lengthOf 0 [some (.ref a), some (.int p1), none] [] m (zM g mi_X3_lengthOf Q) := by
  refine wp_aload_n dX3_lengthOf_0 rfl rfl ?_
  refine wm_getI dX3_lengthOf_1 (sM_0 ha) fk_X3_76 rfl rfl ?_
  refine wp_iconst (1 : Int32) dX3_lengthOf_4 ic_1 rfl ?_
  refine wp_iload_n dX3_lengthOf_5 rfl rfl ?_
  refine wp_iadd dX3_lengthOf_6 rfl ?_
  refine wp_mmin dX3_lengthOf_7 ok_X3_179 (by decide) ⟨Nat.le_refl _, Nat.le_refl _⟩ (Nat.le_of_ble_eq_true rfl) rfl ?_
  refine wm_nm h (fun y1 h => ?_)
  refine wp_istore_n (L' := [some (.ref a), some (.int p1), some (.int y1)]) dX3_lengthOf_10 (by decide) rfl rfl rfl ?_
  refine wp_aload_n dX3_lengthOf_11 rfl rfl ?_
  refine wm_getR dX3_lengthOf_12 (sM_0 ha) fk_X3_47 rfl (rM_10 ha) rfl ?_
  refine wm_getR dX3_lengthOf_15 s_1 fk_X3_195 rfl r_1_9 rfl ?_
  refine wp_iconst (1 : Int32) dX3_lengthOf_18 ic_1 rfl ?_
  refine wm_iald dX3_lengthOf_19 s_11 rfl h (fun h => ?_)
  refine wp_iconst (1 : Int32) dX3_lengthOf_20 ic_1 rfl ?_
  refine wm_icmp_ne 34 dX3_lengthOf_21 rfl rfl h (fun h => ?_) (fun h => ?_)
  · refine wp_iload_n dX3_lengthOf_34 rfl rfl ?_
    exact wm_iret dX3_lengthOf_35 rfl ⟨rfl, rfl⟩ h hP
  · refine wp_iconst (2 : Int32) dX3_lengthOf_24 ic_2 rfl ?_
    refine wp_iload_n dX3_lengthOf_25 rfl rfl ?_
    refine wp_imul dX3_lengthOf_26 rfl ?_
    refine wp_iconst (2 : Int32) dX3_lengthOf_27 ic_2 rfl ?_
    refine wp_iadd dX3_lengthOf_28 rfl ?_
    refine wp_iconst (3 : Int32) dX3_lengthOf_29 ic_3 rfl ?_
    refine wp_idiv dX3_lengthOf_30 (by decide) rfl ?_
    refine wp_goto 35 dX3_lengthOf_31 rfl ?_
    exact wm_iret dX3_lengthOf_35 rfl ⟨rfl, rfl⟩ h hP
theorem o_X3_lengthOf {g : Gx} {a : Nat} (ha : MA a) {p1 : Int32} {m : Mem} {t : Int32 × Mem} (h : f_X3_lengthOf a p1 m = some t) : MxM g 1 mi_X3_lengthOf [.ref a, .int p1] m (qI t) := mx_of pn_X3 (Nat.le_of_ble_eq_true rfl) (k_X3_lengthOf_E ha h ⟨rfl, rfl, rfl, rfl, rfl⟩)
noncomputable def f_X3_writeLog (a : Nat) (p1 : Int32) (p2 : Int32) (p3 : Int32) (p4 : Int32) (p5 : Int32) (p6 : Int32) (m : Mem) : Option Mem := if (gI m a 7) < (200 : Int32) then bnd ((gI m a 7) * (7 : Int32)) (fun y1 => ck (y1 + (0 : Int32)) 1400 (bnd (sI m (a + 1) (ix (y1 + (0 : Int32))) p1) (fun m2 => ck (y1 + (1 : Int32)) 1400 (bnd (sI m2 (a + 1) (ix (y1 + (1 : Int32))) p2) (fun m3 => ck (y1 + (2 : Int32)) 1400 (bnd (sI m3 (a + 1) (ix (y1 + (2 : Int32))) (gI m3 a 8)) (fun m4 => ck (y1 + (3 : Int32)) 1400 (bnd (sI m4 (a + 1) (ix (y1 + (3 : Int32))) p3) (fun m5 => ck (y1 + (4 : Int32)) 1400 (bnd (sI m5 (a + 1) (ix (y1 + (4 : Int32))) p4) (fun m6 => ck (y1 + (5 : Int32)) 1400 (bnd (sI m6 (a + 1) (ix (y1 + (5 : Int32))) p5) (fun m7 => ck (y1 + (6 : Int32)) 1400 (bnd (sI m7 (a + 1) (ix (y1 + (6 : Int32))) p6) (fun m8 => bnd (sI m8 a 7 ((gI m8 a 7) + (1 : Int32))) (fun m9 => some m9)))))))))))))))) else some m
theorem k_X3_writeLog_E {g : Gx} {a : Nat} (ha : MA a) {p1 : Int32} {p2 : Int32} {p3 : Int32} {p4 : Int32} {p5 : Int32} {p6 : Int32} {Q : Qy} {m : Mem} {t : Mem} (h : f_X3_writeLog a p1 p2 p3 p4 p5 p6 m = some t) (hP : pV Q t) : WpM g 1 mi_X3_writeLog 0 [some (.ref a), some (.int p1), some (.int p2), some (.int p3), some (.int p4), some (.int p5), some (.int p6), none] [] m (zM g mi_X3_writeLog Q) := by
  refine wp_aload_n dX3_writeLog_0 rfl rfl ?_
  refine wm_getI dX3_writeLog_1 (sM_0 ha) fk_X3_57 rfl rfl ?_
  refine wp_sipush (200 : Int32) dX3_writeLog_4 is_200 rfl ?_
  refine wm_icmp_lt 11 dX3_writeLog_7 rfl rfl h (fun h => ?_) (fun h => ?_)
  · refine wp_aload_n dX3_writeLog_11 rfl rfl ?_
    refine wm_getI dX3_writeLog_12 (sM_0 ha) fk_X3_57 rfl rfl ?_
    refine wp_bipush (7 : Int32) dX3_writeLog_15 ib_7 rfl ?_
    refine wp_imul dX3_writeLog_17 rfl ?_
    refine wm_nm h (fun y1 h => ?_)
    refine wp_istore (L' := [some (.ref a), some (.int p1), some (.int p2), some (.int p3), some (.int p4), some (.int p5), some (.int p6), some (.int y1)]) dX3_writeLog_18 (by decide) rfl rfl rfl ?_
    refine wp_aload_n dX3_writeLog_20 rfl rfl ?_
    refine wm_getR dX3_writeLog_21 (sM_0 ha) fk_X3_9 rfl (rM_0 ha) rfl ?_
    refine wp_iload dX3_writeLog_24 rfl rfl ?_
    refine wp_iconst (0 : Int32) dX3_writeLog_26 ic_0 rfl ?_
    refine wp_iadd dX3_writeLog_27 rfl ?_
    refine wp_iload_n dX3_writeLog_28 rfl rfl ?_
    refine wm_iast dX3_writeLog_29 (sM_1 ha) rfl h (fun m2 h => ?_)
    refine wp_aload_n dX3_writeLog_30 rfl rfl ?_
    refine wm_getR dX3_writeLog_31 (sM_0 ha) fk_X3_9 rfl (rM_0 ha) rfl ?_
    refine wp_iload dX3_writeLog_34 rfl rfl ?_
    refine wp_iconst (1 : Int32) dX3_writeLog_36 ic_1 rfl ?_
    refine wp_iadd dX3_writeLog_37 rfl ?_
    refine wp_iload_n dX3_writeLog_38 rfl rfl ?_
    refine wm_iast dX3_writeLog_39 (sM_1 ha) rfl h (fun m3 h => ?_)
    refine wp_aload_n dX3_writeLog_40 rfl rfl ?_
    refine wm_getR dX3_writeLog_41 (sM_0 ha) fk_X3_9 rfl (rM_0 ha) rfl ?_
    refine wp_iload dX3_writeLog_44 rfl rfl ?_
    refine wp_iconst (2 : Int32) dX3_writeLog_46 ic_2 rfl ?_
    refine wp_iadd dX3_writeLog_47 rfl ?_
    refine wp_aload_n dX3_writeLog_48 rfl rfl ?_
    refine wm_getI dX3_writeLog_49 (sM_0 ha) fk_X3_61 rfl rfl ?_
    refine wm_iast dX3_writeLog_52 (sM_1 ha) rfl h (fun m4 h => ?_)
    refine wp_aload_n dX3_writeLog_53 rfl rfl ?_
    refine wm_getR dX3_writeLog_54 (sM_0 ha) fk_X3_9 rfl (rM_0 ha) rfl ?_
    refine wp_iload dX3_writeLog_57 rfl rfl ?_
    refine wp_iconst (3 : Int32) dX3_writeLog_59 ic_3 rfl ?_
    refine wp_iadd dX3_writeLog_60 rfl ?_
    refine wp_iload_n dX3_writeLog_61 rfl rfl ?_
    refine wm_iast dX3_writeLog_62 (sM_1 ha) rfl h (fun m5 h => ?_)
    refine wp_aload_n dX3_writeLog_63 rfl rfl ?_
    refine wm_getR dX3_writeLog_64 (sM_0 ha) fk_X3_9 rfl (rM_0 ha) rfl ?_
    refine wp_iload dX3_writeLog_67 rfl rfl ?_
    refine wp_iconst (4 : Int32) dX3_writeLog_69 ic_4 rfl ?_
    refine wp_iadd dX3_writeLog_70 rfl ?_
    refine wp_iload dX3_writeLog_71 rfl rfl ?_
    refine wm_iast dX3_writeLog_73 (sM_1 ha) rfl h (fun m6 h => ?_)
    refine wp_aload_n dX3_writeLog_74 rfl rfl ?_
    refine wm_getR dX3_writeLog_75 (sM_0 ha) fk_X3_9 rfl (rM_0 ha) rfl ?_
    refine wp_iload dX3_writeLog_78 rfl rfl ?_
    refine wp_iconst (5 : Int32) dX3_writeLog_80 ic_5 rfl ?_
    refine wp_iadd dX3_writeLog_81 rfl ?_
    refine wp_iload dX3_writeLog_82 rfl rfl ?_
    refine wm_iast dX3_writeLog_84 (sM_1 ha) rfl h (fun m7 h => ?_)
    refine wp_aload_n dX3_writeLog_85 rfl rfl ?_
    refine wm_getR dX3_writeLog_86 (sM_0 ha) fk_X3_9 rfl (rM_0 ha) rfl ?_
    refine wp_iload dX3_writeLog_89 rfl rfl ?_
    refine wp_bipush (6 : Int32) dX3_writeLog_91 ib_6 rfl ?_
    refine wp_iadd dX3_writeLog_93 rfl ?_
    refine wp_iload dX3_writeLog_94 rfl rfl ?_
    refine wm_iast dX3_writeLog_96 (sM_1 ha) rfl h (fun m8 h => ?_)
    refine wp_aload_n dX3_writeLog_97 rfl rfl ?_
    refine wp_dup dX3_writeLog_98 rfl rfl ?_
    refine wm_getI dX3_writeLog_99 (sM_0 ha) fk_X3_57 rfl rfl ?_
    refine wp_iconst (1 : Int32) dX3_writeLog_102 ic_1 rfl ?_
    refine wp_iadd dX3_writeLog_103 rfl ?_
    refine wm_putI dX3_writeLog_104 (sM_0 ha) fk_X3_57 rfl rfl h (fun m9 h => ?_)
    exact wm_vret dX3_writeLog_107 rfl ⟨rfl, rfl⟩ h hP
  · exact wm_vret dX3_writeLog_10 rfl ⟨rfl, rfl⟩ h hP
theorem o_X3_writeLog {g : Gx} {a : Nat} (ha : MA a) {p1 : Int32} {p2 : Int32} {p3 : Int32} {p4 : Int32} {p5 : Int32} {p6 : Int32} {m : Mem} {t : Mem} (h : f_X3_writeLog a p1 p2 p3 p4 p5 p6 m = some t) : MxM g 1 mi_X3_writeLog [.ref a, .int p1, .int p2, .int p3, .int p4, .int p5, .int p6] m (qV t) := mx_of pn_X3 (Nat.le_of_ble_eq_true rfl) (k_X3_writeLog_E ha h ⟨rfl, rfl, rfl, rfl, rfl⟩)
noncomputable def f_X3_speak_J179 (a : Nat) (v1 : Int32) (v2 : Int32) (v5 : Int32) (v8 : Int32) (v9 : Int32) (v10 : Int32) (m : Mem) : Option Mem := (f_X3_sayFirst a v8 v1 (gI m a 7) m).bind (fun q7 => (f_X3_writeLog a v1 v2 v10 v8 v9 v5 q7).bind (fun q8 => ck v1 10 (bnd (sI q8 (a + 11) (ix v1) v5) (fun m9 => ck v1 10 (ck v1 10 (bnd (sI m9 (a + 10) (ix v1) ((gI m9 (a + 10) (ix v1)) + (1 : Int32))) (fun m10 => ck v1 10 (ck v1 10 (bnd (sI m10 (a + 7) (ix v1) ((gI m10 (a + 7) (ix v1)) + v10)) (fun m11 => ck v2 6 (ck v2 6 (bnd (sI m11 (a + 2) (ix v2) ((gI m11 (a + 2) (ix v2)) + v10)) (fun m12 => bnd (sI m12 a 8 ((gI m12 a 8) + v10)) (fun m13 => bnd (sI m13 a 18 v1) (fun m14 => some m14)))))))))))))))
theorem k_X3_speak_J179 {g : Gx} {a : Nat} (ha : MA a) {v1 : Int32} {v2 : Int32} {v5 : Int32} {v8 : Int32} {v9 : Int32} {v10 : Int32}  {Q : Qy} {m : Mem} {t : Mem} (h : f_X3_speak_J179 a v1 v2 v5 v8 v9 v10 m = some t) (hP : pV Q t) : WpM g 3 mi_X3_speak 179 [some (.ref a), some (.int v1), some (.int v2), none, none, some (.int v5), none, none, some (.int v8), some (.int v9), some (.int v10)] [] m (zM g mi_X3_speak Q) := by
  refine wp_aload_n dX3_speak_179 rfl rfl ?_
  refine wp_iload dX3_speak_180 rfl rfl ?_
  refine wp_iload_n dX3_speak_182 rfl rfl ?_
  refine wp_aload_n dX3_speak_183 rfl rfl ?_
  refine wm_getI dX3_speak_184 (sM_0 ha) fk_X3_57 rfl rfl ?_
  refine wm_callVN (As := [.int v8, .int v1, .int (gI m a 7)]) (rest := []) dX3_speak_187 ok_X3_124 (by decide) rfl (sM_0 ha) ⟨_, rfl⟩ (Nat.le_of_ble_eq_true rfl) ⟨rfl, rfl⟩ rfl (fun t h => o_X3_sayFirst ha h) h (fun q7 h => ?_)
  refine wp_aload_n dX3_speak_190 rfl rfl ?_
  refine wp_iload_n dX3_speak_191 rfl rfl ?_
  refine wp_iload_n dX3_speak_192 rfl rfl ?_
  refine wp_iload dX3_speak_193 rfl rfl ?_
  refine wp_iload dX3_speak_195 rfl rfl ?_
  refine wp_iload dX3_speak_197 rfl rfl ?_
  refine wp_iload dX3_speak_199 rfl rfl ?_
  refine wm_callVN (As := [.int v1, .int v2, .int v10, .int v8, .int v9, .int v5]) (rest := []) dX3_speak_201 ok_X3_191 (by decide) rfl (sM_0 ha) ⟨_, rfl⟩ (Nat.le_of_ble_eq_true rfl) ⟨rfl, rfl⟩ rfl (fun t h => o_X3_writeLog ha h) h (fun q8 h => ?_)
  refine wp_aload_n dX3_speak_204 rfl rfl ?_
  refine wm_getR dX3_speak_205 (sM_0 ha) fk_X3_44 rfl (rM_14 ha) rfl ?_
  refine wp_iload_n dX3_speak_208 rfl rfl ?_
  refine wp_iload dX3_speak_209 rfl rfl ?_
  refine wm_iast dX3_speak_211 (sM_11 ha) rfl h (fun m9 h => ?_)
  refine wp_aload_n dX3_speak_212 rfl rfl ?_
  refine wm_getR dX3_speak_213 (sM_0 ha) fk_X3_41 rfl (rM_13 ha) rfl ?_
  refine wp_iload_n dX3_speak_216 rfl rfl ?_
  refine wp_dup2 dX3_speak_217 rfl rfl rfl ?_
  refine wm_iald dX3_speak_218 (sM_10 ha) rfl h (fun h => ?_)
  refine wp_iconst (1 : Int32) dX3_speak_219 ic_1 rfl ?_
  refine wp_iadd dX3_speak_220 rfl ?_
  refine wm_iast dX3_speak_221 (sM_10 ha) rfl h (fun m10 h => ?_)
  refine wp_aload_n dX3_speak_222 rfl rfl ?_
  refine wm_getR dX3_speak_223 (sM_0 ha) fk_X3_30 rfl (rM_6 ha) rfl ?_
  refine wp_iload_n dX3_speak_226 rfl rfl ?_
  refine wp_dup2 dX3_speak_227 rfl rfl rfl ?_
  refine wm_iald dX3_speak_228 (sM_7 ha) rfl h (fun h => ?_)
  refine wp_iload dX3_speak_229 rfl rfl ?_
  refine wp_iadd dX3_speak_231 rfl ?_
  refine wm_iast dX3_speak_232 (sM_7 ha) rfl h (fun m11 h => ?_)
  refine wp_aload_n dX3_speak_233 rfl rfl ?_
  refine wm_getR dX3_speak_234 (sM_0 ha) fk_X3_15 rfl (rM_1 ha) rfl ?_
  refine wp_iload_n dX3_speak_237 rfl rfl ?_
  refine wp_dup2 dX3_speak_238 rfl rfl rfl ?_
  refine wm_iald dX3_speak_239 (sM_2 ha) rfl h (fun h => ?_)
  refine wp_iload dX3_speak_240 rfl rfl ?_
  refine wp_iadd dX3_speak_242 rfl ?_
  refine wm_iast dX3_speak_243 (sM_2 ha) rfl h (fun m12 h => ?_)
  refine wp_aload_n dX3_speak_244 rfl rfl ?_
  refine wp_dup dX3_speak_245 rfl rfl ?_
  refine wm_getI dX3_speak_246 (sM_0 ha) fk_X3_61 rfl rfl ?_
  refine wp_iload dX3_speak_249 rfl rfl ?_
  refine wp_iadd dX3_speak_251 rfl ?_
  refine wm_putI dX3_speak_252 (sM_0 ha) fk_X3_61 rfl rfl h (fun m13 h => ?_)
  refine wp_aload_n dX3_speak_255 rfl rfl ?_
  refine wp_iload_n dX3_speak_256 rfl rfl ?_
  refine wm_putI dX3_speak_257 (sM_0 ha) fk_X3_67 rfl rfl h (fun m14 h => ?_)
  exact wm_vret dX3_speak_260 rfl ⟨rfl, rfl⟩ h hP
noncomputable def f_X3_speak_J143 (a : Nat) (v1 : Int32) (v2 : Int32) (v5 : Int32) (v8 : Int32) (v9 : Int32) (v10 : Int32) (m : Mem) : Option Mem := if v9 < 0 then f_X3_speak_J179 a v1 v2 v5 v8 v9 v10 m else ck v9 20 (if (gI m (a + 3) (ix v9)) < 0 then f_X3_speak_J179 a v1 v2 v5 v8 v9 v10 m else ck v9 20 (if (gI m (a + 3) (ix v9)) = v1 then f_X3_speak_J179 a v1 v2 v5 v8 v9 v10 m else ck v1 10 (ck v1 10 (bnd (sI m (a + 6) (ix v1) ((gI m (a + 6) (ix v1)) + (1 : Int32))) (fun m15 => f_X3_speak_J179 a v1 v2 v5 v8 v9 v10 m15)))))
theorem k_X3_speak_J143 {g : Gx} {a : Nat} (ha : MA a) {v1 : Int32} {v2 : Int32} {v5 : Int32} {v8 : Int32} {v9 : Int32} {v10 : Int32}  {Q : Qy} {m : Mem} {t : Mem} (h : f_X3_speak_J143 a v1 v2 v5 v8 v9 v10 m = some t) (hP : pV Q t) : WpM g 3 mi_X3_speak 143 [some (.ref a), some (.int v1), some (.int v2), none, none, some (.int v5), none, none, some (.int v8), some (.int v9), some (.int v10)] [] m (zM g mi_X3_speak Q) := by
  refine wp_iload dX3_speak_143 rfl rfl ?_
  refine wm_if_lt 179 dX3_speak_145 rfl rfl h (fun h => ?_) (fun h => ?_)
  · exact wm_mask (L' := [some (.ref a), some (.int v1), some (.int v2), none, none, some (.int v5), none, none, some (.int v8), some (.int v9), some (.int v10)]) [true, true, true, false, false, true, false, false, true, true, true] rfl (k_X3_speak_J179 ha h hP)
  · refine wp_aload_n dX3_speak_148 rfl rfl ?_
    refine wm_getR dX3_speak_149 (sM_0 ha) fk_X3_18 rfl (rM_2 ha) rfl ?_
    refine wp_iload dX3_speak_152 rfl rfl ?_
    refine wm_iald dX3_speak_154 (sM_3 ha) rfl h (fun h => ?_)
    refine wm_if_lt 179 dX3_speak_155 rfl rfl h (fun h => ?_) (fun h => ?_)
    · exact wm_mask (L' := [some (.ref a), some (.int v1), some (.int v2), none, none, some (.int v5), none, none, some (.int v8), some (.int v9), some (.int v10)]) [true, true, true, false, false, true, false, false, true, true, true] rfl (k_X3_speak_J179 ha h hP)
    · refine wp_aload_n dX3_speak_158 rfl rfl ?_
      refine wm_getR dX3_speak_159 (sM_0 ha) fk_X3_18 rfl (rM_2 ha) rfl ?_
      refine wp_iload dX3_speak_162 rfl rfl ?_
      refine wm_iald dX3_speak_164 (sM_3 ha) rfl h (fun h => ?_)
      refine wp_iload_n dX3_speak_165 rfl rfl ?_
      refine wm_icmp_eq 179 dX3_speak_166 rfl rfl h (fun h => ?_) (fun h => ?_)
      · exact wm_mask (L' := [some (.ref a), some (.int v1), some (.int v2), none, none, some (.int v5), none, none, some (.int v8), some (.int v9), some (.int v10)]) [true, true, true, false, false, true, false, false, true, true, true] rfl (k_X3_speak_J179 ha h hP)
      · refine wp_aload_n dX3_speak_169 rfl rfl ?_
        refine wm_getR dX3_speak_170 (sM_0 ha) fk_X3_27 rfl (rM_5 ha) rfl ?_
        refine wp_iload_n dX3_speak_173 rfl rfl ?_
        refine wp_dup2 dX3_speak_174 rfl rfl rfl ?_
        refine wm_iald dX3_speak_175 (sM_6 ha) rfl h (fun h => ?_)
        refine wp_iconst (1 : Int32) dX3_speak_176 ic_1 rfl ?_
        refine wp_iadd dX3_speak_177 rfl ?_
        refine wm_iast dX3_speak_178 (sM_6 ha) rfl h (fun m15 h => ?_)
        exact wm_mask (L' := [some (.ref a), some (.int v1), some (.int v2), none, none, some (.int v5), none, none, some (.int v8), some (.int v9), some (.int v10)]) [true, true, true, false, false, true, false, false, true, true, true] rfl (k_X3_speak_J179 ha h hP)
noncomputable def f_X3_speak_J125 (a : Nat) (v1 : Int32) (v2 : Int32) (v5 : Int32) (v6 : Int32) (v8 : Int32) (v9 : Int32) (t0 : Int32) (m : Mem) : Option Mem := if v6 = 0 then f_X3_speak_J143 a v1 v2 v5 v8 v9 t0 m else ck v5 10 (ck v5 10 (bnd (sI m (a + 5) (ix v5) ((gI m (a + 5) (ix v5)) + (1 : Int32))) (fun m16 => f_X3_speak_J143 a v1 v2 v5 v8 v9 t0 m16)))
theorem k_X3_speak_J125 {g : Gx} {a : Nat} (ha : MA a) {v1 : Int32} {v2 : Int32} {v5 : Int32} {v6 : Int32} {v8 : Int32} {v9 : Int32} {t0 : Int32}  {Q : Qy} {m : Mem} {t : Mem} (h : f_X3_speak_J125 a v1 v2 v5 v6 v8 v9 t0 m = some t) (hP : pV Q t) : WpM g 3 mi_X3_speak 125 [some (.ref a), some (.int v1), some (.int v2), none, none, some (.int v5), some (.int v6), none, some (.int v8), some (.int v9), none] [.int t0] m (zM g mi_X3_speak Q) := by
  refine wp_istore (L' := [some (.ref a), some (.int v1), some (.int v2), none, none, some (.int v5), some (.int v6), none, some (.int v8), some (.int v9), some (.int t0)]) dX3_speak_125 (by decide) rfl rfl rfl ?_
  refine wp_iload dX3_speak_127 rfl rfl ?_
  refine wm_if_eq 143 dX3_speak_129 rfl rfl h (fun h => ?_) (fun h => ?_)
  · exact wm_mask (L' := [some (.ref a), some (.int v1), some (.int v2), none, none, some (.int v5), none, none, some (.int v8), some (.int v9), some (.int t0)]) [true, true, true, false, false, true, false, false, true, true, true] rfl (k_X3_speak_J143 ha h hP)
  · refine wp_aload_n dX3_speak_132 rfl rfl ?_
    refine wm_getR dX3_speak_133 (sM_0 ha) fk_X3_24 rfl (rM_4 ha) rfl ?_
    refine wp_iload dX3_speak_136 rfl rfl ?_
    refine wp_dup2 dX3_speak_138 rfl rfl rfl ?_
    refine wm_iald dX3_speak_139 (sM_5 ha) rfl h (fun h => ?_)
    refine wp_iconst (1 : Int32) dX3_speak_140 ic_1 rfl ?_
    refine wp_iadd dX3_speak_141 rfl ?_
    refine wm_iast dX3_speak_142 (sM_5 ha) rfl h (fun m16 h => ?_)
    exact wm_mask (L' := [some (.ref a), some (.int v1), some (.int v2), none, none, some (.int v5), none, none, some (.int v8), some (.int v9), some (.int t0)]) [true, true, true, false, false, true, false, false, true, true, true] rfl (k_X3_speak_J143 ha h hP)
noncomputable def f_X3_speak_J105 (a : Nat) (v1 : Int32) (v2 : Int32) (v4 : Int32) (v5 : Int32) (v6 : Int32) (v8 : Int32) (t0 : Int32) (m : Mem) : Option Mem := if v6 = 0 then (f_J6_bitCount_0f7a4 v4 m).bind (fun q5 => (f_X3_lengthOf a q5.1 q5.2).bind (fun q6 => f_X3_speak_J125 a v1 v2 v5 v6 v8 t0 q6.1 q6.2)) else f_X3_speak_J125 a v1 v2 v5 v6 v8 t0 (1 : Int32) m
theorem k_X3_speak_J105 {g : Gx} {a : Nat} (ha : MA a) {v1 : Int32} {v2 : Int32} {v4 : Int32} {v5 : Int32} {v6 : Int32} {v8 : Int32} {t0 : Int32}  {Q : Qy} {m : Mem} {t : Mem} (h : f_X3_speak_J105 a v1 v2 v4 v5 v6 v8 t0 m = some t) (hP : pV Q t) : WpM g 3 mi_X3_speak 105 [some (.ref a), some (.int v1), some (.int v2), none, some (.int v4), some (.int v5), some (.int v6), none, some (.int v8), none, none] [.int t0] m (zM g mi_X3_speak Q) := by
  refine wp_istore (L' := [some (.ref a), some (.int v1), some (.int v2), none, some (.int v4), some (.int v5), some (.int v6), none, some (.int v8), some (.int t0), none]) dX3_speak_105 (by decide) rfl rfl rfl ?_
  refine wp_iload dX3_speak_107 rfl rfl ?_
  refine wm_if_eq 116 dX3_speak_109 rfl rfl h (fun h => ?_) (fun h => ?_)
  · refine wp_aload_n dX3_speak_116 rfl rfl ?_
    refine wp_iload dX3_speak_117 rfl rfl ?_
    refine wm_callSI (As := [.int v4]) (rest := [.ref a]) dX3_speak_119 ok_X3_152 (by decide) rfl (Nat.le_of_ble_eq_true rfl) ⟨rfl, rfl⟩ rfl (fun t h => o_J6_bitCount_0f7a4 h) h (fun q5 h => ?_)
    refine wm_callVI (As := [.int q5.1]) (rest := []) dX3_speak_122 ok_X3_188 (by decide) rfl (sM_0 ha) ⟨_, rfl⟩ (Nat.le_of_ble_eq_true rfl) ⟨rfl, rfl⟩ rfl (fun t h => o_X3_lengthOf ha h) h (fun q6 h => ?_)
    exact wm_mask (L' := [some (.ref a), some (.int v1), some (.int v2), none, none, some (.int v5), some (.int v6), none, some (.int v8), some (.int t0), none]) [true, true, true, false, false, true, true, false, true, true, false] rfl (k_X3_speak_J125 ha h hP)
  · refine wp_iconst (1 : Int32) dX3_speak_112 ic_1 rfl ?_
    refine wp_goto 125 dX3_speak_113 rfl ?_
    exact wm_mask (L' := [some (.ref a), some (.int v1), some (.int v2), none, none, some (.int v5), some (.int v6), none, some (.int v8), some (.int t0), none]) [true, true, true, false, false, true, true, false, true, true, false] rfl (k_X3_speak_J125 ha h hP)
noncomputable def f_X3_speak_J75 (a : Nat) (v1 : Int32) (v2 : Int32) (v3 : Int32) (v4 : Int32) (v5 : Int32) (v6 : Int32) (t0 : Int32) (m : Mem) : Option Mem := (f_X3_lowestBits v4 t0 m).bind (fun q4 => if ¬ q4.1 = 0 then f_X3_speak_J105 a v1 v2 v4 v5 v6 q4.1 (-2 : Int32) q4.2 else (f_X3_lowestPlace (v3 &&& (gI q4.2 a 9)) q4.2).bind (fun q17 => f_X3_speak_J105 a v1 v2 v4 v5 v6 q4.1 q17.1 q17.2))
theorem k_X3_speak_J75 {g : Gx} {a : Nat} (ha : MA a) {v1 : Int32} {v2 : Int32} {v3 : Int32} {v4 : Int32} {v5 : Int32} {v6 : Int32} {t0 : Int32}  {Q : Qy} {m : Mem} {t : Mem} (h : f_X3_speak_J75 a v1 v2 v3 v4 v5 v6 t0 m = some t) (hP : pV Q t) : WpM g 3 mi_X3_speak 75 [some (.ref a), some (.int v1), some (.int v2), some (.int v3), some (.int v4), some (.int v5), some (.int v6), none, none, none, none] [.int t0] m (zM g mi_X3_speak Q) := by
  refine wp_istore (L' := [some (.ref a), some (.int v1), some (.int v2), some (.int v3), some (.int v4), some (.int v5), some (.int v6), some (.int t0), none, none, none]) dX3_speak_75 (by decide) rfl rfl rfl ?_
  refine wp_iload dX3_speak_77 rfl rfl ?_
  refine wp_iload dX3_speak_79 rfl rfl ?_
  refine wm_callSI (As := [.int v4, .int t0]) (rest := []) dX3_speak_81 ok_X3_182 (by decide) rfl (Nat.le_of_ble_eq_true rfl) ⟨rfl, rfl⟩ rfl (fun t h => o_X3_lowestBits h) h (fun q4 h => ?_)
  refine wp_istore (L' := [some (.ref a), some (.int v1), some (.int v2), some (.int v3), some (.int v4), some (.int v5), some (.int v6), some (.int t0), some (.int q4.1), none, none]) dX3_speak_84 (by decide) rfl rfl rfl ?_
  refine wp_iload dX3_speak_86 rfl rfl ?_
  refine wm_if_ne 103 dX3_speak_88 rfl rfl h (fun h => ?_) (fun h => ?_)
  · refine wp_bipush (-2 : Int32) dX3_speak_103 ib_m2 rfl ?_
    exact wm_mask (L' := [some (.ref a), some (.int v1), some (.int v2), none, some (.int v4), some (.int v5), some (.int v6), none, some (.int q4.1), none, none]) [true, true, true, false, true, true, true, false, true, false, false] rfl (k_X3_speak_J105 ha h hP)
  · refine wp_iload_n dX3_speak_91 rfl rfl ?_
    refine wp_aload_n dX3_speak_92 rfl rfl ?_
    refine wm_getI dX3_speak_93 (sM_0 ha) fk_X3_64 rfl rfl ?_
    refine wp_iand dX3_speak_96 rfl ?_
    refine wm_callSI (As := [.int (v3 &&& (gI q4.2 a 9))]) (rest := []) dX3_speak_97 ok_X3_185 (by decide) rfl (Nat.le_of_ble_eq_true rfl) ⟨rfl, rfl⟩ rfl (fun t h => o_X3_lowestPlace h) h (fun q17 h => ?_)
    refine wp_goto 105 dX3_speak_100 rfl ?_
    exact wm_mask (L' := [some (.ref a), some (.int v1), some (.int v2), none, some (.int v4), some (.int v5), some (.int v6), none, some (.int q4.1), none, none]) [true, true, true, false, true, true, true, false, true, false, false] rfl (k_X3_speak_J105 ha h hP)
noncomputable def f_X3_speak_J49 (a : Nat) (v1 : Int32) (v2 : Int32) (v3 : Int32) (v4 : Int32) (v5 : Int32) (t0 : Int32) (m : Mem) : Option Mem := if t0 = 0 then f_X3_speak_J75 a v1 v2 v3 v4 v5 t0 ((gI m a 16) - (1 : Int32)) m else f_X3_speak_J75 a v1 v2 v3 v4 v5 t0 (mnI (1 : Int32) ((gI m a 16) - (1 : Int32))) m
theorem k_X3_speak_J49 {g : Gx} {a : Nat} (ha : MA a) {v1 : Int32} {v2 : Int32} {v3 : Int32} {v4 : Int32} {v5 : Int32} {t0 : Int32}  {Q : Qy} {m : Mem} {t : Mem} (h : f_X3_speak_J49 a v1 v2 v3 v4 v5 t0 m = some t) (hP : pV Q t) : WpM g 3 mi_X3_speak 49 [some (.ref a), some (.int v1), some (.int v2), some (.int v3), some (.int v4), some (.int v5), none, none, none, none, none] [.int t0] m (zM g mi_X3_speak Q) := by
  refine wp_istore (L' := [some (.ref a), some (.int v1), some (.int v2), some (.int v3), some (.int v4), some (.int v5), some (.int t0), none, none, none, none]) dX3_speak_49 (by decide) rfl rfl rfl ?_
  refine wp_iload dX3_speak_51 rfl rfl ?_
  refine wm_if_eq 69 dX3_speak_53 rfl rfl h (fun h => ?_) (fun h => ?_)
  · refine wp_aload_n dX3_speak_69 rfl rfl ?_
    refine wm_getI dX3_speak_70 (sM_0 ha) fk_X3_76 rfl rfl ?_
    refine wp_iconst (1 : Int32) dX3_speak_73 ic_1 rfl ?_
    refine wp_isub dX3_speak_74 rfl ?_
    exact wm_mask (L' := [some (.ref a), some (.int v1), some (.int v2), some (.int v3), some (.int v4), some (.int v5), some (.int t0), none, none, none, none]) [true, true, true, true, true, true, true, false, false, false, false] rfl (k_X3_speak_J75 ha h hP)
  · refine wp_iconst (1 : Int32) dX3_speak_56 ic_1 rfl ?_
    refine wp_aload_n dX3_speak_57 rfl rfl ?_
    refine wm_getI dX3_speak_58 (sM_0 ha) fk_X3_76 rfl rfl ?_
    refine wp_iconst (1 : Int32) dX3_speak_61 ic_1 rfl ?_
    refine wp_isub dX3_speak_62 rfl ?_
    refine wp_mmin dX3_speak_63 ok_X3_179 (by decide) ⟨Nat.le_refl _, Nat.le_refl _⟩ (Nat.le_of_ble_eq_true rfl) rfl ?_
    refine wp_goto 75 dX3_speak_66 rfl ?_
    exact wm_mask (L' := [some (.ref a), some (.int v1), some (.int v2), some (.int v3), some (.int v4), some (.int v5), some (.int t0), none, none, none, none]) [true, true, true, true, true, true, true, false, false, false, false] rfl (k_X3_speak_J75 ha h hP)
noncomputable def f_X3_speak (a : Nat) (p1 : Int32) (p2 : Int32) (m : Mem) : Option Mem := ck p1 10 (ck p2 6 (bnd ((gI m 12 (ix p1)) &&& (gI m 13 (ix p2))) (fun y1 => bnd (y1 &&& ((gI m a 9) ^^^ (-1 : Int32))) (fun y2 => (f_X3_whoStops a p1 m).bind (fun q3 => if q3.1 = (-2 : Int32) then f_X3_speak_J49 a p1 p2 y1 y2 q3.1 (0 : Int32) q3.2 else f_X3_speak_J49 a p1 p2 y1 y2 q3.1 (1 : Int32) q3.2)))))
theorem k_X3_speak_E {g : Gx} {a : Nat} (ha : MA a) {p1 : Int32} {p2 : Int32} {Q : Qy} {m : Mem} {t : Mem} (h : f_X3_speak a p1 p2 m = some t) (hP : pV Q t) : WpM g 3 mi_X3_speak 0 [some (.ref a), some (.int p1), some (.int p2), none, none, none, none, none, none, none, none] [] m (zM g mi_X3_speak Q) := by
  refine wp_aload_n dX3_speak_0 rfl rfl ?_
  refine wm_getR dX3_speak_1 (sM_0 ha) fk_X3_47 rfl (rM_10 ha) rfl ?_
  refine wm_getR dX3_speak_4 s_1 fk_X3_115 rfl r_1_10 rfl ?_
  refine wp_iload_n dX3_speak_7 rfl rfl ?_
  refine wm_iald dX3_speak_8 s_12 rfl h (fun h => ?_)
  refine wp_aload_n dX3_speak_9 rfl rfl ?_
  refine wm_getR dX3_speak_10 (sM_0 ha) fk_X3_47 rfl (rM_10 ha) rfl ?_
  refine wm_getR dX3_speak_13 s_1 fk_X3_121 rfl r_1_11 rfl ?_
  refine wp_iload_n dX3_speak_16 rfl rfl ?_
  refine wm_iald dX3_speak_17 s_13 rfl h (fun h => ?_)
  refine wp_iand dX3_speak_18 rfl ?_
  refine wm_nm h (fun y1 h => ?_)
  refine wp_istore_n (L' := [some (.ref a), some (.int p1), some (.int p2), some (.int y1), none, none, none, none, none, none, none]) dX3_speak_19 (by decide) rfl rfl rfl ?_
  refine wp_iload_n dX3_speak_20 rfl rfl ?_
  refine wp_aload_n dX3_speak_21 rfl rfl ?_
  refine wm_getI dX3_speak_22 (sM_0 ha) fk_X3_64 rfl rfl ?_
  refine wp_iconst (-1 : Int32) dX3_speak_25 ic_m1 rfl ?_
  refine wp_ixor dX3_speak_26 rfl ?_
  refine wp_iand dX3_speak_27 rfl ?_
  refine wm_nm h (fun y2 h => ?_)
  refine wp_istore (L' := [some (.ref a), some (.int p1), some (.int p2), some (.int y1), some (.int y2), none, none, none, none, none, none]) dX3_speak_28 (by decide) rfl rfl rfl ?_
  refine wp_aload_n dX3_speak_30 rfl rfl ?_
  refine wp_iload_n dX3_speak_31 rfl rfl ?_
  refine wm_callVI (As := [.int p1]) (rest := []) dX3_speak_32 ok_X3_176 (by decide) rfl (sM_0 ha) ⟨_, rfl⟩ (Nat.le_of_ble_eq_true rfl) ⟨rfl, rfl⟩ rfl (fun t h => o_X3_whoStops ha h) h (fun q3 h => ?_)
  refine wp_istore (L' := [some (.ref a), some (.int p1), some (.int p2), some (.int y1), some (.int y2), some (.int q3.1), none, none, none, none, none]) dX3_speak_35 (by decide) rfl rfl rfl ?_
  refine wp_iload dX3_speak_37 rfl rfl ?_
  refine wp_bipush (-2 : Int32) dX3_speak_39 ib_m2 rfl ?_
  refine wm_icmp_eq 48 dX3_speak_41 rfl rfl h (fun h => ?_) (fun h => ?_)
  · refine wp_iconst (0 : Int32) dX3_speak_48 ic_0 rfl ?_
    exact wm_mask (L' := [some (.ref a), some (.int p1), some (.int p2), some (.int y1), some (.int y2), some (.int q3.1), none, none, none, none, none]) [true, true, true, true, true, true, false, false, false, false, false] rfl (k_X3_speak_J49 ha h hP)
  · refine wp_iconst (1 : Int32) dX3_speak_44 ic_1 rfl ?_
    refine wp_goto 49 dX3_speak_45 rfl ?_
    exact wm_mask (L' := [some (.ref a), some (.int p1), some (.int p2), some (.int y1), some (.int y2), some (.int q3.1), none, none, none, none, none]) [true, true, true, true, true, true, false, false, false, false, false] rfl (k_X3_speak_J49 ha h hP)
theorem o_X3_speak {g : Gx} {a : Nat} (ha : MA a) {p1 : Int32} {p2 : Int32} {m : Mem} {t : Mem} (h : f_X3_speak a p1 p2 m = some t) : MxM g 3 mi_X3_speak [.ref a, .int p1, .int p2] m (qV t) := mx_of pn_X3 (Nat.le_of_ble_eq_true rfl) (k_X3_speak_E ha h ⟨rfl, rfl, rfl, rfl, rfl⟩)
abbrev A_X3_discuss_44 (g : Gx) (a : Nat) (Q : Qy) (s : Int32 × Int32 × Int32 × Mem) : Prop := WpM g 4 mi_X3_discuss 44 [some (.ref a), some (.int s.1), some (.int s.2.1), some (.int s.2.2.1)] [] s.2.2.2 (zM g mi_X3_discuss Q)
abbrev P_X3_discuss_44 (g : Gx) (a : Nat) (Q : Qy) : ((Int32 × Int32 × Int32 × Mem) ⊕ Mem) → Prop := pS (A_X3_discuss_44 g a Q) (pV Q)
noncomputable def f_X3_discuss_L44 (a : Nat) (s : Int32 × Int32 × Int32 × Mem) : Option ((Int32 × Int32 × Int32 × Mem) ⊕ Mem) := if (200 : Int32) ≤ s.2.2.1 then up (some s.2.2.2) else if s.2.1 < 0 then up (some s.2.2.2) else ck s.1 6 (if (60 : Int32) ≤ (gI s.2.2.2 (a + 2) (ix s.1)) then up (some s.2.2.2) else (f_X3_weigh a s.1 s.2.2.2).bind (fun q3 => (f_X3_nextSpeaker a q3).bind (fun q4 => if q4.1 < 0 then bnd (s.2.2.1 + (1 : Int32)) (fun y5 => some (Sum.inl (s.1, q4.1, y5, q4.2))) else (f_X3_speak a q4.1 s.1 q4.2).bind (fun q6 => bnd (s.2.2.1 + (1 : Int32)) (fun y7 => some (Sum.inl (s.1, q4.1, y7, q6)))))))
theorem k_X3_discuss_L44 {g : Gx} {a : Nat} (ha : MA a) {Q : Qy} {s : Int32 × Int32 × Int32 × Mem} {t : (Int32 × Int32 × Int32 × Mem) ⊕ Mem} (h : f_X3_discuss_L44 a s = some t) (hP : P_X3_discuss_44 g a Q t) : A_X3_discuss_44 g a Q s := by
  refine wp_iload_n dX3_discuss_44 rfl rfl ?_
  refine wp_sipush (200 : Int32) dX3_discuss_45 is_200 rfl ?_
  refine wm_icmp_ge 92 dX3_discuss_48 rfl rfl h (fun h => ?_) (fun h => ?_)
  · refine wm_up h hP (fun r h hP => ?_)
    exact wm_vret dX3_discuss_92 rfl ⟨rfl, rfl⟩ h hP
  · refine wp_iload_n dX3_discuss_51 rfl rfl ?_
    refine wm_if_lt 92 dX3_discuss_52 rfl rfl h (fun h => ?_) (fun h => ?_)
    · refine wm_up h hP (fun r h hP => ?_)
      exact wm_vret dX3_discuss_92 rfl ⟨rfl, rfl⟩ h hP
    · refine wp_aload_n dX3_discuss_55 rfl rfl ?_
      refine wm_getR dX3_discuss_56 (sM_0 ha) fk_X3_15 rfl (rM_1 ha) rfl ?_
      refine wp_iload_n dX3_discuss_59 rfl rfl ?_
      refine wm_iald dX3_discuss_60 (sM_2 ha) rfl h (fun h => ?_)
      refine wp_bipush (60 : Int32) dX3_discuss_61 ib_60 rfl ?_
      refine wm_icmp_ge 92 dX3_discuss_63 rfl rfl h (fun h => ?_) (fun h => ?_)
      · refine wm_up h hP (fun r h hP => ?_)
        exact wm_vret dX3_discuss_92 rfl ⟨rfl, rfl⟩ h hP
      · refine wp_aload_n dX3_discuss_66 rfl rfl ?_
        refine wp_iload_n dX3_discuss_67 rfl rfl ?_
        refine wm_callVN (As := [.int s.1]) (rest := []) dX3_discuss_68 ok_X3_94 (by decide) rfl (sM_0 ha) ⟨_, rfl⟩ (Nat.le_of_ble_eq_true rfl) ⟨rfl, rfl⟩ rfl (fun t h => o_X3_weigh ha h) h (fun q3 h => ?_)
        refine wp_aload_n dX3_discuss_71 rfl rfl ?_
        refine wm_callVI (As := []) (rest := []) dX3_discuss_72 ok_X3_97 (by decide) rfl (sM_0 ha) ⟨_, rfl⟩ (Nat.le_of_ble_eq_true rfl) ⟨rfl, rfl⟩ rfl (fun t h => o_X3_nextSpeaker ha h) h (fun q4 h => ?_)
        refine wp_istore_n (L' := [some (.ref a), some (.int s.1), some (.int q4.1), some (.int s.2.2.1)]) dX3_discuss_75 (by decide) rfl rfl rfl ?_
        refine wp_iload_n dX3_discuss_76 rfl rfl ?_
        refine wm_if_lt 86 dX3_discuss_77 rfl rfl h (fun h => ?_) (fun h => ?_)
        · refine wm_inc dX3_discuss_86 rfl ii_1 (by decide) rfl rfl h (fun y5 h => ?_)
          refine wm_list (L' := [some (.ref a), some (.int s.1), some (.int q4.1), some (.int y5)]) rfl ?_
          refine wp_goto 44 dX3_discuss_89 rfl ?_
          have hB := wm_back h hP
          exact wm_mask (L' := [some (.ref a), some (.int s.1), some (.int q4.1), some (.int y5)]) [true, true, true, true] rfl (hB)
        · refine wp_aload_n dX3_discuss_80 rfl rfl ?_
          refine wp_iload_n dX3_discuss_81 rfl rfl ?_
          refine wp_iload_n dX3_discuss_82 rfl rfl ?_
          refine wm_callVN (As := [.int q4.1, .int s.1]) (rest := []) dX3_discuss_83 ok_X3_101 (by decide) rfl (sM_0 ha) ⟨_, rfl⟩ (Nat.le_of_ble_eq_true rfl) ⟨rfl, rfl⟩ rfl (fun t h => o_X3_speak ha h) h (fun q6 h => ?_)
          refine wm_inc dX3_discuss_86 rfl ii_1 (by decide) rfl rfl h (fun y7 h => ?_)
          refine wm_list (L' := [some (.ref a), some (.int s.1), some (.int q4.1), some (.int y7)]) rfl ?_
          refine wp_goto 44 dX3_discuss_89 rfl ?_
          have hB := wm_back h hP
          exact wm_mask (L' := [some (.ref a), some (.int s.1), some (.int q4.1), some (.int y7)]) [true, true, true, true] rfl (hB)
noncomputable def f_X3_discuss (a : Nat) (p1 : Int32) (m : Mem) : Option Mem := if p1 < 0 then some m else if p1 < (gI m 1 14) then (f_J7_fill_53178 (a + 10) 10 (0 : Int32) m).bind (fun q1 => if ¬ (gI q1 a 15) = (5 : Int32) then bnd (gI q1 a 7) (fun y2 => wh (f_X3_discuss_L44 a) (p1, (0 : Int32), y2, q1)) else (f_X3_writeDown a p1 q1).bind (fun q8 => bnd (gI q8 a 7) (fun y9 => wh (f_X3_discuss_L44 a) (p1, (0 : Int32), y9, q8)))) else some m
theorem k_X3_discuss_E {g : Gx} {a : Nat} (ha : MA a) {p1 : Int32} {Q : Qy} {m : Mem} {t : Mem} (h : f_X3_discuss a p1 m = some t) (hP : pV Q t) : WpM g 4 mi_X3_discuss 0 [some (.ref a), some (.int p1), none, none] [] m (zM g mi_X3_discuss Q) := by
  refine wp_iload_n dX3_discuss_0 rfl rfl ?_
  refine wm_if_lt 15 dX3_discuss_1 rfl rfl h (fun h => ?_) (fun h => ?_)
  · exact wm_vret dX3_discuss_15 rfl ⟨rfl, rfl⟩ h hP
  · refine wp_iload_n dX3_discuss_4 rfl rfl ?_
    refine wp_aload_n dX3_discuss_5 rfl rfl ?_
    refine wm_getR dX3_discuss_6 (sM_0 ha) fk_X3_47 rfl (rM_10 ha) rfl ?_
    refine wm_getI dX3_discuss_9 s_1 fk_X3_82 rfl rfl ?_
    refine wm_icmp_lt 16 dX3_discuss_12 rfl rfl h (fun h => ?_) (fun h => ?_)
    · refine wp_aload_n dX3_discuss_16 rfl rfl ?_
      refine wm_getR dX3_discuss_17 (sM_0 ha) fk_X3_41 rfl (rM_13 ha) rfl ?_
      refine wp_iconst (0 : Int32) dX3_discuss_20 ic_0 rfl ?_
      refine wm_callSN (As := [.ref (a + 10), .int (0 : Int32)]) (rest := []) dX3_discuss_21 ok_X3_51 (by decide) rfl (Nat.le_of_ble_eq_true rfl) ⟨rfl, rfl⟩ rfl (fun t h => o_J7_fill_53178 (sM_10 ha) h) h (fun q1 h => ?_)
      refine wp_aload_n dX3_discuss_24 rfl rfl ?_
      refine wm_getI dX3_discuss_25 (sM_0 ha) fk_X3_73 rfl rfl ?_
      refine wp_iconst (5 : Int32) dX3_discuss_28 ic_5 rfl ?_
      refine wm_icmp_ne 37 dX3_discuss_29 rfl rfl h (fun h => ?_) (fun h => ?_)
      · refine wp_iconst (0 : Int32) dX3_discuss_37 ic_0 rfl ?_
        refine wp_istore_n (L' := [some (.ref a), some (.int p1), some (.int (0 : Int32)), none]) dX3_discuss_38 (by decide) rfl rfl rfl ?_
        refine wp_aload_n dX3_discuss_39 rfl rfl ?_
        refine wm_getI dX3_discuss_40 (sM_0 ha) fk_X3_57 rfl rfl ?_
        refine wm_nm h (fun y2 h => ?_)
        refine wp_istore_n (L' := [some (.ref a), some (.int p1), some (.int (0 : Int32)), some (.int y2)]) dX3_discuss_43 (by decide) rfl rfl rfl ?_
        have hB := wh_ok (A := A_X3_discuss_44 g a Q) (B := pV Q) (fun s t h hP => k_X3_discuss_L44 ha h hP) h hP
        exact wm_mask (L' := [some (.ref a), some (.int p1), some (.int (0 : Int32)), some (.int y2)]) [true, true, true, true] rfl (hB)
      · refine wp_aload_n dX3_discuss_32 rfl rfl ?_
        refine wp_iload_n dX3_discuss_33 rfl rfl ?_
        refine wm_callVN (As := [.int p1]) (rest := []) dX3_discuss_34 ok_X3_91 (by decide) rfl (sM_0 ha) ⟨_, rfl⟩ (Nat.le_of_ble_eq_true rfl) ⟨rfl, rfl⟩ rfl (fun t h => o_X3_writeDown ha h) h (fun q8 h => ?_)
        refine wp_iconst (0 : Int32) dX3_discuss_37 ic_0 rfl ?_
        refine wp_istore_n (L' := [some (.ref a), some (.int p1), some (.int (0 : Int32)), none]) dX3_discuss_38 (by decide) rfl rfl rfl ?_
        refine wp_aload_n dX3_discuss_39 rfl rfl ?_
        refine wm_getI dX3_discuss_40 (sM_0 ha) fk_X3_57 rfl rfl ?_
        refine wm_nm h (fun y9 h => ?_)
        refine wp_istore_n (L' := [some (.ref a), some (.int p1), some (.int (0 : Int32)), some (.int y9)]) dX3_discuss_43 (by decide) rfl rfl rfl ?_
        have hB := wh_ok (A := A_X3_discuss_44 g a Q) (B := pV Q) (fun s t h hP => k_X3_discuss_L44 ha h hP) h hP
        exact wm_mask (L' := [some (.ref a), some (.int p1), some (.int (0 : Int32)), some (.int y9)]) [true, true, true, true] rfl (hB)
    · exact wm_vret dX3_discuss_15 rfl ⟨rfl, rfl⟩ h hP
theorem o_X3_discuss {g : Gx} {a : Nat} (ha : MA a) {p1 : Int32} {m : Mem} {t : Mem} (h : f_X3_discuss a p1 m = some t) : MxM g 4 mi_X3_discuss [.ref a, .int p1] m (qV t) := mx_of pn_X3 (Nat.le_of_ble_eq_true rfl) (k_X3_discuss_E ha h ⟨rfl, rfl, rfl, rfl, rfl⟩)
abbrev A_X3_hold_23 (g : Gx) (a : Nat) (ag : Nat) (Q : Qy) (s : Int32 × Mem) : Prop := WpM g 5 mi_X3_hold 23 [some (.ref a), some (.ref ag), none, none, none, some (.int s.1)] [] s.2 (zM g mi_X3_hold Q)
abbrev P_X3_hold_23 (g : Gx) (a : Nat) (ag : Nat) (Q : Qy) : ((Int32 × Mem) ⊕ Mem) → Prop := pS (A_X3_hold_23 g a ag Q) (pV Q)
noncomputable def f_X3_hold_L23 (a : Nat) (ag : Nat) (s : Int32 × Mem) : Option ((Int32 × Mem) ⊕ Mem) := if (gI s.2 1 14) ≤ s.1 then up (some s.2) else if (nI 6) ≤ s.1 then up (some s.2) else ck s.1 6 ((f_X3_discuss a (gI s.2 ag (ix s.1)) s.2).bind (fun q5 => bnd (s.1 + (1 : Int32)) (fun y6 => some (Sum.inl (y6, q5)))))
theorem k_X3_hold_L23 {g : Gx} {a : Nat} {ag : Nat} (ha : MA a) (hag : shF[ag]? = some (0, 6)) {Q : Qy} {s : Int32 × Mem} {t : (Int32 × Mem) ⊕ Mem} (h : f_X3_hold_L23 a ag s = some t) (hP : P_X3_hold_23 g a ag Q t) : A_X3_hold_23 g a ag Q s := by
  refine wp_iload dX3_hold_23 rfl rfl ?_
  refine wp_aload_n dX3_hold_25 rfl rfl ?_
  refine wm_getR dX3_hold_26 (sM_0 ha) fk_X3_47 rfl (rM_10 ha) rfl ?_
  refine wm_getI dX3_hold_29 s_1 fk_X3_82 rfl rfl ?_
  refine wm_icmp_ge 56 dX3_hold_32 rfl rfl h (fun h => ?_) (fun h => ?_)
  · refine wm_up h hP (fun r h hP => ?_)
    exact wm_vret dX3_hold_56 rfl ⟨rfl, rfl⟩ h hP
  · refine wp_iload dX3_hold_35 rfl rfl ?_
    refine wp_aload_n dX3_hold_37 rfl rfl ?_
    refine wp_alen (nI 6) dX3_hold_38 hag (by decide) rfl rfl ?_
    refine wm_icmp_ge 56 dX3_hold_39 rfl rfl h (fun h => ?_) (fun h => ?_)
    · refine wm_up h hP (fun r h hP => ?_)
      exact wm_vret dX3_hold_56 rfl ⟨rfl, rfl⟩ h hP
    · refine wp_aload_n dX3_hold_42 rfl rfl ?_
      refine wp_aload_n dX3_hold_43 rfl rfl ?_
      refine wp_iload dX3_hold_44 rfl rfl ?_
      refine wm_iald dX3_hold_46 hag rfl h (fun h => ?_)
      refine wm_callVN (As := [.int (gI s.2 ag (ix s.1))]) (rest := []) dX3_hold_47 ok_X3_87 (by decide) rfl (sM_0 ha) ⟨_, rfl⟩ (Nat.le_of_ble_eq_true rfl) ⟨rfl, rfl⟩ rfl (fun t h => o_X3_discuss ha h) h (fun q5 h => ?_)
      refine wm_inc dX3_hold_50 rfl ii_1 (by decide) rfl rfl h (fun y6 h => ?_)
      refine wm_list (L' := [some (.ref a), some (.ref ag), none, none, none, some (.int y6)]) rfl ?_
      refine wp_goto 23 dX3_hold_53 rfl ?_
      have hB := wm_back h hP
      exact wm_mask (L' := [some (.ref a), some (.ref ag), none, none, none, some (.int y6)]) [true, true, false, false, false, true] rfl (hB)
noncomputable def f_X3_hold (a : Nat) (ag : Nat) (p2 : Int32) (p3 : Int32) (p4 : Int32) (m : Mem) : Option Mem := (f_X3_clear a m).bind (fun q1 => bnd (sI q1 a 15 p2) (fun m2 => bnd (sI m2 a 16 p3) (fun m3 => bnd (sI m3 a 17 p4) (fun m4 => wh (f_X3_hold_L23 a ag) ((0 : Int32), m4)))))
theorem k_X3_hold_E {g : Gx} {a : Nat} {ag : Nat} (ha : MA a) (hag : shF[ag]? = some (0, 6)) {p2 : Int32} {p3 : Int32} {p4 : Int32} {Q : Qy} {m : Mem} {t : Mem} (h : f_X3_hold a ag p2 p3 p4 m = some t) (hP : pV Q t) : WpM g 5 mi_X3_hold 0 [some (.ref a), some (.ref ag), some (.int p2), some (.int p3), some (.int p4), none] [] m (zM g mi_X3_hold Q) := by
  refine wp_aload_n dX3_hold_0 rfl rfl ?_
  refine wm_callVN (As := []) (rest := []) dX3_hold_1 ok_X3_70 (by decide) rfl (sM_0 ha) ⟨_, rfl⟩ (Nat.le_of_ble_eq_true rfl) ⟨rfl, rfl⟩ rfl (fun t h => o_X3_clear ha h) h (fun q1 h => ?_)
  refine wp_aload_n dX3_hold_4 rfl rfl ?_
  refine wp_iload_n dX3_hold_5 rfl rfl ?_
  refine wm_putI dX3_hold_6 (sM_0 ha) fk_X3_73 rfl rfl h (fun m2 h => ?_)
  refine wp_aload_n dX3_hold_9 rfl rfl ?_
  refine wp_iload_n dX3_hold_10 rfl rfl ?_
  refine wm_putI dX3_hold_11 (sM_0 ha) fk_X3_76 rfl rfl h (fun m3 h => ?_)
  refine wp_aload_n dX3_hold_14 rfl rfl ?_
  refine wp_iload dX3_hold_15 rfl rfl ?_
  refine wm_putI dX3_hold_17 (sM_0 ha) fk_X3_79 rfl rfl h (fun m4 h => ?_)
  refine wp_iconst (0 : Int32) dX3_hold_20 ic_0 rfl ?_
  refine wp_istore (L' := [some (.ref a), some (.ref ag), some (.int p2), some (.int p3), some (.int p4), some (.int (0 : Int32))]) dX3_hold_21 (by decide) rfl rfl rfl ?_
  have hB := wh_ok (A := A_X3_hold_23 g a ag Q) (B := pV Q) (fun s t h hP => k_X3_hold_L23 ha hag h hP) h hP
  exact wm_mask (L' := [some (.ref a), some (.ref ag), none, none, none, some (.int (0 : Int32))]) [true, true, false, false, false, true] rfl (hB)
theorem o_X3_hold {g : Gx} {a : Nat} {ag : Nat} (ha : MA a) (hag : shF[ag]? = some (0, 6)) {p2 : Int32} {p3 : Int32} {p4 : Int32} {m : Mem} {t : Mem} (h : f_X3_hold a ag p2 p3 p4 m = some t) : MxM g 5 mi_X3_hold [.ref a, .ref ag, .int p2, .int p3, .int p4] m (qV t) := mx_of pn_X3 (Nat.le_of_ble_eq_true rfl) (k_X3_hold_E ha hag h ⟨rfl, rfl, rfl, rfl, rfl⟩)
abbrev A_X6_knownCards_4 (g : Gx)  (Q : Qy) (s : Int32 × Int32 × Mem) : Prop := WpM g 1 mi_X6_knownCards 4 [some (.ref 1), some (.int s.1), some (.int s.2.1)] [] s.2.2 (zM g mi_X6_knownCards Q)
abbrev P_X6_knownCards_4 (g : Gx)  (Q : Qy) : ((Int32 × Int32 × Mem) ⊕ (Int32 × Mem)) → Prop := pS (A_X6_knownCards_4 g Q) (pI Q)
noncomputable def f_X6_knownCards_L4  (s : Int32 × Int32 × Mem) : Option ((Int32 × Int32 × Mem) ⊕ (Int32 × Mem)) := if (gI s.2.2 1 13) ≤ s.2.1 then up (some (s.1, s.2.2)) else ck s.2.1 10 (bnd (s.1 ||| (gI s.2.2 12 (ix s.2.1))) (fun y1 => bnd (s.2.1 + (1 : Int32)) (fun y2 => some (Sum.inl (y1, y2, s.2.2)))))
theorem k_X6_knownCards_L4 {g : Gx}  {Q : Qy} {s : Int32 × Int32 × Mem} {t : (Int32 × Int32 × Mem) ⊕ (Int32 × Mem)} (h : f_X6_knownCards_L4 s = some t) (hP : P_X6_knownCards_4 g Q t) : A_X6_knownCards_4 g Q s := by
  refine wp_iload_n dX6_knownCards_4 rfl rfl ?_
  refine wp_aload_n dX6_knownCards_5 rfl rfl ?_
  refine wm_getI dX6_knownCards_6 s_1 fk_X6_55 rfl rfl ?_
  refine wm_icmp_ge 27 dX6_knownCards_9 rfl rfl h (fun h => ?_) (fun h => ?_)
  · refine wm_up h hP (fun r h hP => ?_)
    refine wp_iload_n dX6_knownCards_27 rfl rfl ?_
    exact wm_iret dX6_knownCards_28 rfl ⟨rfl, rfl⟩ h hP
  · refine wp_iload_n dX6_knownCards_12 rfl rfl ?_
    refine wp_aload_n dX6_knownCards_13 rfl rfl ?_
    refine wm_getR dX6_knownCards_14 s_1 fk_X6_42 rfl r_1_10 rfl ?_
    refine wp_iload_n dX6_knownCards_17 rfl rfl ?_
    refine wm_iald dX6_knownCards_18 s_12 rfl h (fun h => ?_)
    refine wp_ior dX6_knownCards_19 rfl ?_
    refine wm_nm h (fun y1 h => ?_)
    refine wp_istore_n (L' := [some (.ref 1), some (.int y1), some (.int s.2.1)]) dX6_knownCards_20 (by decide) rfl rfl rfl ?_
    refine wm_inc dX6_knownCards_21 rfl ii_1 (by decide) rfl rfl h (fun y2 h => ?_)
    refine wm_list (L' := [some (.ref 1), some (.int y1), some (.int y2)]) rfl ?_
    refine wp_goto 4 dX6_knownCards_24 rfl ?_
    have hB := wm_back h hP
    exact wm_mask (L' := [some (.ref 1), some (.int y1), some (.int y2)]) [true, true, true] rfl (hB)
noncomputable def f_X6_knownCards   (m : Mem) : Option (Int32 × Mem) := wh (f_X6_knownCards_L4) ((0 : Int32), (0 : Int32), m)
theorem k_X6_knownCards_E {g : Gx}   {Q : Qy} {m : Mem} {t : Int32 × Mem} (h : f_X6_knownCards m = some t) (hP : pI Q t) : WpM g 1 mi_X6_knownCards 0 [some (.ref 1), none, none] [] m (zM g mi_X6_knownCards Q) := by
  refine wp_iconst (0 : Int32) dX6_knownCards_0 ic_0 rfl ?_
  refine wp_istore_n (L' := [some (.ref 1), some (.int (0 : Int32)), none]) dX6_knownCards_1 (by decide) rfl rfl rfl ?_
  refine wp_iconst (0 : Int32) dX6_knownCards_2 ic_0 rfl ?_
  refine wp_istore_n (L' := [some (.ref 1), some (.int (0 : Int32)), some (.int (0 : Int32))]) dX6_knownCards_3 (by decide) rfl rfl rfl ?_
  have hB := wh_ok (A := A_X6_knownCards_4 g Q) (B := pI Q) (fun s t h hP => k_X6_knownCards_L4  h hP) h hP
  exact wm_mask (L' := [some (.ref 1), some (.int (0 : Int32)), some (.int (0 : Int32))]) [true, true, true] rfl (hB)
theorem o_X6_knownCards {g : Gx}   {m : Mem} {t : Int32 × Mem} (h : f_X6_knownCards m = some t) : MxM g 1 mi_X6_knownCards [.ref 1] m (qI t) := mx_of pn_X6 (Nat.le_of_ble_eq_true rfl) (k_X6_knownCards_E h ⟨rfl, rfl, rfl, rfl, rfl⟩)
noncomputable def f_X3_wrong (a : Nat)  (m : Mem) : Option (Int32 × Mem) := (f_X3_decided a m).bind (fun q1 => (f_X6_knownCards q1.2).bind (fun q2 => (f_X6_decided q2.1 q2.2).bind (fun q3 => some ((q1.1 ^^^ q3.1), q3.2))))
theorem k_X3_wrong_E {g : Gx} {a : Nat} (ha : MA a)  {Q : Qy} {m : Mem} {t : Int32 × Mem} (h : f_X3_wrong a m = some t) (hP : pI Q t) : WpM g 4 mi_X3_wrong 0 [some (.ref a)] [] m (zM g mi_X3_wrong Q) := by
  refine wp_aload_n dX3_wrong_0 rfl rfl ?_
  refine wm_callVI (As := []) (rest := []) dX3_wrong_1 ok_X3_201 (by decide) rfl (sM_0 ha) ⟨_, rfl⟩ (Nat.le_of_ble_eq_true rfl) ⟨rfl, rfl⟩ rfl (fun t h => o_X3_decided ha h) h (fun q1 h => ?_)
  refine wp_aload_n dX3_wrong_4 rfl rfl ?_
  refine wm_getR dX3_wrong_5 (sM_0 ha) fk_X3_47 rfl (rM_10 ha) rfl ?_
  refine wp_aload_n dX3_wrong_8 rfl rfl ?_
  refine wm_getR dX3_wrong_9 (sM_0 ha) fk_X3_47 rfl (rM_10 ha) rfl ?_
  refine wm_callVI (As := []) (rest := [.ref 1, .int q1.1]) dX3_wrong_12 ok_X3_203 (by decide) rfl s_1 ⟨_, rfl⟩ (Nat.le_of_ble_eq_true rfl) ⟨rfl, rfl⟩ rfl (fun t h => o_X6_knownCards h) h (fun q2 h => ?_)
  refine wm_callVI (As := [.int q2.1]) (rest := [.int q1.1]) dX3_wrong_15 ok_X3_198 (by decide) rfl s_1 ⟨_, rfl⟩ (Nat.le_of_ble_eq_true rfl) ⟨rfl, rfl⟩ rfl (fun t h => o_X6_decided h) h (fun q3 h => ?_)
  refine wp_ixor dX3_wrong_18 rfl ?_
  exact wm_iret dX3_wrong_19 rfl ⟨rfl, rfl⟩ h hP
theorem o_X3_wrong {g : Gx} {a : Nat} (ha : MA a)  {m : Mem} {t : Int32 × Mem} (h : f_X3_wrong a m = some t) : MxM g 4 mi_X3_wrong [.ref a] m (qI t) := mx_of pn_X3 (Nat.le_of_ble_eq_true rfl) (k_X3_wrong_E ha h ⟨rfl, rfl, rfl, rfl, rfl⟩)
noncomputable def f_X4_hadCard  (p1 : Int32) (m : Mem) : Option (Int32 × Mem) := if (gI m 24 3) = 0 then bz (0 : Int32) (some ((0 : Int32), m)) else if p1 < 0 then bz (0 : Int32) (some ((0 : Int32), m)) else if (gI m 24 10) ≤ p1 then bz (0 : Int32) (some ((0 : Int32), m)) else bz (1 : Int32) (some ((1 : Int32), m))
theorem k_X4_hadCard_E {g : Gx}  {p1 : Int32} {Q : Qy} {m : Mem} {t : Int32 × Mem} (h : f_X4_hadCard p1 m = some t) (hP : pI Q t) : WpM g 1 mi_X4_hadCard 0 [some (.ref 24), some (.int p1)] [] m (zM g mi_X4_hadCard Q) := by
  refine wp_aload_n dX4_hadCard_0 rfl rfl ?_
  refine wm_getI dX4_hadCard_1 s_24 fk_X4_57 rfl rfl ?_
  refine wm_if_eq 23 dX4_hadCard_4 rfl rfl h (fun h => ?_) (fun h => ?_)
  · refine wp_iconst (0 : Int32) dX4_hadCard_23 ic_0 rfl ?_
    exact wm_zret dX4_hadCard_24 rfl ⟨rfl, rfl⟩ h hP
  · refine wp_iload_n dX4_hadCard_7 rfl rfl ?_
    refine wm_if_lt 23 dX4_hadCard_8 rfl rfl h (fun h => ?_) (fun h => ?_)
    · refine wp_iconst (0 : Int32) dX4_hadCard_23 ic_0 rfl ?_
      exact wm_zret dX4_hadCard_24 rfl ⟨rfl, rfl⟩ h hP
    · refine wp_iload_n dX4_hadCard_11 rfl rfl ?_
      refine wp_aload_n dX4_hadCard_12 rfl rfl ?_
      refine wm_getI dX4_hadCard_13 s_24 fk_X4_69 rfl rfl ?_
      refine wm_icmp_ge 23 dX4_hadCard_16 rfl rfl h (fun h => ?_) (fun h => ?_)
      · refine wp_iconst (0 : Int32) dX4_hadCard_23 ic_0 rfl ?_
        exact wm_zret dX4_hadCard_24 rfl ⟨rfl, rfl⟩ h hP
      · refine wp_iconst (1 : Int32) dX4_hadCard_19 ic_1 rfl ?_
        refine wp_goto 24 dX4_hadCard_20 rfl ?_
        exact wm_zret dX4_hadCard_24 rfl ⟨rfl, rfl⟩ h hP
theorem o_X4_hadCard {g : Gx}  {p1 : Int32} {m : Mem} {t : Int32 × Mem} (h : f_X4_hadCard p1 m = some t) : MxM g 1 mi_X4_hadCard [.ref 24, .int p1] m (qI t) := mx_of pn_X4 (Nat.le_of_ble_eq_true rfl) (k_X4_hadCard_E h ⟨rfl, rfl, rfl, rfl, rfl⟩)
noncomputable def f_X4_hadPerson  (p1 : Int32) (m : Mem) : Option (Int32 × Mem) := if (gI m 24 3) = 0 then bz (0 : Int32) (some ((0 : Int32), m)) else if p1 < 0 then bz (0 : Int32) (some ((0 : Int32), m)) else if (gI m 24 8) ≤ p1 then bz (0 : Int32) (some ((0 : Int32), m)) else bz (1 : Int32) (some ((1 : Int32), m))
theorem k_X4_hadPerson_E {g : Gx}  {p1 : Int32} {Q : Qy} {m : Mem} {t : Int32 × Mem} (h : f_X4_hadPerson p1 m = some t) (hP : pI Q t) : WpM g 1 mi_X4_hadPerson 0 [some (.ref 24), some (.int p1)] [] m (zM g mi_X4_hadPerson Q) := by
  refine wp_aload_n dX4_hadPerson_0 rfl rfl ?_
  refine wm_getI dX4_hadPerson_1 s_24 fk_X4_57 rfl rfl ?_
  refine wm_if_eq 23 dX4_hadPerson_4 rfl rfl h (fun h => ?_) (fun h => ?_)
  · refine wp_iconst (0 : Int32) dX4_hadPerson_23 ic_0 rfl ?_
    exact wm_zret dX4_hadPerson_24 rfl ⟨rfl, rfl⟩ h hP
  · refine wp_iload_n dX4_hadPerson_7 rfl rfl ?_
    refine wm_if_lt 23 dX4_hadPerson_8 rfl rfl h (fun h => ?_) (fun h => ?_)
    · refine wp_iconst (0 : Int32) dX4_hadPerson_23 ic_0 rfl ?_
      exact wm_zret dX4_hadPerson_24 rfl ⟨rfl, rfl⟩ h hP
    · refine wp_iload_n dX4_hadPerson_11 rfl rfl ?_
      refine wp_aload_n dX4_hadPerson_12 rfl rfl ?_
      refine wm_getI dX4_hadPerson_13 s_24 fk_X4_64 rfl rfl ?_
      refine wm_icmp_ge 23 dX4_hadPerson_16 rfl rfl h (fun h => ?_) (fun h => ?_)
      · refine wp_iconst (0 : Int32) dX4_hadPerson_23 ic_0 rfl ?_
        exact wm_zret dX4_hadPerson_24 rfl ⟨rfl, rfl⟩ h hP
      · refine wp_iconst (1 : Int32) dX4_hadPerson_19 ic_1 rfl ?_
        refine wp_goto 24 dX4_hadPerson_20 rfl ?_
        exact wm_zret dX4_hadPerson_24 rfl ⟨rfl, rfl⟩ h hP
theorem o_X4_hadPerson {g : Gx}  {p1 : Int32} {m : Mem} {t : Int32 × Mem} (h : f_X4_hadPerson p1 m = some t) : MxM g 1 mi_X4_hadPerson [.ref 24, .int p1] m (qI t) := mx_of pn_X4 (Nat.le_of_ble_eq_true rfl) (k_X4_hadPerson_E h ⟨rfl, rfl, rfl, rfl, rfl⟩)
noncomputable def f_X4_hadThing  (p1 : Int32) (m : Mem) : Option (Int32 × Mem) := if (gI m 24 3) = 0 then bz (0 : Int32) (some ((0 : Int32), m)) else if p1 < 0 then bz (0 : Int32) (some ((0 : Int32), m)) else if (gI m 24 9) ≤ p1 then bz (0 : Int32) (some ((0 : Int32), m)) else bz (1 : Int32) (some ((1 : Int32), m))
theorem k_X4_hadThing_E {g : Gx}  {p1 : Int32} {Q : Qy} {m : Mem} {t : Int32 × Mem} (h : f_X4_hadThing p1 m = some t) (hP : pI Q t) : WpM g 1 mi_X4_hadThing 0 [some (.ref 24), some (.int p1)] [] m (zM g mi_X4_hadThing Q) := by
  refine wp_aload_n dX4_hadThing_0 rfl rfl ?_
  refine wm_getI dX4_hadThing_1 s_24 fk_X4_57 rfl rfl ?_
  refine wm_if_eq 23 dX4_hadThing_4 rfl rfl h (fun h => ?_) (fun h => ?_)
  · refine wp_iconst (0 : Int32) dX4_hadThing_23 ic_0 rfl ?_
    exact wm_zret dX4_hadThing_24 rfl ⟨rfl, rfl⟩ h hP
  · refine wp_iload_n dX4_hadThing_7 rfl rfl ?_
    refine wm_if_lt 23 dX4_hadThing_8 rfl rfl h (fun h => ?_) (fun h => ?_)
    · refine wp_iconst (0 : Int32) dX4_hadThing_23 ic_0 rfl ?_
      exact wm_zret dX4_hadThing_24 rfl ⟨rfl, rfl⟩ h hP
    · refine wp_iload_n dX4_hadThing_11 rfl rfl ?_
      refine wp_aload_n dX4_hadThing_12 rfl rfl ?_
      refine wm_getI dX4_hadThing_13 s_24 fk_X4_65 rfl rfl ?_
      refine wm_icmp_ge 23 dX4_hadThing_16 rfl rfl h (fun h => ?_) (fun h => ?_)
      · refine wp_iconst (0 : Int32) dX4_hadThing_23 ic_0 rfl ?_
        exact wm_zret dX4_hadThing_24 rfl ⟨rfl, rfl⟩ h hP
      · refine wp_iconst (1 : Int32) dX4_hadThing_19 ic_1 rfl ?_
        refine wp_goto 24 dX4_hadThing_20 rfl ?_
        exact wm_zret dX4_hadThing_24 rfl ⟨rfl, rfl⟩ h hP
theorem o_X4_hadThing {g : Gx}  {p1 : Int32} {m : Mem} {t : Int32 × Mem} (h : f_X4_hadThing p1 m = some t) : MxM g 1 mi_X4_hadThing [.ref 24, .int p1] m (qI t) := mx_of pn_X4 (Nat.le_of_ble_eq_true rfl) (k_X4_hadThing_E h ⟨rfl, rfl, rfl, rfl, rfl⟩)
abbrev A_X6_aloneCards_4 (g : Gx)  (Q : Qy) (s : Int32 × Int32 × Mem) : Prop := WpM g 2 mi_X6_aloneCards 4 [some (.ref 1), some (.int s.1), some (.int s.2.1)] [] s.2.2 (zM g mi_X6_aloneCards Q)
abbrev P_X6_aloneCards_4 (g : Gx)  (Q : Qy) : ((Int32 × Int32 × Mem) ⊕ (Int32 × Mem)) → Prop := pS (A_X6_aloneCards_4 g Q) (pI Q)
noncomputable def f_X6_aloneCards_L4  (s : Int32 × Int32 × Mem) : Option ((Int32 × Int32 × Mem) ⊕ (Int32 × Mem)) := if (gI s.2.2 1 15) ≤ s.2.1 then up (some (s.1, s.2.2)) else ck s.2.1 20 ((f_J6_bitCount_0f7a4 ((gI s.2.2 10 (ix s.2.1)) &&& (((1 : Int32) <<< ((gI s.2.2 1 13) &&& 31)) - (1 : Int32))) s.2.2).bind (fun q1 => if ¬ q1.1 = (1 : Int32) then bnd (s.2.1 + (1 : Int32)) (fun y2 => some (Sum.inl (s.1, y2, q1.2))) else bnd (s.1 ||| ((1 : Int32) <<< (s.2.1 &&& 31))) (fun y3 => bnd (s.2.1 + (1 : Int32)) (fun y4 => some (Sum.inl (y3, y4, q1.2))))))
theorem k_X6_aloneCards_L4 {g : Gx}  {Q : Qy} {s : Int32 × Int32 × Mem} {t : (Int32 × Int32 × Mem) ⊕ (Int32 × Mem)} (h : f_X6_aloneCards_L4 s = some t) (hP : P_X6_aloneCards_4 g Q t) : A_X6_aloneCards_4 g Q s := by
  refine wp_iload_n dX6_aloneCards_4 rfl rfl ?_
  refine wp_aload_n dX6_aloneCards_5 rfl rfl ?_
  refine wm_getI dX6_aloneCards_6 s_1 fk_X6_65 rfl rfl ?_
  refine wm_icmp_ge 46 dX6_aloneCards_9 rfl rfl h (fun h => ?_) (fun h => ?_)
  · refine wm_up h hP (fun r h hP => ?_)
    refine wp_iload_n dX6_aloneCards_46 rfl rfl ?_
    exact wm_iret dX6_aloneCards_47 rfl ⟨rfl, rfl⟩ h hP
  · refine wp_aload_n dX6_aloneCards_12 rfl rfl ?_
    refine wm_getR dX6_aloneCards_13 s_1 fk_X6_36 rfl r_1_8 rfl ?_
    refine wp_iload_n dX6_aloneCards_16 rfl rfl ?_
    refine wm_iald dX6_aloneCards_17 s_10 rfl h (fun h => ?_)
    refine wp_iconst (1 : Int32) dX6_aloneCards_18 ic_1 rfl ?_
    refine wp_aload_n dX6_aloneCards_19 rfl rfl ?_
    refine wm_getI dX6_aloneCards_20 s_1 fk_X6_55 rfl rfl ?_
    refine wp_ishl dX6_aloneCards_23 rfl ?_
    refine wp_iconst (1 : Int32) dX6_aloneCards_24 ic_1 rfl ?_
    refine wp_isub dX6_aloneCards_25 rfl ?_
    refine wp_iand dX6_aloneCards_26 rfl ?_
    refine wm_callSI (As := [.int ((gI s.2.2 10 (ix s.2.1)) &&& (((1 : Int32) <<< ((gI s.2.2 1 13) &&& 31)) - (1 : Int32)))]) (rest := []) dX6_aloneCards_27 ok_X6_94 (by decide) rfl (Nat.le_of_ble_eq_true rfl) ⟨rfl, rfl⟩ rfl (fun t h => o_J6_bitCount_0f7a4 h) h (fun q1 h => ?_)
    refine wp_iconst (1 : Int32) dX6_aloneCards_30 ic_1 rfl ?_
    refine wm_icmp_ne 40 dX6_aloneCards_31 rfl rfl h (fun h => ?_) (fun h => ?_)
    · refine wm_inc dX6_aloneCards_40 rfl ii_1 (by decide) rfl rfl h (fun y2 h => ?_)
      refine wm_list (L' := [some (.ref 1), some (.int s.1), some (.int y2)]) rfl ?_
      refine wp_goto 4 dX6_aloneCards_43 rfl ?_
      have hB := wm_back h hP
      exact wm_mask (L' := [some (.ref 1), some (.int s.1), some (.int y2)]) [true, true, true] rfl (hB)
    · refine wp_iload_n dX6_aloneCards_34 rfl rfl ?_
      refine wp_iconst (1 : Int32) dX6_aloneCards_35 ic_1 rfl ?_
      refine wp_iload_n dX6_aloneCards_36 rfl rfl ?_
      refine wp_ishl dX6_aloneCards_37 rfl ?_
      refine wp_ior dX6_aloneCards_38 rfl ?_
      refine wm_nm h (fun y3 h => ?_)
      refine wp_istore_n (L' := [some (.ref 1), some (.int y3), some (.int s.2.1)]) dX6_aloneCards_39 (by decide) rfl rfl rfl ?_
      refine wm_inc dX6_aloneCards_40 rfl ii_1 (by decide) rfl rfl h (fun y4 h => ?_)
      refine wm_list (L' := [some (.ref 1), some (.int y3), some (.int y4)]) rfl ?_
      refine wp_goto 4 dX6_aloneCards_43 rfl ?_
      have hB := wm_back h hP
      exact wm_mask (L' := [some (.ref 1), some (.int y3), some (.int y4)]) [true, true, true] rfl (hB)
noncomputable def f_X6_aloneCards   (m : Mem) : Option (Int32 × Mem) := wh (f_X6_aloneCards_L4) ((0 : Int32), (0 : Int32), m)
theorem k_X6_aloneCards_E {g : Gx}   {Q : Qy} {m : Mem} {t : Int32 × Mem} (h : f_X6_aloneCards m = some t) (hP : pI Q t) : WpM g 2 mi_X6_aloneCards 0 [some (.ref 1), none, none] [] m (zM g mi_X6_aloneCards Q) := by
  refine wp_iconst (0 : Int32) dX6_aloneCards_0 ic_0 rfl ?_
  refine wp_istore_n (L' := [some (.ref 1), some (.int (0 : Int32)), none]) dX6_aloneCards_1 (by decide) rfl rfl rfl ?_
  refine wp_iconst (0 : Int32) dX6_aloneCards_2 ic_0 rfl ?_
  refine wp_istore_n (L' := [some (.ref 1), some (.int (0 : Int32)), some (.int (0 : Int32))]) dX6_aloneCards_3 (by decide) rfl rfl rfl ?_
  have hB := wh_ok (A := A_X6_aloneCards_4 g Q) (B := pI Q) (fun s t h hP => k_X6_aloneCards_L4  h hP) h hP
  exact wm_mask (L' := [some (.ref 1), some (.int (0 : Int32)), some (.int (0 : Int32))]) [true, true, true] rfl (hB)
theorem o_X6_aloneCards {g : Gx}   {m : Mem} {t : Int32 × Mem} (h : f_X6_aloneCards m = some t) : MxM g 2 mi_X6_aloneCards [.ref 1] m (qI t) := mx_of pn_X6 (Nat.le_of_ble_eq_true rfl) (k_X6_aloneCards_E h ⟨rfl, rfl, rfl, rfl, rfl⟩)
noncomputable def f_X4_minutesByWorth  (p1 : Int32) (m : Mem) : Option (Int32 × Mem) := ck p1 6 (ck p1 6 (dv ((abI (gI m 6 (ix p1))) + (1 : Int32)) (some ((((1000 : Int32) * (gI m (29 + 2) (ix p1))) / ((abI (gI m 6 (ix p1))) + (1 : Int32))), m))))
theorem k_X4_minutesByWorth_E {g : Gx}  {p1 : Int32} {Q : Qy} {m : Mem} {t : Int32 × Mem} (h : f_X4_minutesByWorth p1 m = some t) (hP : pI Q t) : WpM g 1 mi_X4_minutesByWorth 0 [some (.ref 24), some (.int p1)] [] m (zM g mi_X4_minutesByWorth Q) := by
  refine wp_sipush (1000 : Int32) dX4_minutesByWorth_0 is_1000 rfl ?_
  refine wp_aload_n dX4_minutesByWorth_3 rfl rfl ?_
  refine wm_getR dX4_minutesByWorth_4 s_24 fk_X4_33 rfl r_24_0 rfl ?_
  refine wm_getR dX4_minutesByWorth_7 (sM_0 (by unfold MA; omega)) fk_X4_120 rfl (rM_1 (by unfold MA; omega)) rfl ?_
  refine wp_iload_n dX4_minutesByWorth_10 rfl rfl ?_
  refine wm_iald dX4_minutesByWorth_11 (sM_2 (by unfold MA; omega)) rfl h (fun h => ?_)
  refine wp_imul dX4_minutesByWorth_12 rfl ?_
  refine wp_aload_n dX4_minutesByWorth_13 rfl rfl ?_
  refine wm_getR dX4_minutesByWorth_14 s_24 fk_X4_24 rfl r_24_4 rfl ?_
  refine wm_getR dX4_minutesByWorth_17 s_1 fk_X4_123 rfl r_1_4 rfl ?_
  refine wp_iload_n dX4_minutesByWorth_20 rfl rfl ?_
  refine wm_iald dX4_minutesByWorth_21 s_6 rfl h (fun h => ?_)
  refine wp_mabs dX4_minutesByWorth_22 ok_X4_126 (by decide) ⟨Nat.le_refl _, Nat.le_refl _⟩ (Nat.le_of_ble_eq_true rfl) rfl ?_
  refine wp_iconst (1 : Int32) dX4_minutesByWorth_25 ic_1 rfl ?_
  refine wp_iadd dX4_minutesByWorth_26 rfl ?_
  refine wm_idiv dX4_minutesByWorth_27 rfl h (fun h => ?_)
  exact wm_iret dX4_minutesByWorth_28 rfl ⟨rfl, rfl⟩ h hP
theorem o_X4_minutesByWorth {g : Gx}  {p1 : Int32} {m : Mem} {t : Int32 × Mem} (h : f_X4_minutesByWorth p1 m = some t) : MxM g 1 mi_X4_minutesByWorth [.ref 24, .int p1] m (qI t) := mx_of pn_X4 (Nat.le_of_ble_eq_true rfl) (k_X4_minutesByWorth_E h ⟨rfl, rfl, rfl, rfl, rfl⟩)
abbrev A_X4_shed_4 (g : Gx)  (Q : Qy) (s : Int32 × Int32 × Mem) : Prop := WpM g 2 mi_X4_shed 4 [some (.ref 24), some (.int s.1), some (.int s.2.1)] [] s.2.2 (zM g mi_X4_shed Q)
abbrev P_X4_shed_4 (g : Gx)  (Q : Qy) : ((Int32 × Int32 × Mem) ⊕ (Int32 × Mem)) → Prop := pS (A_X4_shed_4 g Q) (pI Q)
noncomputable def f_X4_shed_L4  (s : Int32 × Int32 × Mem) : Option ((Int32 × Int32 × Mem) ⊕ (Int32 × Mem)) := if (gI s.2.2 24 9) ≤ s.2.1 then up (some (s.1, s.2.2)) else (f_X4_minutesByWorth s.2.1 s.2.2).bind (fun q1 => (f_X4_minutesByWorth s.1 q1.2).bind (fun q2 => if q1.1 ≤ q2.1 then bnd (s.2.1 + (1 : Int32)) (fun y3 => some (Sum.inl (s.1, y3, q2.2))) else bnd (s.2.1 + (1 : Int32)) (fun y4 => some (Sum.inl (s.2.1, y4, q2.2)))))
theorem k_X4_shed_L4 {g : Gx}  {Q : Qy} {s : Int32 × Int32 × Mem} {t : (Int32 × Int32 × Mem) ⊕ (Int32 × Mem)} (h : f_X4_shed_L4 s = some t) (hP : P_X4_shed_4 g Q t) : A_X4_shed_4 g Q s := by
  refine wp_iload_n dX4_shed_4 rfl rfl ?_
  refine wp_aload_n dX4_shed_5 rfl rfl ?_
  refine wm_getI dX4_shed_6 s_24 fk_X4_65 rfl rfl ?_
  refine wm_icmp_ge 33 dX4_shed_9 rfl rfl h (fun h => ?_) (fun h => ?_)
  · refine wm_up h hP (fun r h hP => ?_)
    refine wp_iload_n dX4_shed_33 rfl rfl ?_
    exact wm_iret dX4_shed_34 rfl ⟨rfl, rfl⟩ h hP
  · refine wp_aload_n dX4_shed_12 rfl rfl ?_
    refine wp_iload_n dX4_shed_13 rfl rfl ?_
    refine wm_callVI (As := [.int s.2.1]) (rest := []) dX4_shed_14 ok_X4_117 (by decide) rfl s_24 ⟨_, rfl⟩ (Nat.le_of_ble_eq_true rfl) ⟨rfl, rfl⟩ rfl (fun t h => o_X4_minutesByWorth h) h (fun q1 h => ?_)
    refine wp_aload_n dX4_shed_17 rfl rfl ?_
    refine wp_iload_n dX4_shed_18 rfl rfl ?_
    refine wm_callVI (As := [.int s.1]) (rest := [.int q1.1]) dX4_shed_19 ok_X4_117 (by decide) rfl s_24 ⟨_, rfl⟩ (Nat.le_of_ble_eq_true rfl) ⟨rfl, rfl⟩ rfl (fun t h => o_X4_minutesByWorth h) h (fun q2 h => ?_)
    refine wm_icmp_le 27 dX4_shed_22 rfl rfl h (fun h => ?_) (fun h => ?_)
    · refine wm_inc dX4_shed_27 rfl ii_1 (by decide) rfl rfl h (fun y3 h => ?_)
      refine wm_list (L' := [some (.ref 24), some (.int s.1), some (.int y3)]) rfl ?_
      refine wp_goto 4 dX4_shed_30 rfl ?_
      have hB := wm_back h hP
      exact wm_mask (L' := [some (.ref 24), some (.int s.1), some (.int y3)]) [true, true, true] rfl (hB)
    · refine wp_iload_n dX4_shed_25 rfl rfl ?_
      refine wp_istore_n (L' := [some (.ref 24), some (.int s.2.1), some (.int s.2.1)]) dX4_shed_26 (by decide) rfl rfl rfl ?_
      refine wm_inc dX4_shed_27 rfl ii_1 (by decide) rfl rfl h (fun y4 h => ?_)
      refine wm_list (L' := [some (.ref 24), some (.int s.2.1), some (.int y4)]) rfl ?_
      refine wp_goto 4 dX4_shed_30 rfl ?_
      have hB := wm_back h hP
      exact wm_mask (L' := [some (.ref 24), some (.int s.2.1), some (.int y4)]) [true, true, true] rfl (hB)
noncomputable def f_X4_shed   (m : Mem) : Option (Int32 × Mem) := wh (f_X4_shed_L4) ((0 : Int32), (1 : Int32), m)
theorem k_X4_shed_E {g : Gx}   {Q : Qy} {m : Mem} {t : Int32 × Mem} (h : f_X4_shed m = some t) (hP : pI Q t) : WpM g 2 mi_X4_shed 0 [some (.ref 24), none, none] [] m (zM g mi_X4_shed Q) := by
  refine wp_iconst (0 : Int32) dX4_shed_0 ic_0 rfl ?_
  refine wp_istore_n (L' := [some (.ref 24), some (.int (0 : Int32)), none]) dX4_shed_1 (by decide) rfl rfl rfl ?_
  refine wp_iconst (1 : Int32) dX4_shed_2 ic_1 rfl ?_
  refine wp_istore_n (L' := [some (.ref 24), some (.int (0 : Int32)), some (.int (1 : Int32))]) dX4_shed_3 (by decide) rfl rfl rfl ?_
  have hB := wh_ok (A := A_X4_shed_4 g Q) (B := pI Q) (fun s t h hP => k_X4_shed_L4  h hP) h hP
  exact wm_mask (L' := [some (.ref 24), some (.int (0 : Int32)), some (.int (1 : Int32))]) [true, true, true] rfl (hB)
theorem o_X4_shed {g : Gx}   {m : Mem} {t : Int32 × Mem} (h : f_X4_shed m = some t) : MxM g 2 mi_X4_shed [.ref 24] m (qI t) := mx_of pn_X4 (Nat.le_of_ble_eq_true rfl) (k_X4_shed_E h ⟨rfl, rfl, rfl, rfl, rfl⟩)
noncomputable def f_X4_summarize   (m : Mem) : Option Mem := (f_X6_aloneCards m).bind (fun q1 => ck (0 : Int32) 10 (bnd (sI q1.2 25 (ix (0 : Int32)) (gI q1.2 29 8)) (fun m2 => ck (1 : Int32) 10 (bnd (sI m2 25 (ix (1 : Int32)) (gI m2 29 7)) (fun m3 => (f_X3_decided 29 m3).bind (fun q4 => ck (2 : Int32) 10 (bnd (sI q4.2 25 (ix (2 : Int32)) q4.1) (fun m5 => (f_X3_cardsThere 29 m5).bind (fun q6 => ck (3 : Int32) 10 (bnd (sI q6.2 25 (ix (3 : Int32)) (q6.1 &&& ((gI q6.2 29 9) ^^^ (-1 : Int32)))) (fun m7 => (f_X3_wrong 29 m7).bind (fun q8 => ck (4 : Int32) 10 (bnd (sI q8.2 25 (ix (4 : Int32)) q8.1) (fun m9 => (f_J6_bitCount_0f7a4 (q1.1 &&& (gI m9 29 9)) m9).bind (fun q10 => ck (5 : Int32) 10 (bnd (sI q10.2 25 (ix (5 : Int32)) q10.1) (fun m11 => (f_J6_bitCount_0f7a4 q1.1 m11).bind (fun q12 => ck (6 : Int32) 10 (bnd (sI q12.2 25 (ix (6 : Int32)) q12.1) (fun m13 => (f_X3_cost 29 m13).bind (fun q14 => ck (7 : Int32) 10 (bnd (sI q14.2 25 (ix (7 : Int32)) q14.1) (fun m15 => (f_X4_shed m15).bind (fun q16 => ck (8 : Int32) 10 (bnd (sI q16.2 25 (ix (8 : Int32)) q16.1) (fun m17 => some m17))))))))))))))))))))))))))
theorem k_X4_summarize_E {g : Gx}   {Q : Qy} {m : Mem} {t : Mem} (h : f_X4_summarize m = some t) (hP : pV Q t) : WpM g 5 mi_X4_summarize 0 [some (.ref 24), none] [] m (zM g mi_X4_summarize Q) := by
  refine wp_aload_n dX4_summarize_0 rfl rfl ?_
  refine wm_getR dX4_summarize_1 s_24 fk_X4_24 rfl r_24_4 rfl ?_
  refine wm_callVI (As := []) (rest := []) dX4_summarize_4 ok_X4_91 (by decide) rfl s_1 ⟨_, rfl⟩ (Nat.le_of_ble_eq_true rfl) ⟨rfl, rfl⟩ rfl (fun t h => o_X6_aloneCards h) h (fun q1 h => ?_)
  refine wp_istore_n (L' := [some (.ref 24), some (.int q1.1)]) dX4_summarize_7 (by decide) rfl rfl rfl ?_
  refine wp_aload_n dX4_summarize_8 rfl rfl ?_
  refine wm_getR dX4_summarize_9 s_24 fk_X4_9 rfl r_24_1 rfl ?_
  refine wp_iconst (0 : Int32) dX4_summarize_12 ic_0 rfl ?_
  refine wp_aload_n dX4_summarize_13 rfl rfl ?_
  refine wm_getR dX4_summarize_14 s_24 fk_X4_33 rfl r_24_0 rfl ?_
  refine wm_getI dX4_summarize_17 (sM_0 (by unfold MA; omega)) fk_X4_88 rfl rfl ?_
  refine wm_iast dX4_summarize_20 s_25 rfl h (fun m2 h => ?_)
  refine wp_aload_n dX4_summarize_21 rfl rfl ?_
  refine wm_getR dX4_summarize_22 s_24 fk_X4_9 rfl r_24_1 rfl ?_
  refine wp_iconst (1 : Int32) dX4_summarize_25 ic_1 rfl ?_
  refine wp_aload_n dX4_summarize_26 rfl rfl ?_
  refine wm_getR dX4_summarize_27 s_24 fk_X4_33 rfl r_24_0 rfl ?_
  refine wm_getI dX4_summarize_30 (sM_0 (by unfold MA; omega)) fk_X4_94 rfl rfl ?_
  refine wm_iast dX4_summarize_33 s_25 rfl h (fun m3 h => ?_)
  refine wp_aload_n dX4_summarize_34 rfl rfl ?_
  refine wm_getR dX4_summarize_35 s_24 fk_X4_9 rfl r_24_1 rfl ?_
  refine wp_iconst (2 : Int32) dX4_summarize_38 ic_2 rfl ?_
  refine wp_aload_n dX4_summarize_39 rfl rfl ?_
  refine wm_getR dX4_summarize_40 s_24 fk_X4_33 rfl r_24_0 rfl ?_
  refine wm_callVI (As := []) (rest := [.int (2 : Int32), .ref 25]) dX4_summarize_43 ok_X4_97 (by decide) rfl (sM_0 (by unfold MA; omega)) ⟨_, rfl⟩ (Nat.le_of_ble_eq_true rfl) ⟨rfl, rfl⟩ rfl (fun t h => o_X3_decided (by unfold MA; omega) h) h (fun q4 h => ?_)
  refine wm_iast dX4_summarize_46 s_25 rfl h (fun m5 h => ?_)
  refine wp_aload_n dX4_summarize_47 rfl rfl ?_
  refine wm_getR dX4_summarize_48 s_24 fk_X4_9 rfl r_24_1 rfl ?_
  refine wp_iconst (3 : Int32) dX4_summarize_51 ic_3 rfl ?_
  refine wp_aload_n dX4_summarize_52 rfl rfl ?_
  refine wm_getR dX4_summarize_53 s_24 fk_X4_33 rfl r_24_0 rfl ?_
  refine wm_callVI (As := []) (rest := [.int (3 : Int32), .ref 25]) dX4_summarize_56 ok_X4_100 (by decide) rfl (sM_0 (by unfold MA; omega)) ⟨_, rfl⟩ (Nat.le_of_ble_eq_true rfl) ⟨rfl, rfl⟩ rfl (fun t h => o_X3_cardsThere (by unfold MA; omega) h) h (fun q6 h => ?_)
  refine wp_aload_n dX4_summarize_59 rfl rfl ?_
  refine wm_getR dX4_summarize_60 s_24 fk_X4_33 rfl r_24_0 rfl ?_
  refine wm_getI dX4_summarize_63 (sM_0 (by unfold MA; omega)) fk_X4_70 rfl rfl ?_
  refine wp_iconst (-1 : Int32) dX4_summarize_66 ic_m1 rfl ?_
  refine wp_ixor dX4_summarize_67 rfl ?_
  refine wp_iand dX4_summarize_68 rfl ?_
  refine wm_iast dX4_summarize_69 s_25 rfl h (fun m7 h => ?_)
  refine wp_aload_n dX4_summarize_70 rfl rfl ?_
  refine wm_getR dX4_summarize_71 s_24 fk_X4_9 rfl r_24_1 rfl ?_
  refine wp_iconst (4 : Int32) dX4_summarize_74 ic_4 rfl ?_
  refine wp_aload_n dX4_summarize_75 rfl rfl ?_
  refine wm_getR dX4_summarize_76 s_24 fk_X4_33 rfl r_24_0 rfl ?_
  refine wm_callVI (As := []) (rest := [.int (4 : Int32), .ref 25]) dX4_summarize_79 ok_X4_103 (by decide) rfl (sM_0 (by unfold MA; omega)) ⟨_, rfl⟩ (Nat.le_of_ble_eq_true rfl) ⟨rfl, rfl⟩ rfl (fun t h => o_X3_wrong (by unfold MA; omega) h) h (fun q8 h => ?_)
  refine wm_iast dX4_summarize_82 s_25 rfl h (fun m9 h => ?_)
  refine wp_aload_n dX4_summarize_83 rfl rfl ?_
  refine wm_getR dX4_summarize_84 s_24 fk_X4_9 rfl r_24_1 rfl ?_
  refine wp_iconst (5 : Int32) dX4_summarize_87 ic_5 rfl ?_
  refine wp_iload_n dX4_summarize_88 rfl rfl ?_
  refine wp_aload_n dX4_summarize_89 rfl rfl ?_
  refine wm_getR dX4_summarize_90 s_24 fk_X4_33 rfl r_24_0 rfl ?_
  refine wm_getI dX4_summarize_93 (sM_0 (by unfold MA; omega)) fk_X4_70 rfl rfl ?_
  refine wp_iand dX4_summarize_96 rfl ?_
  refine wm_callSI (As := [.int (q1.1 &&& (gI m9 29 9))]) (rest := [.int (5 : Int32), .ref 25]) dX4_summarize_97 ok_X4_106 (by decide) rfl (Nat.le_of_ble_eq_true rfl) ⟨rfl, rfl⟩ rfl (fun t h => o_J6_bitCount_0f7a4 h) h (fun q10 h => ?_)
  refine wm_iast dX4_summarize_100 s_25 rfl h (fun m11 h => ?_)
  refine wp_aload_n dX4_summarize_101 rfl rfl ?_
  refine wm_getR dX4_summarize_102 s_24 fk_X4_9 rfl r_24_1 rfl ?_
  refine wp_bipush (6 : Int32) dX4_summarize_105 ib_6 rfl ?_
  refine wp_iload_n dX4_summarize_107 rfl rfl ?_
  refine wm_callSI (As := [.int q1.1]) (rest := [.int (6 : Int32), .ref 25]) dX4_summarize_108 ok_X4_106 (by decide) rfl (Nat.le_of_ble_eq_true rfl) ⟨rfl, rfl⟩ rfl (fun t h => o_J6_bitCount_0f7a4 h) h (fun q12 h => ?_)
  refine wm_iast dX4_summarize_111 s_25 rfl h (fun m13 h => ?_)
  refine wp_aload_n dX4_summarize_112 rfl rfl ?_
  refine wm_getR dX4_summarize_113 s_24 fk_X4_9 rfl r_24_1 rfl ?_
  refine wp_bipush (7 : Int32) dX4_summarize_116 ib_7 rfl ?_
  refine wp_aload_n dX4_summarize_118 rfl rfl ?_
  refine wm_getR dX4_summarize_119 s_24 fk_X4_33 rfl r_24_0 rfl ?_
  refine wm_callVI (As := []) (rest := [.int (7 : Int32), .ref 25]) dX4_summarize_122 ok_X4_111 (by decide) rfl (sM_0 (by unfold MA; omega)) ⟨_, rfl⟩ (Nat.le_of_ble_eq_true rfl) ⟨rfl, rfl⟩ rfl (fun t h => o_X3_cost (by unfold MA; omega) h) h (fun q14 h => ?_)
  refine wm_iast dX4_summarize_125 s_25 rfl h (fun m15 h => ?_)
  refine wp_aload_n dX4_summarize_126 rfl rfl ?_
  refine wm_getR dX4_summarize_127 s_24 fk_X4_9 rfl r_24_1 rfl ?_
  refine wp_bipush (8 : Int32) dX4_summarize_130 ib_8 rfl ?_
  refine wp_aload_n dX4_summarize_132 rfl rfl ?_
  refine wm_callVI (As := []) (rest := [.int (8 : Int32), .ref 25]) dX4_summarize_133 ok_X4_114 (by decide) rfl s_24 ⟨_, rfl⟩ (Nat.le_of_ble_eq_true rfl) ⟨rfl, rfl⟩ rfl (fun t h => o_X4_shed h) h (fun q16 h => ?_)
  refine wm_iast dX4_summarize_136 s_25 rfl h (fun m17 h => ?_)
  exact wm_vret dX4_summarize_137 rfl ⟨rfl, rfl⟩ h hP
theorem o_X4_summarize {g : Gx}   {m : Mem} {t : Mem} (h : f_X4_summarize m = some t) : MxM g 5 mi_X4_summarize [.ref 24] m (qV t) := mx_of pn_X4 (Nat.le_of_ble_eq_true rfl) (k_X4_summarize_E h ⟨rfl, rfl, rfl, rfl, rfl⟩)
abbrev A_X4_needed_4 (g : Gx)  (Q : Qy) (s : Int32 × Int32 × Mem) : Prop := WpM g 6 mi_X4_needed 4 [some (.ref 24), some (.int s.1), some (.int s.2.1)] [] s.2.2 (zM g mi_X4_needed Q)
abbrev P_X4_needed_4 (g : Gx)  (Q : Qy) : ((Int32 × Int32 × Mem) ⊕ (Int32 × Mem)) → Prop := pS (A_X4_needed_4 g Q) (pI Q)
noncomputable def f_X4_needed_L4  (s : Int32 × Int32 × Mem) : Option ((Int32 × Int32 × Mem) ⊕ (Int32 × Mem)) := if (gI s.2.2 24 8) ≤ s.2.1 then up (some (s.1, s.2.2)) else ck (0 : Int32) 3 (ck (2 : Int32) 3 ((f_X3_hold 41 27 (gI s.2.2 11 (ix (0 : Int32))) (gI s.2.2 11 (ix (2 : Int32))) s.2.1 s.2.2).bind (fun q1 => (f_X3_decided 41 q1).bind (fun q2 => (f_X3_decided 29 q2.2).bind (fun q3 => if q2.1 = q3.1 then bnd (s.1 ||| (0 : Int32)) (fun y4 => bnd (s.2.1 + (1 : Int32)) (fun y5 => some (Sum.inl (y4, y5, q3.2)))) else bnd (s.1 ||| ((1 : Int32) <<< (s.2.1 &&& 31))) (fun y6 => bnd (s.2.1 + (1 : Int32)) (fun y7 => some (Sum.inl (y6, y7, q3.2)))))))))
theorem k_X4_needed_L4 {g : Gx}  {Q : Qy} {s : Int32 × Int32 × Mem} {t : (Int32 × Int32 × Mem) ⊕ (Int32 × Mem)} (h : f_X4_needed_L4 s = some t) (hP : P_X4_needed_4 g Q t) : A_X4_needed_4 g Q s := by
  refine wp_iload_n dX4_needed_4 rfl rfl ?_
  refine wp_aload_n dX4_needed_5 rfl rfl ?_
  refine wm_getI dX4_needed_6 s_24 fk_X4_64 rfl rfl ?_
  refine wm_icmp_ge 75 dX4_needed_9 rfl rfl h (fun h => ?_) (fun h => ?_)
  · refine wm_up h hP (fun r h hP => ?_)
    refine wp_iload_n dX4_needed_75 rfl rfl ?_
    exact wm_iret dX4_needed_76 rfl ⟨rfl, rfl⟩ h hP
  · refine wp_aload_n dX4_needed_12 rfl rfl ?_
    refine wm_getR dX4_needed_13 s_24 fk_X4_37 rfl r_24_5 rfl ?_
    refine wp_aload_n dX4_needed_16 rfl rfl ?_
    refine wm_getR dX4_needed_17 s_24 fk_X4_18 rfl r_24_6 rfl ?_
    refine wp_aload_n dX4_needed_20 rfl rfl ?_
    refine wm_getR dX4_needed_21 s_24 fk_X4_24 rfl r_24_4 rfl ?_
    refine wm_getR dX4_needed_24 s_1 fk_X4_50 rfl r_1_9 rfl ?_
    refine wp_iconst (0 : Int32) dX4_needed_27 ic_0 rfl ?_
    refine wm_iald dX4_needed_28 s_11 rfl h (fun h => ?_)
    refine wp_aload_n dX4_needed_29 rfl rfl ?_
    refine wm_getR dX4_needed_30 s_24 fk_X4_24 rfl r_24_4 rfl ?_
    refine wm_getR dX4_needed_33 s_1 fk_X4_50 rfl r_1_9 rfl ?_
    refine wp_iconst (2 : Int32) dX4_needed_36 ic_2 rfl ?_
    refine wm_iald dX4_needed_37 s_11 rfl h (fun h => ?_)
    refine wp_iload_n dX4_needed_38 rfl rfl ?_
    refine wm_callVN (As := [.ref 27, .int (gI s.2.2 11 (ix (0 : Int32))), .int (gI s.2.2 11 (ix (2 : Int32))), .int s.2.1]) (rest := []) dX4_needed_39 ok_X4_53 (by decide) rfl (sM_0 (by unfold MA; omega)) ⟨_, rfl⟩ (Nat.le_of_ble_eq_true rfl) ⟨rfl, rfl⟩ rfl (fun t h => o_X3_hold (by unfold MA; omega) s_27 h) h (fun q1 h => ?_)
    refine wp_iload_n dX4_needed_42 rfl rfl ?_
    refine wp_aload_n dX4_needed_43 rfl rfl ?_
    refine wm_getR dX4_needed_44 s_24 fk_X4_37 rfl r_24_5 rfl ?_
    refine wm_callVI (As := []) (rest := [.int s.1]) dX4_needed_47 ok_X4_97 (by decide) rfl (sM_0 (by unfold MA; omega)) ⟨_, rfl⟩ (Nat.le_of_ble_eq_true rfl) ⟨rfl, rfl⟩ rfl (fun t h => o_X3_decided (by unfold MA; omega) h) h (fun q2 h => ?_)
    refine wp_aload_n dX4_needed_50 rfl rfl ?_
    refine wm_getR dX4_needed_51 s_24 fk_X4_33 rfl r_24_0 rfl ?_
    refine wm_callVI (As := []) (rest := [.int q2.1, .int s.1]) dX4_needed_54 ok_X4_97 (by decide) rfl (sM_0 (by unfold MA; omega)) ⟨_, rfl⟩ (Nat.le_of_ble_eq_true rfl) ⟨rfl, rfl⟩ rfl (fun t h => o_X3_decided (by unfold MA; omega) h) h (fun q3 h => ?_)
    refine wm_icmp_eq 66 dX4_needed_57 rfl rfl h (fun h => ?_) (fun h => ?_)
    · refine wp_iconst (0 : Int32) dX4_needed_66 ic_0 rfl ?_
      refine wp_ior dX4_needed_67 rfl ?_
      refine wm_nm h (fun y4 h => ?_)
      refine wp_istore_n (L' := [some (.ref 24), some (.int y4), some (.int s.2.1)]) dX4_needed_68 (by decide) rfl rfl rfl ?_
      refine wm_inc dX4_needed_69 rfl ii_1 (by decide) rfl rfl h (fun y5 h => ?_)
      refine wm_list (L' := [some (.ref 24), some (.int y4), some (.int y5)]) rfl ?_
      refine wp_goto 4 dX4_needed_72 rfl ?_
      have hB := wm_back h hP
      exact wm_mask (L' := [some (.ref 24), some (.int y4), some (.int y5)]) [true, true, true] rfl (hB)
    · refine wp_iconst (1 : Int32) dX4_needed_60 ic_1 rfl ?_
      refine wp_iload_n dX4_needed_61 rfl rfl ?_
      refine wp_ishl dX4_needed_62 rfl ?_
      refine wp_goto 67 dX4_needed_63 rfl ?_
      refine wp_ior dX4_needed_67 rfl ?_
      refine wm_nm h (fun y6 h => ?_)
      refine wp_istore_n (L' := [some (.ref 24), some (.int y6), some (.int s.2.1)]) dX4_needed_68 (by decide) rfl rfl rfl ?_
      refine wm_inc dX4_needed_69 rfl ii_1 (by decide) rfl rfl h (fun y7 h => ?_)
      refine wm_list (L' := [some (.ref 24), some (.int y6), some (.int y7)]) rfl ?_
      refine wp_goto 4 dX4_needed_72 rfl ?_
      have hB := wm_back h hP
      exact wm_mask (L' := [some (.ref 24), some (.int y6), some (.int y7)]) [true, true, true] rfl (hB)
noncomputable def f_X4_needed   (m : Mem) : Option (Int32 × Mem) := wh (f_X4_needed_L4) ((0 : Int32), (0 : Int32), m)
theorem k_X4_needed_E {g : Gx}   {Q : Qy} {m : Mem} {t : Int32 × Mem} (h : f_X4_needed m = some t) (hP : pI Q t) : WpM g 6 mi_X4_needed 0 [some (.ref 24), none, none] [] m (zM g mi_X4_needed Q) := by
  refine wp_iconst (0 : Int32) dX4_needed_0 ic_0 rfl ?_
  refine wp_istore_n (L' := [some (.ref 24), some (.int (0 : Int32)), none]) dX4_needed_1 (by decide) rfl rfl rfl ?_
  refine wp_iconst (0 : Int32) dX4_needed_2 ic_0 rfl ?_
  refine wp_istore_n (L' := [some (.ref 24), some (.int (0 : Int32)), some (.int (0 : Int32))]) dX4_needed_3 (by decide) rfl rfl rfl ?_
  have hB := wh_ok (A := A_X4_needed_4 g Q) (B := pI Q) (fun s t h hP => k_X4_needed_L4  h hP) h hP
  exact wm_mask (L' := [some (.ref 24), some (.int (0 : Int32)), some (.int (0 : Int32))]) [true, true, true] rfl (hB)
theorem o_X4_needed {g : Gx}   {m : Mem} {t : Int32 × Mem} (h : f_X4_needed m = some t) : MxM g 6 mi_X4_needed [.ref 24] m (qI t) := mx_of pn_X4 (Nat.le_of_ble_eq_true rfl) (k_X4_needed_E h ⟨rfl, rfl, rfl, rfl, rfl⟩)
