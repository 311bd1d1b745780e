noncomputable def f_X5_store (sf : Nat) (p1 : Int32) (p2 : Int64) (m : Mem) : Option Mem := sw (gI m sf 0) [((0 : Int32), ck p1 60 (bnd (sJ m (sf + 1) (ix p1) p2.toInt32.toInt8.toInt32.toInt64) (fun m1 => some m1))), ((1 : Int32), ck p1 60 (bnd (sJ m (sf + 1) (ix p1) p2.toInt32.toInt16.toInt32.toInt64) (fun m2 => some m2))), ((2 : Int32), ck p1 60 (bnd (sJ m (sf + 1) (ix p1) p2.toInt32.toInt64) (fun m3 => some m3))), ((3 : Int32), ck p1 60 (bnd (sJ m (sf + 1) (ix p1) p2) (fun m4 => some m4)))] (if (lg_cmp p2 (0 : Int64)) = 0 then ck p1 60 (bnd (sJ m (sf + 1) (ix p1) (0 : Int64)) (fun m5 => some m5)) else ck p1 60 (bnd (sJ m (sf + 1) (ix p1) (1 : Int64)) (fun m6 => some m6)))
theorem k_X5_store_E {g : Gx} {sf : Nat} (hsf : SA sf) {p1 : Int32} {p2 : Int64} {Q : Qy} {m : Mem} {t : Mem} (h : f_X5_store sf p1 p2 m = some t) (hP : pV Q t) : WpM g 1 mi_X5_store 0 [some (.ref sf), some (.int p1), some (.long p2), none] [] m (zM g mi_X5_store Q) := by
  refine wp_aload_n dX5_store_0 rfl rfl ?_
  refine wm_getI dX5_store_1 (sS_0 hsf) fk_X5_9 rfl rfl ?_
  refine wm_tsw [((0 : Int32), 36), ((1 : Int32), 49), ((2 : Int32), 62), ((3 : Int32), 74)] 84 dX5_store_4 rfl (by decide) (by decide +kernel) (by decide +kernel) (by decide +kernel) h rfl ⟨fun h => ?_, fun h => ?_, fun h => ?_, fun h => ?_, trivial⟩ (fun h => ?_)
  · refine wp_aload_n dX5_store_36 rfl rfl ?_
    refine wm_getR dX5_store_37 (sS_0 hsf) fk_X5_18 rfl (rS_3 hsf) rfl ?_
    refine wp_iload_n dX5_store_40 rfl rfl ?_
    refine wp_lload_n dX5_store_41 rfl rfl ?_
    refine wp_l2i dX5_store_42 rfl ?_
    refine wp_i2b dX5_store_43 rfl ?_
    refine wp_i2l dX5_store_44 rfl ?_
    refine wm_last dX5_store_45 (sS_1 hsf) rfl h (fun m1 h => ?_)
    refine wp_goto 101 dX5_store_46 rfl ?_
    exact wm_vret dX5_store_101 rfl ⟨rfl, rfl⟩ h hP
  · refine wp_aload_n dX5_store_49 rfl rfl ?_
    refine wm_getR dX5_store_50 (sS_0 hsf) fk_X5_18 rfl (rS_3 hsf) rfl ?_
    refine wp_iload_n dX5_store_53 rfl rfl ?_
    refine wp_lload_n dX5_store_54 rfl rfl ?_
    refine wp_l2i dX5_store_55 rfl ?_
    refine wp_i2s dX5_store_56 rfl ?_
    refine wp_i2l dX5_store_57 rfl ?_
    refine wm_last dX5_store_58 (sS_1 hsf) rfl h (fun m2 h => ?_)
    refine wp_goto 101 dX5_store_59 rfl ?_
    exact wm_vret dX5_store_101 rfl ⟨rfl, rfl⟩ h hP
  · refine wp_aload_n dX5_store_62 rfl rfl ?_
    refine wm_getR dX5_store_63 (sS_0 hsf) fk_X5_18 rfl (rS_3 hsf) rfl ?_
    refine wp_iload_n dX5_store_66 rfl rfl ?_
    refine wp_lload_n dX5_store_67 rfl rfl ?_
    refine wp_l2i dX5_store_68 rfl ?_
    refine wp_i2l dX5_store_69 rfl ?_
    refine wm_last dX5_store_70 (sS_1 hsf) rfl h (fun m3 h => ?_)
    refine wp_goto 101 dX5_store_71 rfl ?_
    exact wm_vret dX5_store_101 rfl ⟨rfl, rfl⟩ h hP
  · refine wp_aload_n dX5_store_74 rfl rfl ?_
    refine wm_getR dX5_store_75 (sS_0 hsf) fk_X5_18 rfl (rS_3 hsf) rfl ?_
    refine wp_iload_n dX5_store_78 rfl rfl ?_
    refine wp_lload_n dX5_store_79 rfl rfl ?_
    refine wm_last dX5_store_80 (sS_1 hsf) rfl h (fun m4 h => ?_)
    refine wp_goto 101 dX5_store_81 rfl ?_
    exact wm_vret dX5_store_101 rfl ⟨rfl, rfl⟩ h hP
  · refine wp_aload_n dX5_store_84 rfl rfl ?_
    refine wm_getR dX5_store_85 (sS_0 hsf) fk_X5_18 rfl (rS_3 hsf) rfl ?_
    refine wp_iload_n dX5_store_88 rfl rfl ?_
    refine wp_lload_n dX5_store_89 rfl rfl ?_
    refine wp_lconst (0 : Int64) dX5_store_90 rfl rfl ?_
    refine wp_lcmp dX5_store_91 rfl ?_
    refine wm_if_eq 99 dX5_store_92 rfl rfl h (fun h => ?_) (fun h => ?_)
    · refine wp_lconst (0 : Int64) dX5_store_99 rfl rfl ?_
      refine wm_last dX5_store_100 (sS_1 hsf) rfl h (fun m5 h => ?_)
      exact wm_vret dX5_store_101 rfl ⟨rfl, rfl⟩ h hP
    · refine wp_lconst (1 : Int64) dX5_store_95 rfl rfl ?_
      refine wp_goto 100 dX5_store_96 rfl ?_
      refine wm_last dX5_store_100 (sS_1 hsf) rfl h (fun m6 h => ?_)
      exact wm_vret dX5_store_101 rfl ⟨rfl, rfl⟩ h hP
theorem o_X5_store {g : Gx} {sf : Nat} (hsf : SA sf) {p1 : Int32} {p2 : Int64} {m : Mem} {t : Mem} (h : f_X5_store sf p1 p2 m = some t) : MxM g 1 mi_X5_store [.ref sf, .int p1, .long p2] m (qV t) := mx_of pn_X5 (Nat.le_of_ble_eq_true rfl) (k_X5_store_E hsf h ⟨rfl, rfl, rfl, rfl, rfl⟩)
abbrev A_X6_addCard_48 (g : Gx)  (Q : Qy) (s : Int32 × Int32 × Mem) : Prop := WpM g 1 mi_X6_addCard 48 [some (.ref 1), none, none, some (.int s.1), some (.int s.2.1)] [] s.2.2 (zM g mi_X6_addCard Q)
abbrev P_X6_addCard_48 (g : Gx)  (Q : Qy) : ((Int32 × Int32 × Mem) ⊕ (Int32 × Mem)) → Prop := pS (A_X6_addCard_48 g Q) (pI Q)
noncomputable def f_X6_addCard_L48  (s : Int32 × Int32 × Mem) : Option ((Int32 × Int32 × Mem) ⊕ (Int32 × Mem)) := if (10 : Int32) ≤ s.2.1 then up (bnd (sI s.2.2 1 16 ((gI s.2.2 1 16) + (1 : Int32))) (fun m5 => bnd (sI m5 1 15 ((gI m5 1 15) + (1 : Int32))) (fun m6 => some ((gI m5 1 15), m6)))) else ck s.2.1 10 (ck s.2.1 10 (bnd (sI s.2.2 12 (ix s.2.1) ((gI s.2.2 12 (ix s.2.1)) ||| (((s.1 >>> (s.2.1 &&& 31)) &&& (1 : Int32)) <<< ((gI s.2.2 1 15) &&& 31)))) (fun m7 => some (Sum.inl (s.1, (s.2.1 + (1 : Int32)), m7)))))
theorem k_X6_addCard_L48 {g : Gx}  {Q : Qy} {s : Int32 × Int32 × Mem} {t : (Int32 × Int32 × Mem) ⊕ (Int32 × Mem)} (h : f_X6_addCard_L48 s = some t) (hP : P_X6_addCard_48 g Q t) : A_X6_addCard_48 g Q s := by
  refine wp_iload dX6_addCard_48 rfl rfl ?_
  refine wp_bipush (10 : Int32) dX6_addCard_50 ib_10 rfl ?_
  refine wm_icmp_ge 82 dX6_addCard_52 rfl rfl h (fun h => ?_) (fun h => ?_)
  · refine wm_up h hP (fun r h hP => ?_)
    refine wp_aload_n dX6_addCard_82 rfl rfl ?_
    refine wp_dup dX6_addCard_83 rfl rfl ?_
    refine wm_getI dX6_addCard_84 s_1 fk_X6_62 rfl rfl ?_
    refine wp_iconst (1 : Int32) dX6_addCard_87 ic_1 rfl ?_
    refine wp_iadd dX6_addCard_88 rfl ?_
    refine wm_putI dX6_addCard_89 s_1 fk_X6_62 rfl rfl h (fun m5 h => ?_)
    refine wp_aload_n dX6_addCard_92 rfl rfl ?_
    refine wp_dup dX6_addCard_93 rfl rfl ?_
    refine wm_getI dX6_addCard_94 s_1 fk_X6_65 rfl rfl ?_
    refine wp_dup_x1 dX6_addCard_97 rfl rfl rfl ?_
    refine wp_iconst (1 : Int32) dX6_addCard_98 ic_1 rfl ?_
    refine wp_iadd dX6_addCard_99 rfl ?_
    refine wm_putI dX6_addCard_100 s_1 fk_X6_65 rfl rfl h (fun m6 h => ?_)
    exact wm_iret dX6_addCard_103 rfl ⟨rfl, rfl⟩ h hP
  · refine wp_aload_n dX6_addCard_55 rfl rfl ?_
    refine wm_getR dX6_addCard_56 s_1 fk_X6_42 rfl r_1_10 rfl ?_
    refine wp_iload dX6_addCard_59 rfl rfl ?_
    refine wp_dup2 dX6_addCard_61 rfl rfl rfl ?_
    refine wm_iald dX6_addCard_62 s_12 rfl h (fun h => ?_)
    refine wp_iload_n dX6_addCard_63 rfl rfl ?_
    refine wp_iload dX6_addCard_64 rfl rfl ?_
    refine wp_ishr dX6_addCard_66 rfl ?_
    refine wp_iconst (1 : Int32) dX6_addCard_67 ic_1 rfl ?_
    refine wp_iand dX6_addCard_68 rfl ?_
    refine wp_aload_n dX6_addCard_69 rfl rfl ?_
    refine wm_getI dX6_addCard_70 s_1 fk_X6_65 rfl rfl ?_
    refine wp_ishl dX6_addCard_73 rfl ?_
    refine wp_ior dX6_addCard_74 rfl ?_
    refine wm_iast dX6_addCard_75 s_12 rfl h (fun m7 h => ?_)
    refine wp_inc dX6_addCard_76 rfl ii_1 (by decide) rfl rfl rfl ?_
    refine wp_goto 48 dX6_addCard_79 rfl ?_
    have hB := wm_back h hP
    exact wm_mask [true, false, false, true, true] rfl (hB)
noncomputable def f_X6_addCard  (p1 : Int32) (p2 : Int32) (p3 : Int32) (m : Mem) : Option (Int32 × Mem) := ck (gI m 1 15) 20 (bnd (sI m 8 (ix (gI m 1 15)) p1) (fun m1 => ck (gI m1 1 15) 20 (bnd (sI m1 9 (ix (gI m1 1 15)) p2) (fun m2 => ck (gI m2 1 15) 20 (bnd (sI m2 10 (ix (gI m2 1 15)) p3) (fun m3 => ck p1 6 (ck p1 6 (bnd (sI m3 13 (ix p1) ((gI m3 13 (ix p1)) ||| ((1 : Int32) <<< ((gI m3 1 15) &&& 31)))) (fun m4 => wh (f_X6_addCard_L48) (p3, (0 : Int32), m4))))))))))
theorem k_X6_addCard_E {g : Gx}  {p1 : Int32} {p2 : Int32} {p3 : Int32} {Q : Qy} {m : Mem} {t : Int32 × Mem} (h : f_X6_addCard p1 p2 p3 m = some t) (hP : pI Q t) : WpM g 1 mi_X6_addCard 0 [some (.ref 1), some (.int p1), some (.int p2), some (.int p3), none] [] m (zM g mi_X6_addCard Q) := by
  refine wp_aload_n dX6_addCard_0 rfl rfl ?_
  refine wm_getR dX6_addCard_1 s_1 fk_X6_30 rfl r_1_6 rfl ?_
  refine wp_aload_n dX6_addCard_4 rfl rfl ?_
  refine wm_getI dX6_addCard_5 s_1 fk_X6_65 rfl rfl ?_
  refine wp_iload_n dX6_addCard_8 rfl rfl ?_
  refine wm_iast dX6_addCard_9 s_8 rfl h (fun m1 h => ?_)
  refine wp_aload_n dX6_addCard_10 rfl rfl ?_
  refine wm_getR dX6_addCard_11 s_1 fk_X6_33 rfl r_1_7 rfl ?_
  refine wp_aload_n dX6_addCard_14 rfl rfl ?_
  refine wm_getI dX6_addCard_15 s_1 fk_X6_65 rfl rfl ?_
  refine wp_iload_n dX6_addCard_18 rfl rfl ?_
  refine wm_iast dX6_addCard_19 s_9 rfl h (fun m2 h => ?_)
  refine wp_aload_n dX6_addCard_20 rfl rfl ?_
  refine wm_getR dX6_addCard_21 s_1 fk_X6_36 rfl r_1_8 rfl ?_
  refine wp_aload_n dX6_addCard_24 rfl rfl ?_
  refine wm_getI dX6_addCard_25 s_1 fk_X6_65 rfl rfl ?_
  refine wp_iload_n dX6_addCard_28 rfl rfl ?_
  refine wm_iast dX6_addCard_29 s_10 rfl h (fun m3 h => ?_)
  refine wp_aload_n dX6_addCard_30 rfl rfl ?_
  refine wm_getR dX6_addCard_31 s_1 fk_X6_45 rfl r_1_11 rfl ?_
  refine wp_iload_n dX6_addCard_34 rfl rfl ?_
  refine wp_dup2 dX6_addCard_35 rfl rfl rfl ?_
  refine wm_iald dX6_addCard_36 s_13 rfl h (fun h => ?_)
  refine wp_iconst (1 : Int32) dX6_addCard_37 ic_1 rfl ?_
  refine wp_aload_n dX6_addCard_38 rfl rfl ?_
  refine wm_getI dX6_addCard_39 s_1 fk_X6_65 rfl rfl ?_
  refine wp_ishl dX6_addCard_42 rfl ?_
  refine wp_ior dX6_addCard_43 rfl ?_
  refine wm_iast dX6_addCard_44 s_13 rfl h (fun m4 h => ?_)
  refine wp_iconst (0 : Int32) dX6_addCard_45 ic_0 rfl ?_
  refine wp_istore dX6_addCard_46 (by decide) rfl rfl rfl ?_
  have hB := wh_ok (A := A_X6_addCard_48 g Q) (B := pI Q) (fun s t h hP => k_X6_addCard_L48  h hP) h hP
  exact wm_mask [true, false, false, true, true] rfl (hB)
theorem o_X6_addCard {g : Gx}  {p1 : Int32} {p2 : Int32} {p3 : Int32} {m : Mem} {t : Int32 × Mem} (h : f_X6_addCard p1 p2 p3 m = some t) : MxM g 1 mi_X6_addCard [.ref 1, .int p1, .int p2, .int p3] m (qI t) := mx_of pn_X6 (Nat.le_of_ble_eq_true rfl) (k_X6_addCard_E h ⟨rfl, rfl, rfl, rfl, rfl⟩)
noncomputable def f_X6_isCard  (p1 : Int32) (p2 : Int32) (p3 : Int32) (m : Mem) : Option (Int32 × Mem) := if p1 < 0 then bz (0 : Int32) (some ((0 : Int32), m)) else if (gI m 1 14) ≤ p1 then bz (0 : Int32) (some ((0 : Int32), m)) else if p2 < (-9 : Int32) then bz (0 : Int32) (some ((0 : Int32), m)) else if (9 : Int32) < p2 then bz (0 : Int32) (some ((0 : Int32), m)) else if p3 < 0 then bz (0 : Int32) (some ((0 : Int32), m)) else if (1023 : Int32) < p3 then bz (0 : Int32) (some ((0 : Int32), m)) else bz (1 : Int32) (some ((1 : Int32), m))
theorem k_X6_isCard_E {g : Gx}  {p1 : Int32} {p2 : Int32} {p3 : Int32} {Q : Qy} {m : Mem} {t : Int32 × Mem} (h : f_X6_isCard p1 p2 p3 m = some t) (hP : pI Q t) : WpM g 1 mi_X6_isCard 0 [some (.ref 1), some (.int p1), some (.int p2), some (.int p3)] [] m (zM g mi_X6_isCard Q) := by
  refine wp_iload_n dX6_isCard_0 rfl rfl ?_
  refine wm_if_lt 39 dX6_isCard_1 rfl rfl h (fun h => ?_) (fun h => ?_)
  · refine wp_iconst (0 : Int32) dX6_isCard_39 ic_0 rfl ?_
    exact wm_zret dX6_isCard_40 rfl ⟨rfl, rfl⟩ h hP
  · refine wp_iload_n dX6_isCard_4 rfl rfl ?_
    refine wp_aload_n dX6_isCard_5 rfl rfl ?_
    refine wm_getI dX6_isCard_6 s_1 fk_X6_59 rfl rfl ?_
    refine wm_icmp_ge 39 dX6_isCard_9 rfl rfl h (fun h => ?_) (fun h => ?_)
    · refine wp_iconst (0 : Int32) dX6_isCard_39 ic_0 rfl ?_
      exact wm_zret dX6_isCard_40 rfl ⟨rfl, rfl⟩ h hP
    · refine wp_iload_n dX6_isCard_12 rfl rfl ?_
      refine wp_bipush (-9 : Int32) dX6_isCard_13 ib_m9 rfl ?_
      refine wm_icmp_lt 39 dX6_isCard_15 rfl rfl h (fun h => ?_) (fun h => ?_)
      · refine wp_iconst (0 : Int32) dX6_isCard_39 ic_0 rfl ?_
        exact wm_zret dX6_isCard_40 rfl ⟨rfl, rfl⟩ h hP
      · refine wp_iload_n dX6_isCard_18 rfl rfl ?_
        refine wp_bipush (9 : Int32) dX6_isCard_19 ib_9 rfl ?_
        refine wm_icmp_gt 39 dX6_isCard_21 rfl rfl h (fun h => ?_) (fun h => ?_)
        · refine wp_iconst (0 : Int32) dX6_isCard_39 ic_0 rfl ?_
          exact wm_zret dX6_isCard_40 rfl ⟨rfl, rfl⟩ h hP
        · refine wp_iload_n dX6_isCard_24 rfl rfl ?_
          refine wm_if_lt 39 dX6_isCard_25 rfl rfl h (fun h => ?_) (fun h => ?_)
          · refine wp_iconst (0 : Int32) dX6_isCard_39 ic_0 rfl ?_
            exact wm_zret dX6_isCard_40 rfl ⟨rfl, rfl⟩ h hP
          · refine wp_iload_n dX6_isCard_28 rfl rfl ?_
            refine wp_sipush (1023 : Int32) dX6_isCard_29 is_1023 rfl ?_
            refine wm_icmp_gt 39 dX6_isCard_32 rfl rfl h (fun h => ?_) (fun h => ?_)
            · refine wp_iconst (0 : Int32) dX6_isCard_39 ic_0 rfl ?_
              exact wm_zret dX6_isCard_40 rfl ⟨rfl, rfl⟩ h hP
            · refine wp_iconst (1 : Int32) dX6_isCard_35 ic_1 rfl ?_
              refine wp_goto 40 dX6_isCard_36 rfl ?_
              exact wm_zret dX6_isCard_40 rfl ⟨rfl, rfl⟩ h hP
theorem o_X6_isCard {g : Gx}  {p1 : Int32} {p2 : Int32} {p3 : Int32} {m : Mem} {t : Int32 × Mem} (h : f_X6_isCard p1 p2 p3 m = some t) : MxM g 1 mi_X6_isCard [.ref 1, .int p1, .int p2, .int p3] m (qI t) := mx_of pn_X6 (Nat.le_of_ble_eq_true rfl) (k_X6_isCard_E h ⟨rfl, rfl, rfl, rfl, rfl⟩)
abbrev A_X6_addCards_3 (g : Gx) (sf : Nat) (Q : Qy) (s : Int32 × Int32 × Int32 × Mem) : Prop := WpM g 2 mi_X6_addCards 3 [some (.ref 1), some (.ref sf), some (.int s.1), some (.int s.2.1), some (.int s.2.2.1), none, none, none, none] [] s.2.2.2 (zM g mi_X6_addCards Q)
abbrev P_X6_addCards_3 (g : Gx) (sf : Nat) (Q : Qy) : ((Int32 × Int32 × Int32 × Mem) ⊕ (Int32 × Mem)) → Prop := pS (A_X6_addCards_3 g sf Q) (pI Q)
noncomputable def f_X6_addCards_L3 (sf : Nat) (s : Int32 × Int32 × Int32 × Mem) : Option ((Int32 × Int32 × Int32 × Mem) ⊕ (Int32 × Mem)) := if s.2.1 ≤ s.2.2.1 then up (some (s.2.2.1, s.2.2.2)) else if (20 : Int32) ≤ (gI s.2.2.2 1 15) then up (some (s.2.2.1, s.2.2.2)) else (f_X5_hasRun sf s.1 (((3 : Int32) * s.2.2.1) + (3 : Int32)) s.2.2.2).bind (fun q1 => if q1.1 = 0 then up (some (s.2.2.1, q1.2)) else bnd (s.1 + ((3 : Int32) * s.2.2.1)) (fun y2 => ck y2 60 (bnd (gJ q1.2 (sf + 1) (ix y2)).toInt32 (fun y3 => ck (y2 + (1 : Int32)) 60 (bnd (gJ q1.2 (sf + 1) (ix (y2 + (1 : Int32)))).toInt32 (fun y4 => ck (y2 + (2 : Int32)) 60 (bnd (gJ q1.2 (sf + 1) (ix (y2 + (2 : Int32)))).toInt32 (fun y5 => (f_X6_isCard y3 y4 y5 q1.2).bind (fun q6 => if ¬ q6.1 = 0 then (f_X6_addCard y3 y4 y5 q6.2).bind (fun q7 => some (Sum.inl (s.1, s.2.1, (s.2.2.1 + (1 : Int32)), q7.2))) else up (some (s.2.2.1, q6.2)))))))))))
theorem k_X6_addCards_L3 {g : Gx} {sf : Nat} (hsf : SA sf) {Q : Qy} {s : Int32 × Int32 × Int32 × Mem} {t : (Int32 × Int32 × Int32 × Mem) ⊕ (Int32 × Mem)} (h : f_X6_addCards_L3 sf s = some t) (hP : P_X6_addCards_3 g sf Q t) : A_X6_addCards_3 g sf Q s := by
  refine wp_iload dX6_addCards_3 rfl rfl ?_
  refine wp_iload_n dX6_addCards_5 rfl rfl ?_
  refine wm_icmp_ge 107 dX6_addCards_6 rfl rfl h (fun h => ?_) (fun h => ?_)
  · refine wm_up h hP (fun r h hP => ?_)
    refine wp_iload dX6_addCards_107 rfl rfl ?_
    exact wm_iret dX6_addCards_109 rfl ⟨rfl, rfl⟩ h hP
  · refine wp_aload_n dX6_addCards_9 rfl rfl ?_
    refine wm_getI dX6_addCards_10 s_1 fk_X6_65 rfl rfl ?_
    refine wp_bipush (20 : Int32) dX6_addCards_13 ib_20 rfl ?_
    refine wm_icmp_ge 107 dX6_addCards_15 rfl rfl h (fun h => ?_) (fun h => ?_)
    · refine wm_up h hP (fun r h hP => ?_)
      refine wp_iload dX6_addCards_107 rfl rfl ?_
      exact wm_iret dX6_addCards_109 rfl ⟨rfl, rfl⟩ h hP
    · refine wp_aload_n dX6_addCards_18 rfl rfl ?_
      refine wp_iload_n dX6_addCards_19 rfl rfl ?_
      refine wp_iconst (3 : Int32) dX6_addCards_20 ic_3 rfl ?_
      refine wp_iload dX6_addCards_21 rfl rfl ?_
      refine wp_imul dX6_addCards_23 rfl ?_
      refine wp_iconst (3 : Int32) dX6_addCards_24 ic_3 rfl ?_
      refine wp_iadd dX6_addCards_25 rfl ?_
      refine wm_callVI (As := [.int s.1, .int (((3 : Int32) * s.2.2.1) + (3 : Int32))]) (rest := []) dX6_addCards_26 ok_X6_68 (by decide) rfl (sS_0 hsf) ⟨_, rfl⟩ (Nat.le_of_ble_eq_true rfl) ⟨rfl, rfl⟩ rfl (fun t h => o_X5_hasRun hsf h) h (fun q1 h => ?_)
      refine wm_if_eq 107 dX6_addCards_29 rfl rfl h (fun h => ?_) (fun h => ?_)
      · refine wm_up h hP (fun r h hP => ?_)
        refine wp_iload dX6_addCards_107 rfl rfl ?_
        exact wm_iret dX6_addCards_109 rfl ⟨rfl, rfl⟩ h hP
      · refine wp_iload_n dX6_addCards_32 rfl rfl ?_
        refine wp_iconst (3 : Int32) dX6_addCards_33 ic_3 rfl ?_
        refine wp_iload dX6_addCards_34 rfl rfl ?_
        refine wp_imul dX6_addCards_36 rfl ?_
        refine wp_iadd dX6_addCards_37 rfl ?_
        refine wm_nm h (fun y2 h => ?_)
        refine wp_istore dX6_addCards_38 (by decide) rfl rfl rfl ?_
        refine wp_aload_n dX6_addCards_40 rfl rfl ?_
        refine wm_getR dX6_addCards_41 (sS_0 hsf) fk_X6_74 rfl (rS_3 hsf) rfl ?_
        refine wp_iload dX6_addCards_44 rfl rfl ?_
        refine wm_lald dX6_addCards_46 (sS_1 hsf) rfl h (fun h => ?_)
        refine wp_l2i dX6_addCards_47 rfl ?_
        refine wm_nm h (fun y3 h => ?_)
        refine wp_istore dX6_addCards_48 (by decide) rfl rfl rfl ?_
        refine wp_aload_n dX6_addCards_50 rfl rfl ?_
        refine wm_getR dX6_addCards_51 (sS_0 hsf) fk_X6_74 rfl (rS_3 hsf) rfl ?_
        refine wp_iload dX6_addCards_54 rfl rfl ?_
        refine wp_iconst (1 : Int32) dX6_addCards_56 ic_1 rfl ?_
        refine wp_iadd dX6_addCards_57 rfl ?_
        refine wm_lald dX6_addCards_58 (sS_1 hsf) rfl h (fun h => ?_)
        refine wp_l2i dX6_addCards_59 rfl ?_
        refine wm_nm h (fun y4 h => ?_)
        refine wp_istore dX6_addCards_60 (by decide) rfl rfl rfl ?_
        refine wp_aload_n dX6_addCards_62 rfl rfl ?_
        refine wm_getR dX6_addCards_63 (sS_0 hsf) fk_X6_74 rfl (rS_3 hsf) rfl ?_
        refine wp_iload dX6_addCards_66 rfl rfl ?_
        refine wp_iconst (2 : Int32) dX6_addCards_68 ic_2 rfl ?_
        refine wp_iadd dX6_addCards_69 rfl ?_
        refine wm_lald dX6_addCards_70 (sS_1 hsf) rfl h (fun h => ?_)
        refine wp_l2i dX6_addCards_71 rfl ?_
        refine wm_nm h (fun y5 h => ?_)
        refine wp_istore dX6_addCards_72 (by decide) rfl rfl rfl ?_
        refine wp_aload_n dX6_addCards_74 rfl rfl ?_
        refine wp_iload dX6_addCards_75 rfl rfl ?_
        refine wp_iload dX6_addCards_77 rfl rfl ?_
        refine wp_iload dX6_addCards_79 rfl rfl ?_
        refine wm_callVI (As := [.int y3, .int y4, .int y5]) (rest := []) dX6_addCards_81 ok_X6_78 (by decide) rfl s_1 ⟨_, rfl⟩ (Nat.le_of_ble_eq_true rfl) ⟨rfl, rfl⟩ rfl (fun t h => o_X6_isCard h) h (fun q6 h => ?_)
        refine wm_if_ne 90 dX6_addCards_84 rfl rfl h (fun h => ?_) (fun h => ?_)
        · refine wp_aload_n dX6_addCards_90 rfl rfl ?_
          refine wp_iload dX6_addCards_91 rfl rfl ?_
          refine wp_iload dX6_addCards_93 rfl rfl ?_
          refine wp_iload dX6_addCards_95 rfl rfl ?_
          refine wm_callVI (As := [.int y3, .int y4, .int y5]) (rest := []) dX6_addCards_97 ok_X6_82 (by decide) rfl s_1 ⟨_, rfl⟩ (Nat.le_of_ble_eq_true rfl) ⟨rfl, rfl⟩ rfl (fun t h => o_X6_addCard h) h (fun q7 h => ?_)
          refine wp_pop dX6_addCards_100 rfl rfl ?_
          refine wp_inc dX6_addCards_101 rfl ii_1 (by decide) rfl rfl rfl ?_
          refine wp_goto 3 dX6_addCards_104 rfl ?_
          have hB := wm_back h hP
          exact wm_mask [true, true, true, true, true, false, false, false, false] rfl (hB)
        · refine wm_up h hP (fun r h hP => ?_)
          refine wp_goto 107 dX6_addCards_87 rfl ?_
          refine wp_iload dX6_addCards_107 rfl rfl ?_
          exact wm_iret dX6_addCards_109 rfl ⟨rfl, rfl⟩ h hP
noncomputable def f_X6_addCards (sf : Nat) (p2 : Int32) (p3 : Int32) (m : Mem) : Option (Int32 × Mem) := wh (f_X6_addCards_L3 sf) (p2, p3, (0 : Int32), m)
theorem k_X6_addCards_E {g : Gx} {sf : Nat} (hsf : SA sf) {p2 : Int32} {p3 : Int32} {Q : Qy} {m : Mem} {t : Int32 × Mem} (h : f_X6_addCards sf p2 p3 m = some t) (hP : pI Q t) : WpM g 2 mi_X6_addCards 0 [some (.ref 1), some (.ref sf), some (.int p2), some (.int p3), none, none, none, none, none] [] m (zM g mi_X6_addCards Q) := by
  refine wp_iconst (0 : Int32) dX6_addCards_0 ic_0 rfl ?_
  refine wp_istore dX6_addCards_1 (by decide) rfl rfl rfl ?_
  have hB := wh_ok (A := A_X6_addCards_3 g sf Q) (B := pI Q) (fun s t h hP => k_X6_addCards_L3 hsf h hP) h hP
  exact wm_mask [true, true, true, true, true, false, false, false, false] rfl (hB)
theorem o_X6_addCards {g : Gx} {sf : Nat} (hsf : SA sf) {p2 : Int32} {p3 : Int32} {m : Mem} {t : Int32 × Mem} (h : f_X6_addCards sf p2 p3 m = some t) : MxM g 2 mi_X6_addCards [.ref 1, .ref sf, .int p2, .int p3] m (qI t) := mx_of pn_X6 (Nat.le_of_ble_eq_true rfl) (k_X6_addCards_E hsf h ⟨rfl, rfl, rfl, rfl, rfl⟩)
noncomputable def f_X6_addPerson  (p1 : Int32) (p2 : Int32) (m : Mem) : Option (Int32 × Mem) := ck (gI m 1 13) 10 (bnd (sI m 2 (ix (gI m 1 13)) (p1 / (10 : Int32))) (fun m1 => ck (gI m1 1 13) 10 (bnd (sI m1 3 (ix (gI m1 1 13)) (p1 - p1 / (10 : Int32) * (10 : Int32))) (fun m2 => ck (gI m2 1 13) 10 (bnd (sI m2 4 (ix (gI m2 1 13)) (p2 / (100 : Int32))) (fun m3 => ck (gI m3 1 13) 10 (bnd (sI m3 5 (ix (gI m3 1 13)) (p2 - p2 / (100 : Int32) * (100 : Int32))) (fun m4 => bnd (sI m4 1 16 ((gI m4 1 16) + (1 : Int32))) (fun m5 => bnd (sI m5 1 13 ((gI m5 1 13) + (1 : Int32))) (fun m6 => some ((gI m5 1 13), m6)))))))))))
theorem k_X6_addPerson_E {g : Gx}  {p1 : Int32} {p2 : Int32} {Q : Qy} {m : Mem} {t : Int32 × Mem} (h : f_X6_addPerson p1 p2 m = some t) (hP : pI Q t) : WpM g 1 mi_X6_addPerson 0 [some (.ref 1), some (.int p1), some (.int p2)] [] m (zM g mi_X6_addPerson Q) := by
  refine wp_aload_n dX6_addPerson_0 rfl rfl ?_
  refine wm_getR dX6_addPerson_1 s_1 fk_X6_9 rfl r_1_0 rfl ?_
  refine wp_aload_n dX6_addPerson_4 rfl rfl ?_
  refine wm_getI dX6_addPerson_5 s_1 fk_X6_55 rfl rfl ?_
  refine wp_iload_n dX6_addPerson_8 rfl rfl ?_
  refine wp_bipush (10 : Int32) dX6_addPerson_9 ib_10 rfl ?_
  refine wp_idiv dX6_addPerson_11 (by decide) rfl ?_
  refine wm_iast dX6_addPerson_12 s_2 rfl h (fun m1 h => ?_)
  refine wp_aload_n dX6_addPerson_13 rfl rfl ?_
  refine wm_getR dX6_addPerson_14 s_1 fk_X6_15 rfl r_1_1 rfl ?_
  refine wp_aload_n dX6_addPerson_17 rfl rfl ?_
  refine wm_getI dX6_addPerson_18 s_1 fk_X6_55 rfl rfl ?_
  refine wp_iload_n dX6_addPerson_21 rfl rfl ?_
  refine wp_bipush (10 : Int32) dX6_addPerson_22 ib_10 rfl ?_
  refine wp_irem dX6_addPerson_24 (by decide) rfl ?_
  refine wm_iast dX6_addPerson_25 s_3 rfl h (fun m2 h => ?_)
  refine wp_aload_n dX6_addPerson_26 rfl rfl ?_
  refine wm_getR dX6_addPerson_27 s_1 fk_X6_18 rfl r_1_2 rfl ?_
  refine wp_aload_n dX6_addPerson_30 rfl rfl ?_
  refine wm_getI dX6_addPerson_31 s_1 fk_X6_55 rfl rfl ?_
  refine wp_iload_n dX6_addPerson_34 rfl rfl ?_
  refine wp_bipush (100 : Int32) dX6_addPerson_35 ib_100 rfl ?_
  refine wp_idiv dX6_addPerson_37 (by decide) rfl ?_
  refine wm_iast dX6_addPerson_38 s_4 rfl h (fun m3 h => ?_)
  refine wp_aload_n dX6_addPerson_39 rfl rfl ?_
  refine wm_getR dX6_addPerson_40 s_1 fk_X6_21 rfl r_1_3 rfl ?_
  refine wp_aload_n dX6_addPerson_43 rfl rfl ?_
  refine wm_getI dX6_addPerson_44 s_1 fk_X6_55 rfl rfl ?_
  refine wp_iload_n dX6_addPerson_47 rfl rfl ?_
  refine wp_bipush (100 : Int32) dX6_addPerson_48 ib_100 rfl ?_
  refine wp_irem dX6_addPerson_50 (by decide) rfl ?_
  refine wm_iast dX6_addPerson_51 s_5 rfl h (fun m4 h => ?_)
  refine wp_aload_n dX6_addPerson_52 rfl rfl ?_
  refine wp_dup dX6_addPerson_53 rfl rfl ?_
  refine wm_getI dX6_addPerson_54 s_1 fk_X6_62 rfl rfl ?_
  refine wp_iconst (1 : Int32) dX6_addPerson_57 ic_1 rfl ?_
  refine wp_iadd dX6_addPerson_58 rfl ?_
  refine wm_putI dX6_addPerson_59 s_1 fk_X6_62 rfl rfl h (fun m5 h => ?_)
  refine wp_aload_n dX6_addPerson_62 rfl rfl ?_
  refine wp_dup dX6_addPerson_63 rfl rfl ?_
  refine wm_getI dX6_addPerson_64 s_1 fk_X6_55 rfl rfl ?_
  refine wp_dup_x1 dX6_addPerson_67 rfl rfl rfl ?_
  refine wp_iconst (1 : Int32) dX6_addPerson_68 ic_1 rfl ?_
  refine wp_iadd dX6_addPerson_69 rfl ?_
  refine wm_putI dX6_addPerson_70 s_1 fk_X6_55 rfl rfl h (fun m6 h => ?_)
  exact wm_iret dX6_addPerson_73 rfl ⟨rfl, rfl⟩ h hP
theorem o_X6_addPerson {g : Gx}  {p1 : Int32} {p2 : Int32} {m : Mem} {t : Int32 × Mem} (h : f_X6_addPerson p1 p2 m = some t) : MxM g 1 mi_X6_addPerson [.ref 1, .int p1, .int p2] m (qI t) := mx_of pn_X6 (Nat.le_of_ble_eq_true rfl) (k_X6_addPerson_E h ⟨rfl, rfl, rfl, rfl, rfl⟩)
noncomputable def f_X6_addThing  (p1 : Int32) (p2 : Int32) (m : Mem) : Option (Int32 × Mem) := ck (gI m 1 14) 6 (bnd (sI m 6 (ix (gI m 1 14)) p1) (fun m1 => ck (gI m1 1 14) 6 (bnd (sI m1 7 (ix (gI m1 1 14)) p2) (fun m2 => bnd (sI m2 1 16 ((gI m2 1 16) + (1 : Int32))) (fun m3 => bnd (sI m3 1 14 ((gI m3 1 14) + (1 : Int32))) (fun m4 => some ((gI m3 1 14), m4)))))))
theorem k_X6_addThing_E {g : Gx}  {p1 : Int32} {p2 : Int32} {Q : Qy} {m : Mem} {t : Int32 × Mem} (h : f_X6_addThing p1 p2 m = some t) (hP : pI Q t) : WpM g 1 mi_X6_addThing 0 [some (.ref 1), some (.int p1), some (.int p2)] [] m (zM g mi_X6_addThing Q) := by
  refine wp_aload_n dX6_addThing_0 rfl rfl ?_
  refine wm_getR dX6_addThing_1 s_1 fk_X6_24 rfl r_1_4 rfl ?_
  refine wp_aload_n dX6_addThing_4 rfl rfl ?_
  refine wm_getI dX6_addThing_5 s_1 fk_X6_59 rfl rfl ?_
  refine wp_iload_n dX6_addThing_8 rfl rfl ?_
  refine wm_iast dX6_addThing_9 s_6 rfl h (fun m1 h => ?_)
  refine wp_aload_n dX6_addThing_10 rfl rfl ?_
  refine wm_getR dX6_addThing_11 s_1 fk_X6_27 rfl r_1_5 rfl ?_
  refine wp_aload_n dX6_addThing_14 rfl rfl ?_
  refine wm_getI dX6_addThing_15 s_1 fk_X6_59 rfl rfl ?_
  refine wp_iload_n dX6_addThing_18 rfl rfl ?_
  refine wm_iast dX6_addThing_19 s_7 rfl h (fun m2 h => ?_)
  refine wp_aload_n dX6_addThing_20 rfl rfl ?_
  refine wp_dup dX6_addThing_21 rfl rfl ?_
  refine wm_getI dX6_addThing_22 s_1 fk_X6_62 rfl rfl ?_
  refine wp_iconst (1 : Int32) dX6_addThing_25 ic_1 rfl ?_
  refine wp_iadd dX6_addThing_26 rfl ?_
  refine wm_putI dX6_addThing_27 s_1 fk_X6_62 rfl rfl h (fun m3 h => ?_)
  refine wp_aload_n dX6_addThing_30 rfl rfl ?_
  refine wp_dup dX6_addThing_31 rfl rfl ?_
  refine wm_getI dX6_addThing_32 s_1 fk_X6_59 rfl rfl ?_
  refine wp_dup_x1 dX6_addThing_35 rfl rfl rfl ?_
  refine wp_iconst (1 : Int32) dX6_addThing_36 ic_1 rfl ?_
  refine wp_iadd dX6_addThing_37 rfl ?_
  refine wm_putI dX6_addThing_38 s_1 fk_X6_59 rfl rfl h (fun m4 h => ?_)
  exact wm_iret dX6_addThing_41 rfl ⟨rfl, rfl⟩ h hP
theorem o_X6_addThing {g : Gx}  {p1 : Int32} {p2 : Int32} {m : Mem} {t : Int32 × Mem} (h : f_X6_addThing p1 p2 m = some t) : MxM g 1 mi_X6_addThing [.ref 1, .int p1, .int p2] m (qI t) := mx_of pn_X6 (Nat.le_of_ble_eq_true rfl) (k_X6_addThing_E h ⟨rfl, rfl, rfl, rfl, rfl⟩)
noncomputable def f_X6_mendable  (p1 : Int32) (m : Mem) : Option (Nat × Mem) := sw p1 [((0 : Int32), some (2, m)), ((1 : Int32), some (3, m)), ((2 : Int32), some (5, m)), ((3 : Int32), some (6, m))] (some (7, m))
theorem k_X6_mendable_E {g : Gx}  {p1 : Int32} {Q : Qy} {m : Mem} {t : Nat × Mem} (h : f_X6_mendable p1 m = some t) (hP : pR Q t) : WpM g 1 mi_X6_mendable 0 [some (.ref 1), some (.int p1)] [] m (zM g mi_X6_mendable Q) := by
  refine wp_iload_n dX6_mendable_0 rfl rfl ?_
  refine wm_tsw [((0 : Int32), 32), ((1 : Int32), 37), ((2 : Int32), 42), ((3 : Int32), 47)] 52 dX6_mendable_1 rfl (by decide) (by decide +kernel) (by decide +kernel) (by decide +kernel) h rfl ⟨fun h => ?_, fun h => ?_, fun h => ?_, fun h => ?_, trivial⟩ (fun h => ?_)
  · refine wp_aload_n dX6_mendable_32 rfl rfl ?_
    refine wm_getR dX6_mendable_33 s_1 fk_X6_9 rfl r_1_0 rfl ?_
    exact wm_aret dX6_mendable_36 rfl ⟨rfl, rfl⟩ h hP
  · refine wp_aload_n dX6_mendable_37 rfl rfl ?_
    refine wm_getR dX6_mendable_38 s_1 fk_X6_15 rfl r_1_1 rfl ?_
    exact wm_aret dX6_mendable_41 rfl ⟨rfl, rfl⟩ h hP
  · refine wp_aload_n dX6_mendable_42 rfl rfl ?_
    refine wm_getR dX6_mendable_43 s_1 fk_X6_21 rfl r_1_3 rfl ?_
    exact wm_aret dX6_mendable_46 rfl ⟨rfl, rfl⟩ h hP
  · refine wp_aload_n dX6_mendable_47 rfl rfl ?_
    refine wm_getR dX6_mendable_48 s_1 fk_X6_24 rfl r_1_4 rfl ?_
    exact wm_aret dX6_mendable_51 rfl ⟨rfl, rfl⟩ h hP
  · refine wp_aload_n dX6_mendable_52 rfl rfl ?_
    refine wm_getR dX6_mendable_53 s_1 fk_X6_27 rfl r_1_5 rfl ?_
    exact wm_aret dX6_mendable_56 rfl ⟨rfl, rfl⟩ h hP
theorem o_X6_mendable {g : Gx}  {p1 : Int32} {m : Mem} {t : Nat × Mem} (h : f_X6_mendable p1 m = some t) : MxM g 1 mi_X6_mendable [.ref 1, .int p1] m (qR t) := mx_of pn_X6 (Nat.le_of_ble_eq_true rfl) (k_X6_mendable_E h ⟨rfl, rfl, rfl, rfl, rfl⟩)
noncomputable def f_X6_change  (p1 : Int32) (p2 : Int32) (p3 : Int32) (m : Mem) : Option Mem := (f_X6_mendable p2 m).bind (fun q1 => ckS q1.1 p1 (bnd (sI q1.2 q1.1 (ix p1) p3) (fun m2 => bnd (sI m2 1 16 ((gI m2 1 16) + (1 : Int32))) (fun m3 => some m3))))
theorem k_X6_change_E {g : Gx}  {p1 : Int32} {p2 : Int32} {p3 : Int32} {Q : Qy} {m : Mem} {t : Mem} (h : f_X6_change p1 p2 p3 m = some t) (hP : pV Q t) : WpM g 2 mi_X6_change 0 [some (.ref 1), some (.int p1), some (.int p2), some (.int p3)] [] m (zM g mi_X6_change Q) := by
  refine wp_aload_n dX6_change_0 rfl rfl ?_
  refine wp_iload_n dX6_change_1 rfl rfl ?_
  refine wm_callVR (As := [.int p2]) (rest := []) dX6_change_2 ok_X6_86 (by decide) rfl s_1 ⟨_, rfl⟩ (Nat.le_of_ble_eq_true rfl) ⟨rfl, rfl⟩ rfl (fun t h => o_X6_mendable h) h (fun q1 h => ?_)
  refine wp_iload_n dX6_change_5 rfl rfl ?_
  refine wp_iload_n dX6_change_6 rfl rfl ?_
  refine wm_iastS dX6_change_7 rfl h (fun m2 h => ?_)
  refine wp_aload_n dX6_change_8 rfl rfl ?_
  refine wp_dup dX6_change_9 rfl rfl ?_
  refine wm_getI dX6_change_10 s_1 fk_X6_62 rfl rfl ?_
  refine wp_iconst (1 : Int32) dX6_change_13 ic_1 rfl ?_
  refine wp_iadd dX6_change_14 rfl ?_
  refine wm_putI dX6_change_15 s_1 fk_X6_62 rfl rfl h (fun m3 h => ?_)
  exact wm_vret dX6_change_18 rfl ⟨rfl, rfl⟩ h hP
theorem o_X6_change {g : Gx}  {p1 : Int32} {p2 : Int32} {p3 : Int32} {m : Mem} {t : Mem} (h : f_X6_change p1 p2 p3 m = some t) : MxM g 2 mi_X6_change [.ref 1, .int p1, .int p2, .int p3] m (qV t) := mx_of pn_X6 (Nat.le_of_ble_eq_true rfl) (k_X6_change_E h ⟨rfl, rfl, rfl, rfl, rfl⟩)
noncomputable def f_X6_isBare   (m : Mem) : Option (Int32 × Mem) := if (gI m 1 13) = 0 then bz (1 : Int32) (some ((1 : Int32), m)) else if ¬ (gI m 1 14) = 0 then bz (0 : Int32) (some ((0 : Int32), m)) else bz (1 : Int32) (some ((1 : Int32), m))
theorem k_X6_isBare_E {g : Gx}   {Q : Qy} {m : Mem} {t : Int32 × Mem} (h : f_X6_isBare m = some t) (hP : pI Q t) : WpM g 1 mi_X6_isBare 0 [some (.ref 1)] [] m (zM g mi_X6_isBare Q) := by
  refine wp_aload_n dX6_isBare_0 rfl rfl ?_
  refine wm_getI dX6_isBare_1 s_1 fk_X6_55 rfl rfl ?_
  refine wm_if_eq 14 dX6_isBare_4 rfl rfl h (fun h => ?_) (fun h => ?_)
  · refine wp_iconst (1 : Int32) dX6_isBare_14 ic_1 rfl ?_
    refine wp_goto 19 dX6_isBare_15 rfl ?_
    exact wm_zret dX6_isBare_19 rfl ⟨rfl, rfl⟩ h hP
  · refine wp_aload_n dX6_isBare_7 rfl rfl ?_
    refine wm_getI dX6_isBare_8 s_1 fk_X6_59 rfl rfl ?_
    refine wm_if_ne 18 dX6_isBare_11 rfl rfl h (fun h => ?_) (fun h => ?_)
    · refine wp_iconst (0 : Int32) dX6_isBare_18 ic_0 rfl ?_
      exact wm_zret dX6_isBare_19 rfl ⟨rfl, rfl⟩ h hP
    · refine wp_iconst (1 : Int32) dX6_isBare_14 ic_1 rfl ?_
      refine wp_goto 19 dX6_isBare_15 rfl ?_
      exact wm_zret dX6_isBare_19 rfl ⟨rfl, rfl⟩ h hP
theorem o_X6_isBare {g : Gx}   {m : Mem} {t : Int32 × Mem} (h : f_X6_isBare m = some t) : MxM g 1 mi_X6_isBare [.ref 1] m (qI t) := mx_of pn_X6 (Nat.le_of_ble_eq_true rfl) (k_X6_isBare_E h ⟨rfl, rfl, rfl, rfl, rfl⟩)
noncomputable def f_X6_ofCard  (p1 : Int32) (p2 : Int32) (m : Mem) : Option (Int32 × Mem) := sw p2 [((20 : Int32), ck p1 20 (some ((gI m 8 (ix p1)), m))), ((21 : Int32), ck p1 20 (some ((gI m 9 (ix p1)), m)))] (ck p1 20 (some ((gI m 10 (ix p1)), m)))
theorem k_X6_ofCard_E {g : Gx}  {p1 : Int32} {p2 : Int32} {Q : Qy} {m : Mem} {t : Int32 × Mem} (h : f_X6_ofCard p1 p2 m = some t) (hP : pI Q t) : WpM g 1 mi_X6_ofCard 0 [some (.ref 1), some (.int p1), some (.int p2)] [] m (zM g mi_X6_ofCard Q) := by
  refine wp_iload_n dX6_ofCard_0 rfl rfl ?_
  refine wm_lsw [((20 : Int32), 28), ((21 : Int32), 35)] 42 dX6_ofCard_1 (by decide +kernel) rfl (by decide +kernel) (lsw_off (by decide +kernel)) (by decide +kernel) h rfl ⟨fun h => ?_, fun h => ?_, trivial⟩ (fun h => ?_)
  · refine wp_aload_n dX6_ofCard_28 rfl rfl ?_
    refine wm_getR dX6_ofCard_29 s_1 fk_X6_30 rfl r_1_6 rfl ?_
    refine wp_iload_n dX6_ofCard_32 rfl rfl ?_
    refine wm_iald dX6_ofCard_33 s_8 rfl h (fun h => ?_)
    exact wm_iret dX6_ofCard_34 rfl ⟨rfl, rfl⟩ h hP
  · refine wp_aload_n dX6_ofCard_35 rfl rfl ?_
    refine wm_getR dX6_ofCard_36 s_1 fk_X6_33 rfl r_1_7 rfl ?_
    refine wp_iload_n dX6_ofCard_39 rfl rfl ?_
    refine wm_iald dX6_ofCard_40 s_9 rfl h (fun h => ?_)
    exact wm_iret dX6_ofCard_41 rfl ⟨rfl, rfl⟩ h hP
  · refine wp_aload_n dX6_ofCard_42 rfl rfl ?_
    refine wm_getR dX6_ofCard_43 s_1 fk_X6_36 rfl r_1_8 rfl ?_
    refine wp_iload_n dX6_ofCard_46 rfl rfl ?_
    refine wm_iald dX6_ofCard_47 s_10 rfl h (fun h => ?_)
    exact wm_iret dX6_ofCard_48 rfl ⟨rfl, rfl⟩ h hP
theorem o_X6_ofCard {g : Gx}  {p1 : Int32} {p2 : Int32} {m : Mem} {t : Int32 × Mem} (h : f_X6_ofCard p1 p2 m = some t) : MxM g 1 mi_X6_ofCard [.ref 1, .int p1, .int p2] m (qI t) := mx_of pn_X6 (Nat.le_of_ble_eq_true rfl) (k_X6_ofCard_E h ⟨rfl, rfl, rfl, rfl, rfl⟩)
noncomputable def f_X6_ofPerson  (p1 : Int32) (p2 : Int32) (m : Mem) : Option (Int32 × Mem) := sw p2 [((0 : Int32), ck p1 10 (some ((gI m 2 (ix p1)), m))), ((1 : Int32), ck p1 10 (some ((gI m 3 (ix p1)), m))), ((2 : Int32), ck p1 10 (some ((gI m 4 (ix p1)), m)))] (ck p1 10 (some ((gI m 5 (ix p1)), m)))
theorem k_X6_ofPerson_E {g : Gx}  {p1 : Int32} {p2 : Int32} {Q : Qy} {m : Mem} {t : Int32 × Mem} (h : f_X6_ofPerson p1 p2 m = some t) (hP : pI Q t) : WpM g 1 mi_X6_ofPerson 0 [some (.ref 1), some (.int p1), some (.int p2)] [] m (zM g mi_X6_ofPerson Q) := by
  refine wp_iload_n dX6_ofPerson_0 rfl rfl ?_
  refine wm_tsw [((0 : Int32), 28), ((1 : Int32), 35), ((2 : Int32), 42)] 49 dX6_ofPerson_1 rfl (by decide) (by decide +kernel) (by decide +kernel) (by decide +kernel) h rfl ⟨fun h => ?_, fun h => ?_, fun h => ?_, trivial⟩ (fun h => ?_)
  · refine wp_aload_n dX6_ofPerson_28 rfl rfl ?_
    refine wm_getR dX6_ofPerson_29 s_1 fk_X6_9 rfl r_1_0 rfl ?_
    refine wp_iload_n dX6_ofPerson_32 rfl rfl ?_
    refine wm_iald dX6_ofPerson_33 s_2 rfl h (fun h => ?_)
    exact wm_iret dX6_ofPerson_34 rfl ⟨rfl, rfl⟩ h hP
  · refine wp_aload_n dX6_ofPerson_35 rfl rfl ?_
    refine wm_getR dX6_ofPerson_36 s_1 fk_X6_15 rfl r_1_1 rfl ?_
    refine wp_iload_n dX6_ofPerson_39 rfl rfl ?_
    refine wm_iald dX6_ofPerson_40 s_3 rfl h (fun h => ?_)
    exact wm_iret dX6_ofPerson_41 rfl ⟨rfl, rfl⟩ h hP
  · refine wp_aload_n dX6_ofPerson_42 rfl rfl ?_
    refine wm_getR dX6_ofPerson_43 s_1 fk_X6_18 rfl r_1_2 rfl ?_
    refine wp_iload_n dX6_ofPerson_46 rfl rfl ?_
    refine wm_iald dX6_ofPerson_47 s_4 rfl h (fun h => ?_)
    exact wm_iret dX6_ofPerson_48 rfl ⟨rfl, rfl⟩ h hP
  · refine wp_aload_n dX6_ofPerson_49 rfl rfl ?_
    refine wm_getR dX6_ofPerson_50 s_1 fk_X6_21 rfl r_1_3 rfl ?_
    refine wp_iload_n dX6_ofPerson_53 rfl rfl ?_
    refine wm_iald dX6_ofPerson_54 s_5 rfl h (fun h => ?_)
    exact wm_iret dX6_ofPerson_55 rfl ⟨rfl, rfl⟩ h hP
theorem o_X6_ofPerson {g : Gx}  {p1 : Int32} {p2 : Int32} {m : Mem} {t : Int32 × Mem} (h : f_X6_ofPerson p1 p2 m = some t) : MxM g 1 mi_X6_ofPerson [.ref 1, .int p1, .int p2] m (qI t) := mx_of pn_X6 (Nat.le_of_ble_eq_true rfl) (k_X6_ofPerson_E h ⟨rfl, rfl, rfl, rfl, rfl⟩)
noncomputable def f_X7_compare_J75  (v2 : Int32) (v3 : Int32) (v4 : Int32) (v5 : Int32) (m : Mem) : Option Mem := ck v3 9 (bnd (sI m 55 (ix v3) v2) (fun m5 => ck (v3 + (1 : Int32)) 9 (bnd (sI m5 55 (ix (v3 + (1 : Int32))) v4) (fun m6 => ck (v3 + (2 : Int32)) 9 (bnd (sI m6 55 (ix (v3 + (2 : Int32))) v5) (fun m7 => some m7))))))
theorem k_X7_compare_J75 {g : Gx}  {v2 : Int32} {v3 : Int32} {v4 : Int32} {v5 : Int32}  {Q : Qy} {m : Mem} {t : Mem} (h : f_X7_compare_J75 v2 v3 v4 v5 m = some t) (hP : pV Q t) : WpM g 5 mi_X7_compare 75 [some (.ref 53), none, some (.int v2), some (.int v3), some (.int v4), some (.int v5)] [] m (zM g mi_X7_compare Q) := by
  refine wp_aload_n dX7_compare_75 rfl rfl ?_
  refine wm_getR dX7_compare_76 s_53 fk_X7_15 rfl r_53_3 rfl ?_
  refine wp_iload_n dX7_compare_79 rfl rfl ?_
  refine wp_iload_n dX7_compare_80 rfl rfl ?_
  refine wm_iast dX7_compare_81 s_55 rfl h (fun m5 h => ?_)
  refine wp_aload_n dX7_compare_82 rfl rfl ?_
  refine wm_getR dX7_compare_83 s_53 fk_X7_15 rfl r_53_3 rfl ?_
  refine wp_iload_n dX7_compare_86 rfl rfl ?_
  refine wp_iconst (1 : Int32) dX7_compare_87 ic_1 rfl ?_
  refine wp_iadd dX7_compare_88 rfl ?_
  refine wp_iload dX7_compare_89 rfl rfl ?_
  refine wm_iast dX7_compare_91 s_55 rfl h (fun m6 h => ?_)
  refine wp_aload_n dX7_compare_92 rfl rfl ?_
  refine wm_getR dX7_compare_93 s_53 fk_X7_15 rfl r_53_3 rfl ?_
  refine wp_iload_n dX7_compare_96 rfl rfl ?_
  refine wp_iconst (2 : Int32) dX7_compare_97 ic_2 rfl ?_
  refine wp_iadd dX7_compare_98 rfl ?_
  refine wp_iload dX7_compare_99 rfl rfl ?_
  refine wm_iast dX7_compare_101 s_55 rfl h (fun m7 h => ?_)
  exact wm_vret dX7_compare_102 rfl ⟨rfl, rfl⟩ h hP
noncomputable def f_X7_compare  (p1 : Int32) (p2 : Int32) (m : Mem) : Option Mem := bnd (p1 * (3 : Int32)) (fun y1 => (f_X3_wrong 57 m).bind (fun q2 => (f_J6_bitCount_0f7a4 q2.1 q2.2).bind (fun q3 => (f_X3_cost 57 q3.2).bind (fun q4 => ck y1 9 (if (gI q4.2 55 (ix y1)) = (-2 : Int32) then f_X7_compare_J75 p2 y1 q3.1 q4.1 q4.2 else ck (y1 + (1 : Int32)) 9 (if q3.1 < (gI q4.2 55 (ix (y1 + (1 : Int32)))) then f_X7_compare_J75 p2 y1 q3.1 q4.1 q4.2 else ck (y1 + (1 : Int32)) 9 (if ¬ q3.1 = (gI q4.2 55 (ix (y1 + (1 : Int32)))) then some q4.2 else ck (y1 + (2 : Int32)) 9 (if (gI q4.2 55 (ix (y1 + (2 : Int32)))) ≤ q4.1 then some q4.2 else f_X7_compare_J75 p2 y1 q3.1 q4.1 q4.2))))))))
theorem k_X7_compare_E {g : Gx}  {p1 : Int32} {p2 : Int32} {Q : Qy} {m : Mem} {t : Mem} (h : f_X7_compare p1 p2 m = some t) (hP : pV Q t) : WpM g 5 mi_X7_compare 0 [some (.ref 53), some (.int p1), some (.int p2), none, none, none] [] m (zM g mi_X7_compare Q) := by
  refine wp_iload_n dX7_compare_0 rfl rfl ?_
  refine wp_iconst (3 : Int32) dX7_compare_1 ic_3 rfl ?_
  refine wp_imul dX7_compare_2 rfl ?_
  refine wm_nm h (fun y1 h => ?_)
  refine wp_istore_n dX7_compare_3 (by decide) rfl rfl rfl ?_
  refine wp_aload_n dX7_compare_4 rfl rfl ?_
  refine wm_getR dX7_compare_5 s_53 fk_X7_30 rfl r_53_1 rfl ?_
  refine wm_callVI (As := []) (rest := []) dX7_compare_8 ok_X7_77 (by decide) rfl (sM_0 (by unfold MA; omega)) ⟨_, rfl⟩ (Nat.le_of_ble_eq_true rfl) ⟨rfl, rfl⟩ rfl (fun t h => o_X3_wrong (by unfold MA; omega) h) h (fun q2 h => ?_)
  refine wm_callSI (As := [.int q2.1]) (rest := []) dX7_compare_11 ok_X7_80 (by decide) rfl (Nat.le_of_ble_eq_true rfl) ⟨rfl, rfl⟩ rfl (fun t h => o_J6_bitCount_0f7a4 h) h (fun q3 h => ?_)
  refine wp_istore dX7_compare_14 (by decide) rfl rfl rfl ?_
  refine wp_aload_n dX7_compare_16 rfl rfl ?_
  refine wm_getR dX7_compare_17 s_53 fk_X7_30 rfl r_53_1 rfl ?_
  refine wm_callVI (As := []) (rest := []) dX7_compare_20 ok_X7_86 (by decide) rfl (sM_0 (by unfold MA; omega)) ⟨_, rfl⟩ (Nat.le_of_ble_eq_true rfl) ⟨rfl, rfl⟩ rfl (fun t h => o_X3_cost (by unfold MA; omega) h) h (fun q4 h => ?_)
  refine wp_istore dX7_compare_23 (by decide) rfl rfl rfl ?_
  refine wp_aload_n dX7_compare_25 rfl rfl ?_
  refine wm_getR dX7_compare_26 s_53 fk_X7_15 rfl r_53_3 rfl ?_
  refine wp_iload_n dX7_compare_29 rfl rfl ?_
  refine wm_iald dX7_compare_30 s_55 rfl h (fun h => ?_)
  refine wp_bipush (-2 : Int32) dX7_compare_31 ib_m2 rfl ?_
  refine wm_icmp_eq 75 dX7_compare_33 rfl rfl h (fun h => ?_) (fun h => ?_)
  · exact wm_mask [true, false, true, true, true, true] rfl (k_X7_compare_J75  h hP)
  · refine wp_iload dX7_compare_36 rfl rfl ?_
    refine wp_aload_n dX7_compare_38 rfl rfl ?_
    refine wm_getR dX7_compare_39 s_53 fk_X7_15 rfl r_53_3 rfl ?_
    refine wp_iload_n dX7_compare_42 rfl rfl ?_
    refine wp_iconst (1 : Int32) dX7_compare_43 ic_1 rfl ?_
    refine wp_iadd dX7_compare_44 rfl ?_
    refine wm_iald dX7_compare_45 s_55 rfl h (fun h => ?_)
    refine wm_icmp_lt 75 dX7_compare_46 rfl rfl h (fun h => ?_) (fun h => ?_)
    · exact wm_mask [true, false, true, true, true, true] rfl (k_X7_compare_J75  h hP)
    · refine wp_iload dX7_compare_49 rfl rfl ?_
      refine wp_aload_n dX7_compare_51 rfl rfl ?_
      refine wm_getR dX7_compare_52 s_53 fk_X7_15 rfl r_53_3 rfl ?_
      refine wp_iload_n dX7_compare_55 rfl rfl ?_
      refine wp_iconst (1 : Int32) dX7_compare_56 ic_1 rfl ?_
      refine wp_iadd dX7_compare_57 rfl ?_
      refine wm_iald dX7_compare_58 s_55 rfl h (fun h => ?_)
      refine wm_icmp_ne 102 dX7_compare_59 rfl rfl h (fun h => ?_) (fun h => ?_)
      · exact wm_vret dX7_compare_102 rfl ⟨rfl, rfl⟩ h hP
      · refine wp_iload dX7_compare_62 rfl rfl ?_
        refine wp_aload_n dX7_compare_64 rfl rfl ?_
        refine wm_getR dX7_compare_65 s_53 fk_X7_15 rfl r_53_3 rfl ?_
        refine wp_iload_n dX7_compare_68 rfl rfl ?_
        refine wp_iconst (2 : Int32) dX7_compare_69 ic_2 rfl ?_
        refine wp_iadd dX7_compare_70 rfl ?_
        refine wm_iald dX7_compare_71 s_55 rfl h (fun h => ?_)
        refine wm_icmp_ge 102 dX7_compare_72 rfl rfl h (fun h => ?_) (fun h => ?_)
        · exact wm_vret dX7_compare_102 rfl ⟨rfl, rfl⟩ h hP
        · exact wm_mask [true, false, true, true, true, true] rfl (k_X7_compare_J75  h hP)
theorem o_X7_compare {g : Gx}  {p1 : Int32} {p2 : Int32} {m : Mem} {t : Mem} (h : f_X7_compare p1 p2 m = some t) : MxM g 5 mi_X7_compare [.ref 53, .int p1, .int p2] m (qV t) := mx_of pn_X7 (Nat.le_of_ble_eq_true rfl) (k_X7_compare_E h ⟨rfl, rfl, rfl, rfl, rfl⟩)
abbrev A_X7_tryRules_2 (g : Gx)  (Q : Qy) (s : Int32 × Mem) : Prop := WpM g 6 mi_X7_tryRules 2 [some (.ref 53), some (.int s.1)] [] s.2 (zM g mi_X7_tryRules Q)
abbrev P_X7_tryRules_2 (g : Gx)  (Q : Qy) : ((Int32 × Mem) ⊕ Mem) → Prop := pS (A_X7_tryRules_2 g Q) (pV Q)
noncomputable def f_X7_tryRules_L2  (s : Int32 × Mem) : Option ((Int32 × Mem) ⊕ Mem) := if (6 : Int32) ≤ s.1 then up (some s.2) else ck (2 : Int32) 3 ((f_X3_hold 57 54 s.1 (gI s.2 11 (ix (2 : Int32))) (-1 : Int32) s.2).bind (fun q1 => (f_X7_compare (0 : Int32) s.1 q1).bind (fun q2 => some (Sum.inl ((s.1 + (1 : Int32)), q2)))))
theorem k_X7_tryRules_L2 {g : Gx}  {Q : Qy} {s : Int32 × Mem} {t : (Int32 × Mem) ⊕ Mem} (h : f_X7_tryRules_L2 s = some t) (hP : P_X7_tryRules_2 g Q t) : A_X7_tryRules_2 g Q s := by
  refine wp_iload_n dX7_tryRules_2 rfl rfl ?_
  refine wp_bipush (6 : Int32) dX7_tryRules_3 ib_6 rfl ?_
  refine wm_icmp_ge 42 dX7_tryRules_5 rfl rfl h (fun h => ?_) (fun h => ?_)
  · refine wm_up h hP (fun r h hP => ?_)
    exact wm_vret dX7_tryRules_42 rfl ⟨rfl, rfl⟩ h hP
  · refine wp_aload_n dX7_tryRules_8 rfl rfl ?_
    refine wm_getR dX7_tryRules_9 s_53 fk_X7_30 rfl r_53_1 rfl ?_
    refine wp_aload_n dX7_tryRules_12 rfl rfl ?_
    refine wm_getR dX7_tryRules_13 s_53 fk_X7_9 rfl r_53_2 rfl ?_
    refine wp_iload_n dX7_tryRules_16 rfl rfl ?_
    refine wp_aload_n dX7_tryRules_17 rfl rfl ?_
    refine wm_getR dX7_tryRules_18 s_53 fk_X7_21 rfl r_53_0 rfl ?_
    refine wm_getR dX7_tryRules_21 s_1 fk_X7_59 rfl r_1_9 rfl ?_
    refine wp_iconst (2 : Int32) dX7_tryRules_24 ic_2 rfl ?_
    refine wm_iald dX7_tryRules_25 s_11 rfl h (fun h => ?_)
    refine wp_iconst (-1 : Int32) dX7_tryRules_26 ic_m1 rfl ?_
    refine wm_callVN (As := [.ref 54, .int s.1, .int (gI s.2 11 (ix (2 : Int32))), .int (-1 : Int32)]) (rest := []) dX7_tryRules_27 ok_X7_62 (by decide) rfl (sM_0 (by unfold MA; omega)) ⟨_, rfl⟩ (Nat.le_of_ble_eq_true rfl) ⟨rfl, rfl⟩ rfl (fun t h => o_X3_hold (by unfold MA; omega) s_54 h) h (fun q1 h => ?_)
    refine wp_aload_n dX7_tryRules_30 rfl rfl ?_
    refine wp_iconst (0 : Int32) dX7_tryRules_31 ic_0 rfl ?_
    refine wp_iload_n dX7_tryRules_32 rfl rfl ?_
    refine wm_callVN (As := [.int (0 : Int32), .int s.1]) (rest := []) dX7_tryRules_33 ok_X7_66 (by decide) rfl s_53 ⟨_, rfl⟩ (Nat.le_of_ble_eq_true rfl) ⟨rfl, rfl⟩ rfl (fun t h => o_X7_compare h) h (fun q2 h => ?_)
    refine wp_inc dX7_tryRules_36 rfl ii_1 (by decide) rfl rfl rfl ?_
    refine wp_goto 2 dX7_tryRules_39 rfl ?_
    have hB := wm_back h hP
    exact wm_mask [true, true] rfl (hB)
noncomputable def f_X7_tryRules   (m : Mem) : Option Mem := wh (f_X7_tryRules_L2) ((0 : Int32), m)
theorem k_X7_tryRules_E {g : Gx}   {Q : Qy} {m : Mem} {t : Mem} (h : f_X7_tryRules m = some t) (hP : pV Q t) : WpM g 6 mi_X7_tryRules 0 [some (.ref 53), none] [] m (zM g mi_X7_tryRules Q) := by
  refine wp_iconst (0 : Int32) dX7_tryRules_0 ic_0 rfl ?_
  refine wp_istore_n dX7_tryRules_1 (by decide) rfl rfl rfl ?_
  have hB := wh_ok (A := A_X7_tryRules_2 g Q) (B := pV Q) (fun s t h hP => k_X7_tryRules_L2  h hP) h hP
  exact wm_mask [true, true] rfl (hB)
theorem o_X7_tryRules {g : Gx}   {m : Mem} {t : Mem} (h : f_X7_tryRules m = some t) : MxM g 6 mi_X7_tryRules [.ref 53] m (qV t) := mx_of pn_X7 (Nat.le_of_ble_eq_true rfl) (k_X7_tryRules_E h ⟨rfl, rfl, rfl, rfl, rfl⟩)
abbrev A_X7_digits_4 (g : Gx)  (Q : Qy) (s : Int32 × Int32 × Mem) : Prop := WpM g 1 mi_X7_digits 4 [some (.ref 53), some (.int s.1), some (.int s.2.1)] [] s.2.2 (zM g mi_X7_digits Q)
abbrev P_X7_digits_4 (g : Gx)  (Q : Qy) : ((Int32 × Int32 × Mem) ⊕ (Int32 × Mem)) → Prop := pS (A_X7_digits_4 g Q) (pI Q)
noncomputable def f_X7_digits_L4  (s : Int32 × Int32 × Mem) : Option ((Int32 × Int32 × Mem) ⊕ (Int32 × Mem)) := if (gI s.2.2 1 14) ≤ s.2.1 then up (some (s.1, s.2.2)) else ck s.2.1 6 (bnd (((s.1 * (10 : Int32)) + (gI s.2.2 54 (ix s.2.1))) + (1 : Int32)) (fun y1 => some (Sum.inl (y1, (s.2.1 + (1 : Int32)), s.2.2))))
theorem k_X7_digits_L4 {g : Gx}  {Q : Qy} {s : Int32 × Int32 × Mem} {t : (Int32 × Int32 × Mem) ⊕ (Int32 × Mem)} (h : f_X7_digits_L4 s = some t) (hP : P_X7_digits_4 g Q t) : A_X7_digits_4 g Q s := by
  refine wp_iload_n dX7_digits_4 rfl rfl ?_
  refine wp_aload_n dX7_digits_5 rfl rfl ?_
  refine wm_getR dX7_digits_6 s_53 fk_X7_21 rfl r_53_0 rfl ?_
  refine wm_getI dX7_digits_9 s_1 fk_X7_40 rfl rfl ?_
  refine wm_icmp_ge 35 dX7_digits_12 rfl rfl h (fun h => ?_) (fun h => ?_)
  · refine wm_up h hP (fun r h hP => ?_)
    refine wp_iload_n dX7_digits_35 rfl rfl ?_
    exact wm_iret dX7_digits_36 rfl ⟨rfl, rfl⟩ h hP
  · refine wp_iload_n dX7_digits_15 rfl rfl ?_
    refine wp_bipush (10 : Int32) dX7_digits_16 ib_10 rfl ?_
    refine wp_imul dX7_digits_18 rfl ?_
    refine wp_aload_n dX7_digits_19 rfl rfl ?_
    refine wm_getR dX7_digits_20 s_53 fk_X7_9 rfl r_53_2 rfl ?_
    refine wp_iload_n dX7_digits_23 rfl rfl ?_
    refine wm_iald dX7_digits_24 s_54 rfl h (fun h => ?_)
    refine wp_iadd dX7_digits_25 rfl ?_
    refine wp_iconst (1 : Int32) dX7_digits_26 ic_1 rfl ?_
    refine wp_iadd dX7_digits_27 rfl ?_
    refine wm_nm h (fun y1 h => ?_)
    refine wp_istore_n dX7_digits_28 (by decide) rfl rfl rfl ?_
    refine wp_inc dX7_digits_29 rfl ii_1 (by decide) rfl rfl rfl ?_
    refine wp_goto 4 dX7_digits_32 rfl ?_
    have hB := wm_back h hP
    exact wm_mask [true, true, true] rfl (hB)
noncomputable def f_X7_digits   (m : Mem) : Option (Int32 × Mem) := wh (f_X7_digits_L4) ((0 : Int32), (0 : Int32), m)
theorem k_X7_digits_E {g : Gx}   {Q : Qy} {m : Mem} {t : Int32 × Mem} (h : f_X7_digits m = some t) (hP : pI Q t) : WpM g 1 mi_X7_digits 0 [some (.ref 53), none, none] [] m (zM g mi_X7_digits Q) := by
  refine wp_iconst (0 : Int32) dX7_digits_0 ic_0 rfl ?_
  refine wp_istore_n dX7_digits_1 (by decide) rfl rfl rfl ?_
  refine wp_iconst (0 : Int32) dX7_digits_2 ic_0 rfl ?_
  refine wp_istore_n dX7_digits_3 (by decide) rfl rfl rfl ?_
  have hB := wh_ok (A := A_X7_digits_4 g Q) (B := pI Q) (fun s t h hP => k_X7_digits_L4  h hP) h hP
  exact wm_mask [true, true, true] rfl (hB)
theorem o_X7_digits {g : Gx}   {m : Mem} {t : Int32 × Mem} (h : f_X7_digits m = some t) : MxM g 1 mi_X7_digits [.ref 53] m (qI t) := mx_of pn_X7 (Nat.le_of_ble_eq_true rfl) (k_X7_digits_E h ⟨rfl, rfl, rfl, rfl, rfl⟩)
noncomputable def f_X7_swap  (p1 : Int32) (p2 : Int32) (m : Mem) : Option Mem := ck p1 6 (bnd (gI m 54 (ix p1)) (fun y1 => ck p2 6 (ck p1 6 (bnd (sI m 54 (ix p1) (gI m 54 (ix p2))) (fun m2 => ck p2 6 (bnd (sI m2 54 (ix p2) y1) (fun m3 => some m3)))))))
theorem k_X7_swap_E {g : Gx}  {p1 : Int32} {p2 : Int32} {Q : Qy} {m : Mem} {t : Mem} (h : f_X7_swap p1 p2 m = some t) (hP : pV Q t) : WpM g 1 mi_X7_swap 0 [some (.ref 53), some (.int p1), some (.int p2), none] [] m (zM g mi_X7_swap Q) := by
  refine wp_aload_n dX7_swap_0 rfl rfl ?_
  refine wm_getR dX7_swap_1 s_53 fk_X7_9 rfl r_53_2 rfl ?_
  refine wp_iload_n dX7_swap_4 rfl rfl ?_
  refine wm_iald dX7_swap_5 s_54 rfl h (fun h => ?_)
  refine wm_nm h (fun y1 h => ?_)
  refine wp_istore_n dX7_swap_6 (by decide) rfl rfl rfl ?_
  refine wp_aload_n dX7_swap_7 rfl rfl ?_
  refine wm_getR dX7_swap_8 s_53 fk_X7_9 rfl r_53_2 rfl ?_
  refine wp_iload_n dX7_swap_11 rfl rfl ?_
  refine wp_aload_n dX7_swap_12 rfl rfl ?_
  refine wm_getR dX7_swap_13 s_53 fk_X7_9 rfl r_53_2 rfl ?_
  refine wp_iload_n dX7_swap_16 rfl rfl ?_
  refine wm_iald dX7_swap_17 s_54 rfl h (fun h => ?_)
  refine wm_iast dX7_swap_18 s_54 rfl h (fun m2 h => ?_)
  refine wp_aload_n dX7_swap_19 rfl rfl ?_
  refine wm_getR dX7_swap_20 s_53 fk_X7_9 rfl r_53_2 rfl ?_
  refine wp_iload_n dX7_swap_23 rfl rfl ?_
  refine wp_iload_n dX7_swap_24 rfl rfl ?_
  refine wm_iast dX7_swap_25 s_54 rfl h (fun m3 h => ?_)
  exact wm_vret dX7_swap_26 rfl ⟨rfl, rfl⟩ h hP
theorem o_X7_swap {g : Gx}  {p1 : Int32} {p2 : Int32} {m : Mem} {t : Mem} (h : f_X7_swap p1 p2 m = some t) : MxM g 1 mi_X7_swap [.ref 53, .int p1, .int p2] m (qV t) := mx_of pn_X7 (Nat.le_of_ble_eq_true rfl) (k_X7_swap_E h ⟨rfl, rfl, rfl, rfl, rfl⟩)
abbrev A_X7_nextOrder_10 (g : Gx)  (Q : Qy) (s : Int32 × Mem) : Prop := WpM g 2 mi_X7_nextOrder 10 [some (.ref 53), some (.int s.1), none, none, none] [] s.2 (zM g mi_X7_nextOrder Q)
abbrev P_X7_nextOrder_10 (g : Gx)  (Q : Qy) : ((Int32 × Mem) ⊕ (Int32 × Mem)) → Prop := pS (A_X7_nextOrder_10 g Q) (pI Q)
abbrev A_X7_nextOrder_53 (g : Gx)  (Q : Qy) (s : Int32 × Int32 × Mem) : Prop := WpM g 2 mi_X7_nextOrder 53 [some (.ref 53), some (.int s.1), some (.int s.2.1), none, none] [] s.2.2 (zM g mi_X7_nextOrder Q)
abbrev P_X7_nextOrder_53 (g : Gx)  (Q : Qy) : ((Int32 × Int32 × Mem) ⊕ (Int32 × Mem)) → Prop := pS (A_X7_nextOrder_53 g Q) (pI Q)
abbrev A_X7_nextOrder_100 (g : Gx)  (Q : Qy) (s : Int32 × Int32 × Mem) : Prop := WpM g 2 mi_X7_nextOrder 100 [some (.ref 53), none, none, some (.int s.1), some (.int s.2.1)] [] s.2.2 (zM g mi_X7_nextOrder Q)
abbrev P_X7_nextOrder_100 (g : Gx)  (Q : Qy) : ((Int32 × Int32 × Mem) ⊕ (Int32 × Mem)) → Prop := pS (A_X7_nextOrder_100 g Q) (pI Q)
noncomputable def f_X7_nextOrder_L100  (s : Int32 × Int32 × Mem) : Option ((Int32 × Int32 × Mem) ⊕ (Int32 × Mem)) := if s.2.1 ≤ s.1 then up (bz (1 : Int32) (some ((1 : Int32), s.2.2))) else (f_X7_swap s.1 s.2.1 s.2.2).bind (fun q6 => some (Sum.inl ((s.1 + (1 : Int32)), (s.2.1 + (-1 : Int32)), q6)))
theorem k_X7_nextOrder_L100 {g : Gx}  {Q : Qy} {s : Int32 × Int32 × Mem} {t : (Int32 × Int32 × Mem) ⊕ (Int32 × Mem)} (h : f_X7_nextOrder_L100 s = some t) (hP : P_X7_nextOrder_100 g Q t) : A_X7_nextOrder_100 g Q s := by
  refine wp_iload_n dX7_nextOrder_100 rfl rfl ?_
  refine wp_iload dX7_nextOrder_101 rfl rfl ?_
  refine wm_icmp_ge 122 dX7_nextOrder_103 rfl rfl h (fun h => ?_) (fun h => ?_)
  · refine wm_up h hP (fun r h hP => ?_)
    refine wp_iconst (1 : Int32) dX7_nextOrder_122 ic_1 rfl ?_
    exact wm_zret dX7_nextOrder_123 rfl ⟨rfl, rfl⟩ h hP
  · refine wp_aload_n dX7_nextOrder_106 rfl rfl ?_
    refine wp_iload_n dX7_nextOrder_107 rfl rfl ?_
    refine wp_iload dX7_nextOrder_108 rfl rfl ?_
    refine wm_callVN (As := [.int s.1, .int s.2.1]) (rest := []) dX7_nextOrder_110 ok_X7_89 (by decide) rfl s_53 ⟨_, rfl⟩ (Nat.le_of_ble_eq_true rfl) ⟨rfl, rfl⟩ rfl (fun t h => o_X7_swap h) h (fun q6 h => ?_)
    refine wp_inc dX7_nextOrder_113 rfl ii_1 (by decide) rfl rfl rfl ?_
    refine wp_inc dX7_nextOrder_116 rfl ii_m1 (by decide) rfl rfl rfl ?_
    refine wp_goto 100 dX7_nextOrder_119 rfl ?_
    have hB := wm_back h hP
    exact wm_mask [true, false, false, true, true] rfl (hB)
noncomputable def f_X7_nextOrder_J79  (v1 : Int32) (v2 : Int32) (m : Mem) : Option (Int32 × Mem) := (f_X7_swap v1 v2 m).bind (fun q3 => bnd (v1 + (1 : Int32)) (fun y4 => bnd ((gI q3 1 14) - (1 : Int32)) (fun y5 => wh (f_X7_nextOrder_L100) (y4, y5, q3))))
theorem k_X7_nextOrder_J79 {g : Gx}  {v1 : Int32} {v2 : Int32}  {Q : Qy} {m : Mem} {t : Int32 × Mem} (h : f_X7_nextOrder_J79 v1 v2 m = some t) (hP : pI Q t) : WpM g 2 mi_X7_nextOrder 79 [some (.ref 53), some (.int v1), some (.int v2), none, none] [] m (zM g mi_X7_nextOrder Q) := by
  refine wp_aload_n dX7_nextOrder_79 rfl rfl ?_
  refine wp_iload_n dX7_nextOrder_80 rfl rfl ?_
  refine wp_iload_n dX7_nextOrder_81 rfl rfl ?_
  refine wm_callVN (As := [.int v1, .int v2]) (rest := []) dX7_nextOrder_82 ok_X7_89 (by decide) rfl s_53 ⟨_, rfl⟩ (Nat.le_of_ble_eq_true rfl) ⟨rfl, rfl⟩ rfl (fun t h => o_X7_swap h) h (fun q3 h => ?_)
  refine wp_iload_n dX7_nextOrder_85 rfl rfl ?_
  refine wp_iconst (1 : Int32) dX7_nextOrder_86 ic_1 rfl ?_
  refine wp_iadd dX7_nextOrder_87 rfl ?_
  refine wm_nm h (fun y4 h => ?_)
  refine wp_istore_n dX7_nextOrder_88 (by decide) rfl rfl rfl ?_
  refine wp_aload_n dX7_nextOrder_89 rfl rfl ?_
  refine wm_getR dX7_nextOrder_90 s_53 fk_X7_21 rfl r_53_0 rfl ?_
  refine wm_getI dX7_nextOrder_93 s_1 fk_X7_40 rfl rfl ?_
  refine wp_iconst (1 : Int32) dX7_nextOrder_96 ic_1 rfl ?_
  refine wp_isub dX7_nextOrder_97 rfl ?_
  refine wm_nm h (fun y5 h => ?_)
  refine wp_istore dX7_nextOrder_98 (by decide) rfl rfl rfl ?_
  have hB := wh_ok (A := A_X7_nextOrder_100 g Q) (B := pI Q) (fun s t h hP => k_X7_nextOrder_L100  h hP) h hP
  exact wm_mask [true, false, false, true, true] rfl (hB)
noncomputable def f_X7_nextOrder_L53  (s : Int32 × Int32 × Mem) : Option ((Int32 × Int32 × Mem) ⊕ (Int32 × Mem)) := if s.2.1 ≤ s.1 then up (f_X7_nextOrder_J79 s.1 s.2.1 s.2.2) else ck s.2.1 6 (ck s.1 6 (if (gI s.2.2 54 (ix s.1)) ≤ (gI s.2.2 54 (ix s.2.1)) then up (f_X7_nextOrder_J79 s.1 s.2.1 s.2.2) else some (Sum.inl (s.1, (s.2.1 + (-1 : Int32)), s.2.2))))
theorem k_X7_nextOrder_L53 {g : Gx}  {Q : Qy} {s : Int32 × Int32 × Mem} {t : (Int32 × Int32 × Mem) ⊕ (Int32 × Mem)} (h : f_X7_nextOrder_L53 s = some t) (hP : P_X7_nextOrder_53 g Q t) : A_X7_nextOrder_53 g Q s := by
  refine wp_iload_n dX7_nextOrder_53 rfl rfl ?_
  refine wp_iload_n dX7_nextOrder_54 rfl rfl ?_
  refine wm_icmp_le 79 dX7_nextOrder_55 rfl rfl h (fun h => ?_) (fun h => ?_)
  · refine wm_up h hP (fun r h hP => ?_)
    exact wm_mask [true, true, true, false, false] rfl (k_X7_nextOrder_J79  h hP)
  · refine wp_aload_n dX7_nextOrder_58 rfl rfl ?_
    refine wm_getR dX7_nextOrder_59 s_53 fk_X7_9 rfl r_53_2 rfl ?_
    refine wp_iload_n dX7_nextOrder_62 rfl rfl ?_
    refine wm_iald dX7_nextOrder_63 s_54 rfl h (fun h => ?_)
    refine wp_aload_n dX7_nextOrder_64 rfl rfl ?_
    refine wm_getR dX7_nextOrder_65 s_53 fk_X7_9 rfl r_53_2 rfl ?_
    refine wp_iload_n dX7_nextOrder_68 rfl rfl ?_
    refine wm_iald dX7_nextOrder_69 s_54 rfl h (fun h => ?_)
    refine wm_icmp_ge 79 dX7_nextOrder_70 rfl rfl h (fun h => ?_) (fun h => ?_)
    · refine wm_up h hP (fun r h hP => ?_)
      exact wm_mask [true, true, true, false, false] rfl (k_X7_nextOrder_J79  h hP)
    · refine wp_inc dX7_nextOrder_73 rfl ii_m1 (by decide) rfl rfl rfl ?_
      refine wp_goto 53 dX7_nextOrder_76 rfl ?_
      have hB := wm_back h hP
      exact wm_mask [true, true, true, false, false] rfl (hB)
noncomputable def f_X7_nextOrder_J37  (v1 : Int32) (m : Mem) : Option (Int32 × Mem) := if 0 ≤ v1 then bnd ((gI m 1 14) - (1 : Int32)) (fun y2 => wh (f_X7_nextOrder_L53) (v1, y2, m)) else bz (0 : Int32) (some ((0 : Int32), m))
theorem k_X7_nextOrder_J37 {g : Gx}  {v1 : Int32}  {Q : Qy} {m : Mem} {t : Int32 × Mem} (h : f_X7_nextOrder_J37 v1 m = some t) (hP : pI Q t) : WpM g 2 mi_X7_nextOrder 37 [some (.ref 53), some (.int v1), none, none, none] [] m (zM g mi_X7_nextOrder Q) := by
  refine wp_iload_n dX7_nextOrder_37 rfl rfl ?_
  refine wm_if_ge 43 dX7_nextOrder_38 rfl rfl h (fun h => ?_) (fun h => ?_)
  · refine wp_aload_n dX7_nextOrder_43 rfl rfl ?_
    refine wm_getR dX7_nextOrder_44 s_53 fk_X7_21 rfl r_53_0 rfl ?_
    refine wm_getI dX7_nextOrder_47 s_1 fk_X7_40 rfl rfl ?_
    refine wp_iconst (1 : Int32) dX7_nextOrder_50 ic_1 rfl ?_
    refine wp_isub dX7_nextOrder_51 rfl ?_
    refine wm_nm h (fun y2 h => ?_)
    refine wp_istore_n dX7_nextOrder_52 (by decide) rfl rfl rfl ?_
    have hB := wh_ok (A := A_X7_nextOrder_53 g Q) (B := pI Q) (fun s t h hP => k_X7_nextOrder_L53  h hP) h hP
    exact wm_mask [true, true, true, false, false] rfl (hB)
  · refine wp_iconst (0 : Int32) dX7_nextOrder_41 ic_0 rfl ?_
    exact wm_zret dX7_nextOrder_42 rfl ⟨rfl, rfl⟩ h hP
noncomputable def f_X7_nextOrder_L10  (s : Int32 × Mem) : Option ((Int32 × Mem) ⊕ (Int32 × Mem)) := if s.1 < 0 then up (f_X7_nextOrder_J37 s.1 s.2) else ck s.1 6 (ck (s.1 + (1 : Int32)) 6 (if (gI s.2 54 (ix s.1)) ≤ (gI s.2 54 (ix (s.1 + (1 : Int32)))) then up (f_X7_nextOrder_J37 s.1 s.2) else some (Sum.inl ((s.1 + (-1 : Int32)), s.2))))
theorem k_X7_nextOrder_L10 {g : Gx}  {Q : Qy} {s : Int32 × Mem} {t : (Int32 × Mem) ⊕ (Int32 × Mem)} (h : f_X7_nextOrder_L10 s = some t) (hP : P_X7_nextOrder_10 g Q t) : A_X7_nextOrder_10 g Q s := by
  refine wp_iload_n dX7_nextOrder_10 rfl rfl ?_
  refine wm_if_lt 37 dX7_nextOrder_11 rfl rfl h (fun h => ?_) (fun h => ?_)
  · refine wm_up h hP (fun r h hP => ?_)
    exact wm_mask [true, true, false, false, false] rfl (k_X7_nextOrder_J37  h hP)
  · refine wp_aload_n dX7_nextOrder_14 rfl rfl ?_
    refine wm_getR dX7_nextOrder_15 s_53 fk_X7_9 rfl r_53_2 rfl ?_
    refine wp_iload_n dX7_nextOrder_18 rfl rfl ?_
    refine wm_iald dX7_nextOrder_19 s_54 rfl h (fun h => ?_)
    refine wp_aload_n dX7_nextOrder_20 rfl rfl ?_
    refine wm_getR dX7_nextOrder_21 s_53 fk_X7_9 rfl r_53_2 rfl ?_
    refine wp_iload_n dX7_nextOrder_24 rfl rfl ?_
    refine wp_iconst (1 : Int32) dX7_nextOrder_25 ic_1 rfl ?_
    refine wp_iadd dX7_nextOrder_26 rfl ?_
    refine wm_iald dX7_nextOrder_27 s_54 rfl h (fun h => ?_)
    refine wm_icmp_le 37 dX7_nextOrder_28 rfl rfl h (fun h => ?_) (fun h => ?_)
    · refine wm_up h hP (fun r h hP => ?_)
      exact wm_mask [true, true, false, false, false] rfl (k_X7_nextOrder_J37  h hP)
    · refine wp_inc dX7_nextOrder_31 rfl ii_m1 (by decide) rfl rfl rfl ?_
      refine wp_goto 10 dX7_nextOrder_34 rfl ?_
      have hB := wm_back h hP
      exact wm_mask [true, true, false, false, false] rfl (hB)
noncomputable def f_X7_nextOrder   (m : Mem) : Option (Int32 × Mem) := bnd ((gI m 1 14) - (2 : Int32)) (fun y1 => wh (f_X7_nextOrder_L10) (y1, m))
theorem k_X7_nextOrder_E {g : Gx}   {Q : Qy} {m : Mem} {t : Int32 × Mem} (h : f_X7_nextOrder m = some t) (hP : pI Q t) : WpM g 2 mi_X7_nextOrder 0 [some (.ref 53), none, none, none, none] [] m (zM g mi_X7_nextOrder Q) := by
  refine wp_aload_n dX7_nextOrder_0 rfl rfl ?_
  refine wm_getR dX7_nextOrder_1 s_53 fk_X7_21 rfl r_53_0 rfl ?_
  refine wm_getI dX7_nextOrder_4 s_1 fk_X7_40 rfl rfl ?_
  refine wp_iconst (2 : Int32) dX7_nextOrder_7 ic_2 rfl ?_
  refine wp_isub dX7_nextOrder_8 rfl ?_
  refine wm_nm h (fun y1 h => ?_)
  refine wp_istore_n dX7_nextOrder_9 (by decide) rfl rfl rfl ?_
  have hB := wh_ok (A := A_X7_nextOrder_10 g Q) (B := pI Q) (fun s t h hP => k_X7_nextOrder_L10  h hP) h hP
  exact wm_mask [true, true, false, false, false] rfl (hB)
theorem o_X7_nextOrder {g : Gx}   {m : Mem} {t : Int32 × Mem} (h : f_X7_nextOrder m = some t) : MxM g 2 mi_X7_nextOrder [.ref 53] m (qI t) := mx_of pn_X7 (Nat.le_of_ble_eq_true rfl) (k_X7_nextOrder_E h ⟨rfl, rfl, rfl, rfl, rfl⟩)
abbrev A_X7_tryOrders_4 (g : Gx)  (Q : Qy) (s : Int32 × Int32 × Mem) : Prop := WpM g 6 mi_X7_tryOrders 4 [some (.ref 53), some (.int s.1), some (.int s.2.1)] [] s.2.2 (zM g mi_X7_tryOrders Q)
abbrev P_X7_tryOrders_4 (g : Gx)  (Q : Qy) : ((Int32 × Int32 × Mem) ⊕ Mem) → Prop := pS (A_X7_tryOrders_4 g Q) (pV Q)
noncomputable def f_X7_tryOrders_L4  (s : Int32 × Int32 × Mem) : Option ((Int32 × Int32 × Mem) ⊕ Mem) := if (120 : Int32) ≤ s.2.1 then up (some s.2.2) else if s.1 = 0 then up (some s.2.2) else ck (0 : Int32) 3 (ck (2 : Int32) 3 ((f_X3_hold 57 54 (gI s.2.2 11 (ix (0 : Int32))) (gI s.2.2 11 (ix (2 : Int32))) (-1 : Int32) s.2.2).bind (fun q1 => (f_X7_digits q1).bind (fun q2 => (f_X7_compare (1 : Int32) q2.1 q2.2).bind (fun q3 => (f_X7_nextOrder q3).bind (fun q4 => some (Sum.inl (q4.1, (s.2.1 + (1 : Int32)), q4.2))))))))
theorem k_X7_tryOrders_L4 {g : Gx}  {Q : Qy} {s : Int32 × Int32 × Mem} {t : (Int32 × Int32 × Mem) ⊕ Mem} (h : f_X7_tryOrders_L4 s = some t) (hP : P_X7_tryOrders_4 g Q t) : A_X7_tryOrders_4 g Q s := by
  refine wp_iload_n dX7_tryOrders_4 rfl rfl ?_
  refine wp_bipush (120 : Int32) dX7_tryOrders_5 ib_120 rfl ?_
  refine wm_icmp_ge 64 dX7_tryOrders_7 rfl rfl h (fun h => ?_) (fun h => ?_)
  · refine wm_up h hP (fun r h hP => ?_)
    exact wm_vret dX7_tryOrders_64 rfl ⟨rfl, rfl⟩ h hP
  · refine wp_iload_n dX7_tryOrders_10 rfl rfl ?_
    refine wm_if_eq 64 dX7_tryOrders_11 rfl rfl h (fun h => ?_) (fun h => ?_)
    · refine wm_up h hP (fun r h hP => ?_)
      exact wm_vret dX7_tryOrders_64 rfl ⟨rfl, rfl⟩ h hP
    · refine wp_aload_n dX7_tryOrders_14 rfl rfl ?_
      refine wm_getR dX7_tryOrders_15 s_53 fk_X7_30 rfl r_53_1 rfl ?_
      refine wp_aload_n dX7_tryOrders_18 rfl rfl ?_
      refine wm_getR dX7_tryOrders_19 s_53 fk_X7_9 rfl r_53_2 rfl ?_
      refine wp_aload_n dX7_tryOrders_22 rfl rfl ?_
      refine wm_getR dX7_tryOrders_23 s_53 fk_X7_21 rfl r_53_0 rfl ?_
      refine wm_getR dX7_tryOrders_26 s_1 fk_X7_59 rfl r_1_9 rfl ?_
      refine wp_iconst (0 : Int32) dX7_tryOrders_29 ic_0 rfl ?_
      refine wm_iald dX7_tryOrders_30 s_11 rfl h (fun h => ?_)
      refine wp_aload_n dX7_tryOrders_31 rfl rfl ?_
      refine wm_getR dX7_tryOrders_32 s_53 fk_X7_21 rfl r_53_0 rfl ?_
      refine wm_getR dX7_tryOrders_35 s_1 fk_X7_59 rfl r_1_9 rfl ?_
      refine wp_iconst (2 : Int32) dX7_tryOrders_38 ic_2 rfl ?_
      refine wm_iald dX7_tryOrders_39 s_11 rfl h (fun h => ?_)
      refine wp_iconst (-1 : Int32) dX7_tryOrders_40 ic_m1 rfl ?_
      refine wm_callVN (As := [.ref 54, .int (gI s.2.2 11 (ix (0 : Int32))), .int (gI s.2.2 11 (ix (2 : Int32))), .int (-1 : Int32)]) (rest := []) dX7_tryOrders_41 ok_X7_62 (by decide) rfl (sM_0 (by unfold MA; omega)) ⟨_, rfl⟩ (Nat.le_of_ble_eq_true rfl) ⟨rfl, rfl⟩ rfl (fun t h => o_X3_hold (by unfold MA; omega) s_54 h) h (fun q1 h => ?_)
      refine wp_aload_n dX7_tryOrders_44 rfl rfl ?_
      refine wp_iconst (1 : Int32) dX7_tryOrders_45 ic_1 rfl ?_
      refine wp_aload_n dX7_tryOrders_46 rfl rfl ?_
      refine wm_callVI (As := []) (rest := [.int (1 : Int32), .ref 53]) dX7_tryOrders_47 ok_X7_70 (by decide) rfl s_53 ⟨_, rfl⟩ (Nat.le_of_ble_eq_true rfl) ⟨rfl, rfl⟩ rfl (fun t h => o_X7_digits h) h (fun q2 h => ?_)
      refine wm_callVN (As := [.int (1 : Int32), .int q2.1]) (rest := []) dX7_tryOrders_50 ok_X7_66 (by decide) rfl s_53 ⟨_, rfl⟩ (Nat.le_of_ble_eq_true rfl) ⟨rfl, rfl⟩ rfl (fun t h => o_X7_compare h) h (fun q3 h => ?_)
      refine wp_aload_n dX7_tryOrders_53 rfl rfl ?_
      refine wm_callVI (As := []) (rest := []) dX7_tryOrders_54 ok_X7_74 (by decide) rfl s_53 ⟨_, rfl⟩ (Nat.le_of_ble_eq_true rfl) ⟨rfl, rfl⟩ rfl (fun t h => o_X7_nextOrder h) h (fun q4 h => ?_)
      refine wp_istore_n dX7_tryOrders_57 (by decide) rfl rfl rfl ?_
      refine wp_inc dX7_tryOrders_58 rfl ii_1 (by decide) rfl rfl rfl ?_
      refine wp_goto 4 dX7_tryOrders_61 rfl ?_
      have hB := wm_back h hP
      exact wm_mask [true, true, true] rfl (hB)
noncomputable def f_X7_tryOrders   (m : Mem) : Option Mem := wh (f_X7_tryOrders_L4) ((1 : Int32), (0 : Int32), m)
theorem k_X7_tryOrders_E {g : Gx}   {Q : Qy} {m : Mem} {t : Mem} (h : f_X7_tryOrders m = some t) (hP : pV Q t) : WpM g 6 mi_X7_tryOrders 0 [some (.ref 53), none, none] [] m (zM g mi_X7_tryOrders Q) := by
  refine wp_iconst (1 : Int32) dX7_tryOrders_0 ic_1 rfl ?_
  refine wp_istore_n dX7_tryOrders_1 (by decide) rfl rfl rfl ?_
  refine wp_iconst (0 : Int32) dX7_tryOrders_2 ic_0 rfl ?_
  refine wp_istore_n dX7_tryOrders_3 (by decide) rfl rfl rfl ?_
  have hB := wh_ok (A := A_X7_tryOrders_4 g Q) (B := pV Q) (fun s t h hP => k_X7_tryOrders_L4  h hP) h hP
  exact wm_mask [true, true, true] rfl (hB)
theorem o_X7_tryOrders {g : Gx}   {m : Mem} {t : Mem} (h : f_X7_tryOrders m = some t) : MxM g 6 mi_X7_tryOrders [.ref 53] m (qV t) := mx_of pn_X7 (Nat.le_of_ble_eq_true rfl) (k_X7_tryOrders_E h ⟨rfl, rfl, rfl, rfl, rfl⟩)
abbrev A_X7_tryTimers_2 (g : Gx)  (Q : Qy) (s : Int32 × Mem) : Prop := WpM g 6 mi_X7_tryTimers 2 [some (.ref 53), some (.int s.1)] [] s.2 (zM g mi_X7_tryTimers Q)
abbrev P_X7_tryTimers_2 (g : Gx)  (Q : Qy) : ((Int32 × Mem) ⊕ Mem) → Prop := pS (A_X7_tryTimers_2 g Q) (pV Q)
noncomputable def f_X7_tryTimers_L2  (s : Int32 × Mem) : Option ((Int32 × Mem) ⊕ Mem) := if (9 : Int32) < s.1 then up (some s.2) else ck (0 : Int32) 3 ((f_X3_hold 57 54 (gI s.2 11 (ix (0 : Int32))) s.1 (-1 : Int32) s.2).bind (fun q1 => (f_X7_compare (2 : Int32) s.1 q1).bind (fun q2 => some (Sum.inl ((s.1 + (1 : Int32)), q2)))))
theorem k_X7_tryTimers_L2 {g : Gx}  {Q : Qy} {s : Int32 × Mem} {t : (Int32 × Mem) ⊕ Mem} (h : f_X7_tryTimers_L2 s = some t) (hP : P_X7_tryTimers_2 g Q t) : A_X7_tryTimers_2 g Q s := by
  refine wp_iload_n dX7_tryTimers_2 rfl rfl ?_
  refine wp_bipush (9 : Int32) dX7_tryTimers_3 ib_9 rfl ?_
  refine wm_icmp_gt 42 dX7_tryTimers_5 rfl rfl h (fun h => ?_) (fun h => ?_)
  · refine wm_up h hP (fun r h hP => ?_)
    exact wm_vret dX7_tryTimers_42 rfl ⟨rfl, rfl⟩ h hP
  · refine wp_aload_n dX7_tryTimers_8 rfl rfl ?_
    refine wm_getR dX7_tryTimers_9 s_53 fk_X7_30 rfl r_53_1 rfl ?_
    refine wp_aload_n dX7_tryTimers_12 rfl rfl ?_
    refine wm_getR dX7_tryTimers_13 s_53 fk_X7_9 rfl r_53_2 rfl ?_
    refine wp_aload_n dX7_tryTimers_16 rfl rfl ?_
    refine wm_getR dX7_tryTimers_17 s_53 fk_X7_21 rfl r_53_0 rfl ?_
    refine wm_getR dX7_tryTimers_20 s_1 fk_X7_59 rfl r_1_9 rfl ?_
    refine wp_iconst (0 : Int32) dX7_tryTimers_23 ic_0 rfl ?_
    refine wm_iald dX7_tryTimers_24 s_11 rfl h (fun h => ?_)
    refine wp_iload_n dX7_tryTimers_25 rfl rfl ?_
    refine wp_iconst (-1 : Int32) dX7_tryTimers_26 ic_m1 rfl ?_
    refine wm_callVN (As := [.ref 54, .int (gI s.2 11 (ix (0 : Int32))), .int s.1, .int (-1 : Int32)]) (rest := []) dX7_tryTimers_27 ok_X7_62 (by decide) rfl (sM_0 (by unfold MA; omega)) ⟨_, rfl⟩ (Nat.le_of_ble_eq_true rfl) ⟨rfl, rfl⟩ rfl (fun t h => o_X3_hold (by unfold MA; omega) s_54 h) h (fun q1 h => ?_)
    refine wp_aload_n dX7_tryTimers_30 rfl rfl ?_
    refine wp_iconst (2 : Int32) dX7_tryTimers_31 ic_2 rfl ?_
    refine wp_iload_n dX7_tryTimers_32 rfl rfl ?_
    refine wm_callVN (As := [.int (2 : Int32), .int s.1]) (rest := []) dX7_tryTimers_33 ok_X7_66 (by decide) rfl s_53 ⟨_, rfl⟩ (Nat.le_of_ble_eq_true rfl) ⟨rfl, rfl⟩ rfl (fun t h => o_X7_compare h) h (fun q2 h => ?_)
    refine wp_inc dX7_tryTimers_36 rfl ii_1 (by decide) rfl rfl rfl ?_
    refine wp_goto 2 dX7_tryTimers_39 rfl ?_
    have hB := wm_back h hP
    exact wm_mask [true, true] rfl (hB)
noncomputable def f_X7_tryTimers   (m : Mem) : Option Mem := wh (f_X7_tryTimers_L2) ((1 : Int32), m)
theorem k_X7_tryTimers_E {g : Gx}   {Q : Qy} {m : Mem} {t : Mem} (h : f_X7_tryTimers m = some t) (hP : pV Q t) : WpM g 6 mi_X7_tryTimers 0 [some (.ref 53), none] [] m (zM g mi_X7_tryTimers Q) := by
  refine wp_iconst (1 : Int32) dX7_tryTimers_0 ic_1 rfl ?_
  refine wp_istore_n dX7_tryTimers_1 (by decide) rfl rfl rfl ?_
  have hB := wh_ok (A := A_X7_tryTimers_2 g Q) (B := pV Q) (fun s t h hP => k_X7_tryTimers_L2  h hP) h hP
  exact wm_mask [true, true] rfl (hB)
theorem o_X7_tryTimers {g : Gx}   {m : Mem} {t : Mem} (h : f_X7_tryTimers m = some t) : MxM g 6 mi_X7_tryTimers [.ref 53] m (qV t) := mx_of pn_X7 (Nat.le_of_ble_eq_true rfl) (k_X7_tryTimers_E h ⟨rfl, rfl, rfl, rfl, rfl⟩)
noncomputable def f_X7_answer_J131  (v1 : Int32) (v2 : Int32) (m : Mem) : Option (Int32 × Mem) := ck ((v1 * (3 : Int32)) + v2) 9 (some ((gI m 55 (ix ((v1 * (3 : Int32)) + v2))), m))
theorem k_X7_answer_J131 {g : Gx}  {v1 : Int32} {v2 : Int32}  {Q : Qy} {m : Mem} {t : Int32 × Mem} (h : f_X7_answer_J131 v1 v2 m = some t) (hP : pI Q t) : WpM g 7 mi_X7_answer 131 [some (.ref 53), some (.int v1), some (.int v2)] [] m (zM g mi_X7_answer Q) := by
  refine wp_aload_n dX7_answer_131 rfl rfl ?_
  refine wm_getR dX7_answer_132 s_53 fk_X7_15 rfl r_53_3 rfl ?_
  refine wp_iload_n dX7_answer_135 rfl rfl ?_
  refine wp_iconst (3 : Int32) dX7_answer_136 ic_3 rfl ?_
  refine wp_imul dX7_answer_137 rfl ?_
  refine wp_iload_n dX7_answer_138 rfl rfl ?_
  refine wp_iadd dX7_answer_139 rfl ?_
  refine wm_iald dX7_answer_140 s_55 rfl h (fun h => ?_)
  exact wm_iret dX7_answer_141 rfl ⟨rfl, rfl⟩ h hP
noncomputable def f_X7_answer_J118  (v1 : Int32) (v2 : Int32) (m : Mem) : Option (Int32 × Mem) := ck v1 3 (bnd (sI m 56 (ix v1) (gI m 1 16)) (fun m5 => f_X7_answer_J131 v1 v2 m5))
theorem k_X7_answer_J118 {g : Gx}  {v1 : Int32} {v2 : Int32}  {Q : Qy} {m : Mem} {t : Int32 × Mem} (h : f_X7_answer_J118 v1 v2 m = some t) (hP : pI Q t) : WpM g 7 mi_X7_answer 118 [some (.ref 53), some (.int v1), some (.int v2)] [] m (zM g mi_X7_answer Q) := by
  refine wp_aload_n dX7_answer_118 rfl rfl ?_
  refine wm_getR dX7_answer_119 s_53 fk_X7_18 rfl r_53_4 rfl ?_
  refine wp_iload_n dX7_answer_122 rfl rfl ?_
  refine wp_aload_n dX7_answer_123 rfl rfl ?_
  refine wm_getR dX7_answer_124 s_53 fk_X7_21 rfl r_53_0 rfl ?_
  refine wm_getI dX7_answer_127 s_1 fk_X7_44 rfl rfl ?_
  refine wm_iast dX7_answer_130 s_56 rfl h (fun m5 h => ?_)
  exact wm_mask [true, true, true] rfl (k_X7_answer_J131  h hP)
noncomputable def f_X7_answer_J40  (v1 : Int32) (v2 : Int32) (m : Mem) : Option (Int32 × Mem) := ck v1 3 (if (gI m 56 (ix v1)) = (gI m 1 16) then f_X7_answer_J131 v1 v2 m else ck (v1 * (3 : Int32)) 9 (bnd (sI m 55 (ix (v1 * (3 : Int32))) (-2 : Int32)) (fun m2 => (f_X8_asTheyCame 54 m2).bind (fun q3 => sw v1 [((0 : Int32), (f_X7_tryRules q3).bind (fun q4 => f_X7_answer_J118 v1 v2 q4)), ((1 : Int32), (f_X7_tryOrders q3).bind (fun q6 => f_X7_answer_J118 v1 v2 q6))] ((f_X7_tryTimers q3).bind (fun q7 => f_X7_answer_J118 v1 v2 q7))))))
theorem k_X7_answer_J40 {g : Gx}  {v1 : Int32} {v2 : Int32}  {Q : Qy} {m : Mem} {t : Int32 × Mem} (h : f_X7_answer_J40 v1 v2 m = some t) (hP : pI Q t) : WpM g 7 mi_X7_answer 40 [some (.ref 53), some (.int v1), some (.int v2)] [] m (zM g mi_X7_answer Q) := by
  refine wp_aload_n dX7_answer_40 rfl rfl ?_
  refine wm_getR dX7_answer_41 s_53 fk_X7_18 rfl r_53_4 rfl ?_
  refine wp_iload_n dX7_answer_44 rfl rfl ?_
  refine wm_iald dX7_answer_45 s_56 rfl h (fun h => ?_)
  refine wp_aload_n dX7_answer_46 rfl rfl ?_
  refine wm_getR dX7_answer_47 s_53 fk_X7_21 rfl r_53_0 rfl ?_
  refine wm_getI dX7_answer_50 s_1 fk_X7_44 rfl rfl ?_
  refine wm_icmp_eq 131 dX7_answer_53 rfl rfl h (fun h => ?_) (fun h => ?_)
  · exact wm_mask [true, true, true] rfl (k_X7_answer_J131  h hP)
  · refine wp_aload_n dX7_answer_56 rfl rfl ?_
    refine wm_getR dX7_answer_57 s_53 fk_X7_15 rfl r_53_3 rfl ?_
    refine wp_iload_n dX7_answer_60 rfl rfl ?_
    refine wp_iconst (3 : Int32) dX7_answer_61 ic_3 rfl ?_
    refine wp_imul dX7_answer_62 rfl ?_
    refine wp_bipush (-2 : Int32) dX7_answer_63 ib_m2 rfl ?_
    refine wm_iast dX7_answer_65 s_55 rfl h (fun m2 h => ?_)
    refine wp_aload_n dX7_answer_66 rfl rfl ?_
    refine wm_getR dX7_answer_67 s_53 fk_X7_9 rfl r_53_2 rfl ?_
    refine wm_callSNN (As := [.ref 54]) (rest := []) dX7_answer_70 ok_X7_46 (by decide) rfl (Nat.le_of_ble_eq_true rfl) ⟨rfl, rfl⟩ rfl (fun t h => o_X8_asTheyCame s_54 h) h (fun q3 h => ?_)
    refine wp_iload_n dX7_answer_73 rfl rfl ?_
    refine wm_lsw [((0 : Int32), 100), ((1 : Int32), 107)] 114 dX7_answer_74 (by decide +kernel) rfl (by decide +kernel) (lsw_off (by decide +kernel)) (by decide +kernel) h rfl ⟨fun h => ?_, fun h => ?_, trivial⟩ (fun h => ?_)
    · refine wp_aload_n dX7_answer_100 rfl rfl ?_
      refine wm_callVN (As := []) (rest := []) dX7_answer_101 ok_X7_50 (by decide) rfl s_53 ⟨_, rfl⟩ (Nat.le_of_ble_eq_true rfl) ⟨rfl, rfl⟩ rfl (fun t h => o_X7_tryRules h) h (fun q4 h => ?_)
      refine wp_goto 118 dX7_answer_104 rfl ?_
      exact wm_mask [true, true, true] rfl (k_X7_answer_J118  h hP)
    · refine wp_aload_n dX7_answer_107 rfl rfl ?_
      refine wm_callVN (As := []) (rest := []) dX7_answer_108 ok_X7_53 (by decide) rfl s_53 ⟨_, rfl⟩ (Nat.le_of_ble_eq_true rfl) ⟨rfl, rfl⟩ rfl (fun t h => o_X7_tryOrders h) h (fun q6 h => ?_)
      refine wp_goto 118 dX7_answer_111 rfl ?_
      exact wm_mask [true, true, true] rfl (k_X7_answer_J118  h hP)
    · refine wp_aload_n dX7_answer_114 rfl rfl ?_
      refine wm_callVN (As := []) (rest := []) dX7_answer_115 ok_X7_56 (by decide) rfl s_53 ⟨_, rfl⟩ (Nat.le_of_ble_eq_true rfl) ⟨rfl, rfl⟩ rfl (fun t h => o_X7_tryTimers h) h (fun q7 h => ?_)
      exact wm_mask [true, true, true] rfl (k_X7_answer_J118  h hP)
noncomputable def f_X7_answer  (p1 : Int32) (p2 : Int32) (m : Mem) : Option (Int32 × Mem) := if p2 < 0 then some ((-1 : Int32), m) else if p2 < (3 : Int32) then (f_X6_isBare m).bind (fun q1 => if ¬ q1.1 = 0 then some ((-5 : Int32), q1.2) else if ¬ p1 = (1 : Int32) then f_X7_answer_J40 p1 p2 q1.2 else if (gI q1.2 1 14) ≤ (5 : Int32) then f_X7_answer_J40 p1 p2 q1.2 else some ((-5 : Int32), q1.2)) else some ((-1 : Int32), m)
theorem k_X7_answer_E {g : Gx}  {p1 : Int32} {p2 : Int32} {Q : Qy} {m : Mem} {t : Int32 × Mem} (h : f_X7_answer p1 p2 m = some t) (hP : pI Q t) : WpM g 7 mi_X7_answer 0 [some (.ref 53), some (.int p1), some (.int p2)] [] m (zM g mi_X7_answer Q) := by
  refine wp_iload_n dX7_answer_0 rfl rfl ?_
  refine wm_if_lt 9 dX7_answer_1 rfl rfl h (fun h => ?_) (fun h => ?_)
  · refine wp_iconst (-1 : Int32) dX7_answer_9 ic_m1 rfl ?_
    exact wm_iret dX7_answer_10 rfl ⟨rfl, rfl⟩ h hP
  · refine wp_iload_n dX7_answer_4 rfl rfl ?_
    refine wp_iconst (3 : Int32) dX7_answer_5 ic_3 rfl ?_
    refine wm_icmp_lt 11 dX7_answer_6 rfl rfl h (fun h => ?_) (fun h => ?_)
    · refine wp_aload_n dX7_answer_11 rfl rfl ?_
      refine wm_getR dX7_answer_12 s_53 fk_X7_21 rfl r_53_0 rfl ?_
      refine wm_callVI (As := []) (rest := []) dX7_answer_15 ok_X7_34 (by decide) rfl s_1 ⟨_, rfl⟩ (Nat.le_of_ble_eq_true rfl) ⟨rfl, rfl⟩ rfl (fun t h => o_X6_isBare h) h (fun q1 h => ?_)
      refine wm_if_ne 37 dX7_answer_18 rfl rfl h (fun h => ?_) (fun h => ?_)
      · refine wp_bipush (-5 : Int32) dX7_answer_37 ib_m5 rfl ?_
        exact wm_iret dX7_answer_39 rfl ⟨rfl, rfl⟩ h hP
      · refine wp_iload_n dX7_answer_21 rfl rfl ?_
        refine wp_iconst (1 : Int32) dX7_answer_22 ic_1 rfl ?_
        refine wm_icmp_ne 40 dX7_answer_23 rfl rfl h (fun h => ?_) (fun h => ?_)
        · exact wm_mask [true, true, true] rfl (k_X7_answer_J40  h hP)
        · refine wp_aload_n dX7_answer_26 rfl rfl ?_
          refine wm_getR dX7_answer_27 s_53 fk_X7_21 rfl r_53_0 rfl ?_
          refine wm_getI dX7_answer_30 s_1 fk_X7_40 rfl rfl ?_
          refine wp_iconst (5 : Int32) dX7_answer_33 ic_5 rfl ?_
          refine wm_icmp_le 40 dX7_answer_34 rfl rfl h (fun h => ?_) (fun h => ?_)
          · exact wm_mask [true, true, true] rfl (k_X7_answer_J40  h hP)
          · refine wp_bipush (-5 : Int32) dX7_answer_37 ib_m5 rfl ?_
            exact wm_iret dX7_answer_39 rfl ⟨rfl, rfl⟩ h hP
    · refine wp_iconst (-1 : Int32) dX7_answer_9 ic_m1 rfl ?_
      exact wm_iret dX7_answer_10 rfl ⟨rfl, rfl⟩ h hP
theorem o_X7_answer {g : Gx}  {p1 : Int32} {p2 : Int32} {m : Mem} {t : Int32 × Mem} (h : f_X7_answer p1 p2 m = some t) : MxM g 7 mi_X7_answer [.ref 53, .int p1, .int p2] m (qI t) := mx_of pn_X7 (Nat.le_of_ble_eq_true rfl) (k_X7_answer_E h ⟨rfl, rfl, rfl, rfl, rfl⟩)
abbrev A_X7_isShown_18 (g : Gx) (sf : Nat) (Q : Qy) (s : Int32 × Mem) : Prop := WpM g 1 mi_X7_isShown 18 [some (.ref 53), some (.ref sf), some (.int s.1)] [] s.2 (zM g mi_X7_isShown Q)
abbrev P_X7_isShown_18 (g : Gx) (sf : Nat) (Q : Qy) : ((Int32 × Mem) ⊕ (Int32 × Mem)) → Prop := pS (A_X7_isShown_18 g sf Q) (pI Q)
noncomputable def f_X7_isShown_L18 (sf : Nat) (s : Int32 × Mem) : Option ((Int32 × Mem) ⊕ (Int32 × Mem)) := if (gI s.2 sf 2) ≤ s.1 then up (bz (1 : Int32) (some ((1 : Int32), s.2))) else ck s.1 60 (ck ((s.1 * (7 : Int32)) + (0 : Int32)) 1400 (if (lg_cmp (gJ s.2 (sf + 1) (ix s.1)) (gI s.2 (57 + 1) (ix ((s.1 * (7 : Int32)) + (0 : Int32)))).toInt64) = 0 then some (Sum.inl ((s.1 + (1 : Int32)), s.2)) else up (bz (0 : Int32) (some ((0 : Int32), s.2)))))
theorem k_X7_isShown_L18 {g : Gx} {sf : Nat} (hsf : SA sf) {Q : Qy} {s : Int32 × Mem} {t : (Int32 × Mem) ⊕ (Int32 × Mem)} (h : f_X7_isShown_L18 sf s = some t) (hP : P_X7_isShown_18 g sf Q t) : A_X7_isShown_18 g sf Q s := by
  refine wp_iload_n dX7_isShown_18 rfl rfl ?_
  refine wp_aload_n dX7_isShown_19 rfl rfl ?_
  refine wm_getI dX7_isShown_20 (sS_0 hsf) fk_X7_99 rfl rfl ?_
  refine wm_icmp_ge 59 dX7_isShown_23 rfl rfl h (fun h => ?_) (fun h => ?_)
  · refine wm_up h hP (fun r h hP => ?_)
    refine wp_iconst (1 : Int32) dX7_isShown_59 ic_1 rfl ?_
    exact wm_zret dX7_isShown_60 rfl ⟨rfl, rfl⟩ h hP
  · refine wp_aload_n dX7_isShown_26 rfl rfl ?_
    refine wm_getR dX7_isShown_27 (sS_0 hsf) fk_X7_104 rfl (rS_3 hsf) rfl ?_
    refine wp_iload_n dX7_isShown_30 rfl rfl ?_
    refine wm_lald dX7_isShown_31 (sS_1 hsf) rfl h (fun h => ?_)
    refine wp_aload_n dX7_isShown_32 rfl rfl ?_
    refine wm_getR dX7_isShown_33 s_53 fk_X7_30 rfl r_53_1 rfl ?_
    refine wm_getR dX7_isShown_36 (sM_0 (by unfold MA; omega)) fk_X7_108 rfl (rM_0 (by unfold MA; omega)) rfl ?_
    refine wp_iload_n dX7_isShown_39 rfl rfl ?_
    refine wp_bipush (7 : Int32) dX7_isShown_40 ib_7 rfl ?_
    refine wp_imul dX7_isShown_42 rfl ?_
    refine wp_iconst (0 : Int32) dX7_isShown_43 ic_0 rfl ?_
    refine wp_iadd dX7_isShown_44 rfl ?_
    refine wm_iald dX7_isShown_45 (sM_1 (by unfold MA; omega)) rfl h (fun h => ?_)
    refine wp_i2l dX7_isShown_46 rfl ?_
    refine wp_lcmp dX7_isShown_47 rfl ?_
    refine wm_if_eq 53 dX7_isShown_48 rfl rfl h (fun h => ?_) (fun h => ?_)
    · refine wp_inc dX7_isShown_53 rfl ii_1 (by decide) rfl rfl rfl ?_
      refine wp_goto 18 dX7_isShown_56 rfl ?_
      have hB := wm_back h hP
      exact wm_mask [true, true, true] rfl (hB)
    · refine wm_up h hP (fun r h hP => ?_)
      refine wp_iconst (0 : Int32) dX7_isShown_51 ic_0 rfl ?_
      exact wm_zret dX7_isShown_52 rfl ⟨rfl, rfl⟩ h hP
noncomputable def f_X7_isShown (sf : Nat)  (m : Mem) : Option (Int32 × Mem) := if (gI m sf 2) ≤ (gI m 57 7) then wh (f_X7_isShown_L18 sf) ((0 : Int32), m) else bz (0 : Int32) (some ((0 : Int32), m))
theorem k_X7_isShown_E {g : Gx} {sf : Nat} (hsf : SA sf)  {Q : Qy} {m : Mem} {t : Int32 × Mem} (h : f_X7_isShown sf m = some t) (hP : pI Q t) : WpM g 1 mi_X7_isShown 0 [some (.ref 53), some (.ref sf), none] [] m (zM g mi_X7_isShown Q) := by
  refine wp_aload_n dX7_isShown_0 rfl rfl ?_
  refine wm_getR dX7_isShown_1 s_53 fk_X7_30 rfl r_53_1 rfl ?_
  refine wm_getI dX7_isShown_4 (sM_0 (by unfold MA; omega)) fk_X7_96 rfl rfl ?_
  refine wp_aload_n dX7_isShown_7 rfl rfl ?_
  refine wm_getI dX7_isShown_8 (sS_0 hsf) fk_X7_99 rfl rfl ?_
  refine wm_icmp_ge 16 dX7_isShown_11 rfl rfl h (fun h => ?_) (fun h => ?_)
  · refine wp_iconst (0 : Int32) dX7_isShown_16 ic_0 rfl ?_
    refine wp_istore_n dX7_isShown_17 (by decide) rfl rfl rfl ?_
    have hB := wh_ok (A := A_X7_isShown_18 g sf Q) (B := pI Q) (fun s t h hP => k_X7_isShown_L18 hsf h hP) h hP
    exact wm_mask [true, true, true] rfl (hB)
  · refine wp_iconst (0 : Int32) dX7_isShown_14 ic_0 rfl ?_
    exact wm_zret dX7_isShown_15 rfl ⟨rfl, rfl⟩ h hP
theorem o_X7_isShown {g : Gx} {sf : Nat} (hsf : SA sf)  {m : Mem} {t : Int32 × Mem} (h : f_X7_isShown sf m = some t) : MxM g 1 mi_X7_isShown [.ref 53, .ref sf] m (qI t) := mx_of pn_X7 (Nat.le_of_ble_eq_true rfl) (k_X7_isShown_E hsf h ⟨rfl, rfl, rfl, rfl, rfl⟩)
abbrev A_X7_rulesOf_11 (g : Gx) (sf : Nat) (Q : Qy) (s : Int32 × Int32 × Mem) : Prop := WpM g 6 mi_X7_rulesOf 11 [some (.ref 53), some (.ref sf), some (.int s.1), some (.int s.2.1)] [] s.2.2 (zM g mi_X7_rulesOf Q)
abbrev P_X7_rulesOf_11 (g : Gx) (sf : Nat) (Q : Qy) : ((Int32 × Int32 × Mem) ⊕ (Int32 × Mem)) → Prop := pS (A_X7_rulesOf_11 g sf Q) (pI Q)
noncomputable def f_X7_rulesOf_L11 (sf : Nat) (s : Int32 × Int32 × Mem) : Option ((Int32 × Int32 × Mem) ⊕ (Int32 × Mem)) := if (6 : Int32) ≤ s.2.1 then up (some (s.1, s.2.2)) else ck (2 : Int32) 3 ((f_X3_hold 57 54 s.2.1 (gI s.2.2 11 (ix (2 : Int32))) (-1 : Int32) s.2.2).bind (fun q2 => (f_X7_isShown sf q2).bind (fun q3 => if q3.1 = 0 then bnd (s.1 ||| (0 : Int32)) (fun y4 => some (Sum.inl (y4, (s.2.1 + (1 : Int32)), q3.2))) else bnd (s.1 ||| ((1 : Int32) <<< (s.2.1 &&& 31))) (fun y5 => some (Sum.inl (y5, (s.2.1 + (1 : Int32)), q3.2))))))
theorem k_X7_rulesOf_L11 {g : Gx} {sf : Nat} (hsf : SA sf) {Q : Qy} {s : Int32 × Int32 × Mem} {t : (Int32 × Int32 × Mem) ⊕ (Int32 × Mem)} (h : f_X7_rulesOf_L11 sf s = some t) (hP : P_X7_rulesOf_11 g sf Q t) : A_X7_rulesOf_11 g sf Q s := by
  refine wp_iload_n dX7_rulesOf_11 rfl rfl ?_
  refine wp_bipush (6 : Int32) dX7_rulesOf_12 ib_6 rfl ?_
  refine wm_icmp_ge 63 dX7_rulesOf_14 rfl rfl h (fun h => ?_) (fun h => ?_)
  · refine wm_up h hP (fun r h hP => ?_)
    refine wp_iload_n dX7_rulesOf_63 rfl rfl ?_
    exact wm_iret dX7_rulesOf_64 rfl ⟨rfl, rfl⟩ h hP
  · refine wp_aload_n dX7_rulesOf_17 rfl rfl ?_
    refine wm_getR dX7_rulesOf_18 s_53 fk_X7_30 rfl r_53_1 rfl ?_
    refine wp_aload_n dX7_rulesOf_21 rfl rfl ?_
    refine wm_getR dX7_rulesOf_22 s_53 fk_X7_9 rfl r_53_2 rfl ?_
    refine wp_iload_n dX7_rulesOf_25 rfl rfl ?_
    refine wp_aload_n dX7_rulesOf_26 rfl rfl ?_
    refine wm_getR dX7_rulesOf_27 s_53 fk_X7_21 rfl r_53_0 rfl ?_
    refine wm_getR dX7_rulesOf_30 s_1 fk_X7_59 rfl r_1_9 rfl ?_
    refine wp_iconst (2 : Int32) dX7_rulesOf_33 ic_2 rfl ?_
    refine wm_iald dX7_rulesOf_34 s_11 rfl h (fun h => ?_)
    refine wp_iconst (-1 : Int32) dX7_rulesOf_35 ic_m1 rfl ?_
    refine wm_callVN (As := [.ref 54, .int s.2.1, .int (gI s.2.2 11 (ix (2 : Int32))), .int (-1 : Int32)]) (rest := []) dX7_rulesOf_36 ok_X7_62 (by decide) rfl (sM_0 (by unfold MA; omega)) ⟨_, rfl⟩ (Nat.le_of_ble_eq_true rfl) ⟨rfl, rfl⟩ rfl (fun t h => o_X3_hold (by unfold MA; omega) s_54 h) h (fun q2 h => ?_)
    refine wp_iload_n dX7_rulesOf_39 rfl rfl ?_
    refine wp_aload_n dX7_rulesOf_40 rfl rfl ?_
    refine wp_aload_n dX7_rulesOf_41 rfl rfl ?_
    refine wm_callVI (As := [.ref sf]) (rest := [.int s.1]) dX7_rulesOf_42 ok_X7_92 (by decide) rfl s_53 ⟨_, rfl⟩ (Nat.le_of_ble_eq_true rfl) ⟨rfl, rfl⟩ rfl (fun t h => o_X7_isShown hsf h) h (fun q3 h => ?_)
    refine wm_if_eq 54 dX7_rulesOf_45 rfl rfl h (fun h => ?_) (fun h => ?_)
    · refine wp_iconst (0 : Int32) dX7_rulesOf_54 ic_0 rfl ?_
      refine wp_ior dX7_rulesOf_55 rfl ?_
      refine wm_nm h (fun y4 h => ?_)
      refine wp_istore_n dX7_rulesOf_56 (by decide) rfl rfl rfl ?_
      refine wp_inc dX7_rulesOf_57 rfl ii_1 (by decide) rfl rfl rfl ?_
      refine wp_goto 11 dX7_rulesOf_60 rfl ?_
      have hB := wm_back h hP
      exact wm_mask [true, true, true, true] rfl (hB)
    · refine wp_iconst (1 : Int32) dX7_rulesOf_48 ic_1 rfl ?_
      refine wp_iload_n dX7_rulesOf_49 rfl rfl ?_
      refine wp_ishl dX7_rulesOf_50 rfl ?_
      refine wp_goto 55 dX7_rulesOf_51 rfl ?_
      refine wp_ior dX7_rulesOf_55 rfl ?_
      refine wm_nm h (fun y5 h => ?_)
      refine wp_istore_n dX7_rulesOf_56 (by decide) rfl rfl rfl ?_
      refine wp_inc dX7_rulesOf_57 rfl ii_1 (by decide) rfl rfl rfl ?_
      refine wp_goto 11 dX7_rulesOf_60 rfl ?_
      have hB := wm_back h hP
      exact wm_mask [true, true, true, true] rfl (hB)
noncomputable def f_X7_rulesOf (sf : Nat)  (m : Mem) : Option (Int32 × Mem) := (f_X8_asTheyCame 54 m).bind (fun q1 => wh (f_X7_rulesOf_L11 sf) ((0 : Int32), (0 : Int32), q1))
theorem k_X7_rulesOf_E {g : Gx} {sf : Nat} (hsf : SA sf)  {Q : Qy} {m : Mem} {t : Int32 × Mem} (h : f_X7_rulesOf sf m = some t) (hP : pI Q t) : WpM g 6 mi_X7_rulesOf 0 [some (.ref 53), some (.ref sf), none, none] [] m (zM g mi_X7_rulesOf Q) := by
  refine wp_iconst (0 : Int32) dX7_rulesOf_0 ic_0 rfl ?_
  refine wp_istore_n dX7_rulesOf_1 (by decide) rfl rfl rfl ?_
  refine wp_aload_n dX7_rulesOf_2 rfl rfl ?_
  refine wm_getR dX7_rulesOf_3 s_53 fk_X7_9 rfl r_53_2 rfl ?_
  refine wm_callSNN (As := [.ref 54]) (rest := []) dX7_rulesOf_6 ok_X7_46 (by decide) rfl (Nat.le_of_ble_eq_true rfl) ⟨rfl, rfl⟩ rfl (fun t h => o_X8_asTheyCame s_54 h) h (fun q1 h => ?_)
  refine wp_iconst (0 : Int32) dX7_rulesOf_9 ic_0 rfl ?_
  refine wp_istore_n dX7_rulesOf_10 (by decide) rfl rfl rfl ?_
  have hB := wh_ok (A := A_X7_rulesOf_11 g sf Q) (B := pI Q) (fun s t h hP => k_X7_rulesOf_L11 hsf h hP) h hP
  exact wm_mask [true, true, true, true] rfl (hB)
theorem o_X7_rulesOf {g : Gx} {sf : Nat} (hsf : SA sf)  {m : Mem} {t : Int32 × Mem} (h : f_X7_rulesOf sf m = some t) : MxM g 6 mi_X7_rulesOf [.ref 53, .ref sf] m (qI t) := mx_of pn_X7 (Nat.le_of_ble_eq_true rfl) (k_X7_rulesOf_E hsf h ⟨rfl, rfl, rfl, rfl, rfl⟩)
noncomputable def f_X7_wishNow  (p1 : Int32) (p2 : Int32) (m : Mem) : Option (Int32 × Mem) := (f_X3_clear 57 m).bind (fun q1 => (f_X3_namesOf 57 p1 p2 q1).bind (fun q2 => (f_X2_value (57 + 8) q2).bind (fun q3 => some (q3.1, q3.2))))
theorem k_X7_wishNow_E {g : Gx}  {p1 : Int32} {p2 : Int32} {Q : Qy} {m : Mem} {t : Int32 × Mem} (h : f_X7_wishNow p1 p2 m = some t) (hP : pI Q t) : WpM g 3 mi_X7_wishNow 0 [some (.ref 53), some (.int p1), some (.int p2)] [] m (zM g mi_X7_wishNow Q) := by
  refine wp_aload_n dX7_wishNow_0 rfl rfl ?_
  refine wm_getR dX7_wishNow_1 s_53 fk_X7_30 rfl r_53_1 rfl ?_
  refine wm_callVN (As := []) (rest := []) dX7_wishNow_4 ok_X7_111 (by decide) rfl (sM_0 (by unfold MA; omega)) ⟨_, rfl⟩ (Nat.le_of_ble_eq_true rfl) ⟨rfl, rfl⟩ rfl (fun t h => o_X3_clear (by unfold MA; omega) h) h (fun q1 h => ?_)
  refine wp_aload_n dX7_wishNow_7 rfl rfl ?_
  refine wm_getR dX7_wishNow_8 s_53 fk_X7_21 rfl r_53_0 rfl ?_
  refine wm_getR dX7_wishNow_11 s_1 fk_X7_114 rfl r_1_12 rfl ?_
  refine wp_aload_n dX7_wishNow_14 rfl rfl ?_
  refine wm_getR dX7_wishNow_15 s_53 fk_X7_30 rfl r_53_1 rfl ?_
  refine wp_iload_n dX7_wishNow_18 rfl rfl ?_
  refine wp_iload_n dX7_wishNow_19 rfl rfl ?_
  refine wm_callVK (As := [.int p1, .int p2]) (rest := [.ref 14]) dX7_wishNow_20 ok_X7_118 (by decide) rfl (sM_0 (by unfold MA; omega)) ⟨_, rfl⟩ (Nat.le_of_ble_eq_true rfl) ⟨rfl, rfl⟩ rfl (fun t h => o_X3_namesOf (by unfold MA; omega) h) h (fun q2 h => ?_)
  refine wm_callVI (As := [.ref (57 + 8)]) (rest := []) dX7_wishNow_23 ok_X7_122 (by decide) rfl s_14 ⟨_, rfl⟩ (Nat.le_of_ble_eq_true rfl) ⟨rfl, rfl⟩ rfl (fun t h => o_X2_value (sM_8 (by unfold MA; omega)) h) h (fun q3 h => ?_)
  exact wm_iret dX7_wishNow_26 rfl ⟨rfl, rfl⟩ h hP
theorem o_X7_wishNow {g : Gx}  {p1 : Int32} {p2 : Int32} {m : Mem} {t : Int32 × Mem} (h : f_X7_wishNow p1 p2 m = some t) : MxM g 3 mi_X7_wishNow [.ref 53, .int p1, .int p2] m (qI t) := mx_of pn_X7 (Nat.le_of_ble_eq_true rfl) (k_X7_wishNow_E h ⟨rfl, rfl, rfl, rfl, rfl⟩)
noncomputable def f_X8_act  (p1 : Int32) (p2 : Int32) (p3 : Int32) (m : Mem) : Option (Int32 × Mem) := bnd (sI m 69 2 (0 : Int32)) (fun m1 => if p1 < 0 then some ((0 : Int32), m1) else if (gI m1 69 1) ≤ p1 then some ((0 : Int32), m1) else if p2 < 0 then some ((0 : Int32), m1) else if p2 < (4 : Int32) then (f_X0_begin p1 p2 p3 m1).bind (fun q2 => some (q2.1, q2.2)) else some ((0 : Int32), m1))
theorem k_X8_act_E {g : Gx}  {p1 : Int32} {p2 : Int32} {p3 : Int32} {Q : Qy} {m : Mem} {t : Int32 × Mem} (h : f_X8_act p1 p2 p3 m = some t) (hP : pI Q t) : WpM g 22 mi_X8_act 0 [some (.ref 0), some (.int p1), some (.int p2), some (.int p3)] [] m (zM g mi_X8_act Q) := by
  refine wp_aload_n dX8_act_0 rfl rfl ?_
  refine wm_getR dX8_act_1 s_0 fk_X8_42 rfl r_0_4 rfl ?_
  refine wp_iconst (0 : Int32) dX8_act_4 ic_0 rfl ?_
  refine wm_putI dX8_act_5 s_69 fk_X8_241 rfl rfl h (fun m1 h => ?_)
  refine wp_iload_n dX8_act_8 rfl rfl ?_
  refine wm_if_lt 32 dX8_act_9 rfl rfl h (fun h => ?_) (fun h => ?_)
  · refine wp_iconst (0 : Int32) dX8_act_32 ic_0 rfl ?_
    exact wm_iret dX8_act_33 rfl ⟨rfl, rfl⟩ h hP
  · refine wp_iload_n dX8_act_12 rfl rfl ?_
    refine wp_aload_n dX8_act_13 rfl rfl ?_
    refine wm_getR dX8_act_14 s_0 fk_X8_42 rfl r_0_4 rfl ?_
    refine wm_getI dX8_act_17 s_69 fk_X8_235 rfl rfl ?_
    refine wm_icmp_ge 32 dX8_act_20 rfl rfl h (fun h => ?_) (fun h => ?_)
    · refine wp_iconst (0 : Int32) dX8_act_32 ic_0 rfl ?_
      exact wm_iret dX8_act_33 rfl ⟨rfl, rfl⟩ h hP
    · refine wp_iload_n dX8_act_23 rfl rfl ?_
      refine wm_if_lt 32 dX8_act_24 rfl rfl h (fun h => ?_) (fun h => ?_)
      · refine wp_iconst (0 : Int32) dX8_act_32 ic_0 rfl ?_
        exact wm_iret dX8_act_33 rfl ⟨rfl, rfl⟩ h hP
      · refine wp_iload_n dX8_act_27 rfl rfl ?_
        refine wp_iconst (4 : Int32) dX8_act_28 ic_4 rfl ?_
        refine wm_icmp_lt 34 dX8_act_29 rfl rfl h (fun h => ?_) (fun h => ?_)
        · refine wp_aload_n dX8_act_34 rfl rfl ?_
          refine wm_getR dX8_act_35 s_0 fk_X8_42 rfl r_0_4 rfl ?_
          refine wp_iload_n dX8_act_38 rfl rfl ?_
          refine wp_iload_n dX8_act_39 rfl rfl ?_
          refine wp_iload_n dX8_act_40 rfl rfl ?_
          refine wm_callVI (As := [.int p1, .int p2, .int p3]) (rest := []) dX8_act_41 ok_X8_244 (by decide) rfl s_69 ⟨_, rfl⟩ (Nat.le_of_ble_eq_true rfl) ⟨rfl, rfl⟩ rfl (fun t h => o_X0_begin h) h (fun q2 h => ?_)
          exact wm_iret dX8_act_44 rfl ⟨rfl, rfl⟩ h hP
        · refine wp_iconst (0 : Int32) dX8_act_32 ic_0 rfl ?_
          exact wm_iret dX8_act_33 rfl ⟨rfl, rfl⟩ h hP
theorem o_X8_act {g : Gx}  {p1 : Int32} {p2 : Int32} {p3 : Int32} {m : Mem} {t : Int32 × Mem} (h : f_X8_act p1 p2 p3 m = some t) : MxM g 22 mi_X8_act [.ref 0, .int p1, .int p2, .int p3] m (qI t) := mx_of pn_X8 (Nat.le_of_ble_eq_true rfl) (k_X8_act_E h ⟨rfl, rfl, rfl, rfl, rfl⟩)
noncomputable def f_X8_body  (p1 : Int32) (m : Mem) : Option (Int32 × Mem) := if p1 < 0 then some ((-1 : Int32), m) else if p1 < (8 : Int32) then if (gI m 69 1) < (50 : Int32) then (f_X0_addBody p1 m).bind (fun q1 => some (q1.1, q1.2)) else some ((-3 : Int32), m) else some ((-1 : Int32), m)
theorem k_X8_body_E {g : Gx}  {p1 : Int32} {Q : Qy} {m : Mem} {t : Int32 × Mem} (h : f_X8_body p1 m = some t) (hP : pI Q t) : WpM g 2 mi_X8_body 0 [some (.ref 0), some (.int p1)] [] m (zM g mi_X8_body Q) := by
  refine wp_iload_n dX8_body_0 rfl rfl ?_
  refine wm_if_lt 10 dX8_body_1 rfl rfl h (fun h => ?_) (fun h => ?_)
  · refine wp_iconst (-1 : Int32) dX8_body_10 ic_m1 rfl ?_
    exact wm_iret dX8_body_11 rfl ⟨rfl, rfl⟩ h hP
  · refine wp_iload_n dX8_body_4 rfl rfl ?_
    refine wp_bipush (8 : Int32) dX8_body_5 ib_8 rfl ?_
    refine wm_icmp_lt 12 dX8_body_7 rfl rfl h (fun h => ?_) (fun h => ?_)
    · refine wp_aload_n dX8_body_12 rfl rfl ?_
      refine wm_getR dX8_body_13 s_0 fk_X8_42 rfl r_0_4 rfl ?_
      refine wm_getI dX8_body_16 s_69 fk_X8_235 rfl rfl ?_
      refine wp_bipush (50 : Int32) dX8_body_19 ib_50 rfl ?_
      refine wm_icmp_lt 29 dX8_body_21 rfl rfl h (fun h => ?_) (fun h => ?_)
      · refine wp_aload_n dX8_body_29 rfl rfl ?_
        refine wm_getR dX8_body_30 s_0 fk_X8_42 rfl r_0_4 rfl ?_
        refine wp_iload_n dX8_body_33 rfl rfl ?_
        refine wm_callVI (As := [.int p1]) (rest := []) dX8_body_34 ok_X8_238 (by decide) rfl s_69 ⟨_, rfl⟩ (Nat.le_of_ble_eq_true rfl) ⟨rfl, rfl⟩ rfl (fun t h => o_X0_addBody h) h (fun q1 h => ?_)
        exact wm_iret dX8_body_37 rfl ⟨rfl, rfl⟩ h hP
      · refine wp_bipush (-3 : Int32) dX8_body_24 ib_m3 rfl ?_
        refine wp_goto 37 dX8_body_26 rfl ?_
        exact wm_iret dX8_body_37 rfl ⟨rfl, rfl⟩ h hP
    · refine wp_iconst (-1 : Int32) dX8_body_10 ic_m1 rfl ?_
      exact wm_iret dX8_body_11 rfl ⟨rfl, rfl⟩ h hP
theorem o_X8_body {g : Gx}  {p1 : Int32} {m : Mem} {t : Int32 × Mem} (h : f_X8_body p1 m = some t) : MxM g 2 mi_X8_body [.ref 0, .int p1] m (qI t) := mx_of pn_X8 (Nat.le_of_ble_eq_true rfl) (k_X8_body_E h ⟨rfl, rfl, rfl, rfl, rfl⟩)
noncomputable def f_X8_card  (p1 : Int32) (p2 : Int32) (p3 : Int32) (m : Mem) : Option (Int32 × Mem) := (f_X6_isCard p1 p2 p3 m).bind (fun q1 => if ¬ q1.1 = 0 then if (gI q1.2 1 15) < (20 : Int32) then (f_X6_addCard p1 p2 p3 q1.2).bind (fun q2 => some (q2.1, q2.2)) else some ((-3 : Int32), q1.2) else some ((-1 : Int32), q1.2))
theorem k_X8_card_E {g : Gx}  {p1 : Int32} {p2 : Int32} {p3 : Int32} {Q : Qy} {m : Mem} {t : Int32 × Mem} (h : f_X8_card p1 p2 p3 m = some t) (hP : pI Q t) : WpM g 2 mi_X8_card 0 [some (.ref 0), some (.int p1), some (.int p2), some (.int p3)] [] m (zM g mi_X8_card Q) := by
  refine wp_aload_n dX8_card_0 rfl rfl ?_
  refine wm_getR dX8_card_1 s_0 fk_X8_10 rfl r_0_0 rfl ?_
  refine wp_iload_n dX8_card_4 rfl rfl ?_
  refine wp_iload_n dX8_card_5 rfl rfl ?_
  refine wp_iload_n dX8_card_6 rfl rfl ?_
  refine wm_callVI (As := [.int p1, .int p2, .int p3]) (rest := []) dX8_card_7 ok_X8_67 (by decide) rfl s_1 ⟨_, rfl⟩ (Nat.le_of_ble_eq_true rfl) ⟨rfl, rfl⟩ rfl (fun t h => o_X6_isCard h) h (fun q1 h => ?_)
  refine wm_if_ne 15 dX8_card_10 rfl rfl h (fun h => ?_) (fun h => ?_)
  · refine wp_aload_n dX8_card_15 rfl rfl ?_
    refine wm_getR dX8_card_16 s_0 fk_X8_10 rfl r_0_0 rfl ?_
    refine wm_getI dX8_card_19 s_1 fk_X8_71 rfl rfl ?_
    refine wp_bipush (20 : Int32) dX8_card_22 ib_20 rfl ?_
    refine wm_icmp_lt 32 dX8_card_24 rfl rfl h (fun h => ?_) (fun h => ?_)
    · refine wp_aload_n dX8_card_32 rfl rfl ?_
      refine wm_getR dX8_card_33 s_0 fk_X8_10 rfl r_0_0 rfl ?_
      refine wp_iload_n dX8_card_36 rfl rfl ?_
      refine wp_iload_n dX8_card_37 rfl rfl ?_
      refine wp_iload_n dX8_card_38 rfl rfl ?_
      refine wm_callVI (As := [.int p1, .int p2, .int p3]) (rest := []) dX8_card_39 ok_X8_74 (by decide) rfl s_1 ⟨_, rfl⟩ (Nat.le_of_ble_eq_true rfl) ⟨rfl, rfl⟩ rfl (fun t h => o_X6_addCard h) h (fun q2 h => ?_)
      exact wm_iret dX8_card_42 rfl ⟨rfl, rfl⟩ h hP
    · refine wp_bipush (-3 : Int32) dX8_card_27 ib_m3 rfl ?_
      refine wp_goto 42 dX8_card_29 rfl ?_
      exact wm_iret dX8_card_42 rfl ⟨rfl, rfl⟩ h hP
  · refine wp_iconst (-1 : Int32) dX8_card_13 ic_m1 rfl ?_
    exact wm_iret dX8_card_14 rfl ⟨rfl, rfl⟩ h hP
theorem o_X8_card {g : Gx}  {p1 : Int32} {p2 : Int32} {p3 : Int32} {m : Mem} {t : Int32 × Mem} (h : f_X8_card p1 p2 p3 m = some t) : MxM g 2 mi_X8_card [.ref 0, .int p1, .int p2, .int p3] m (qI t) := mx_of pn_X8 (Nat.le_of_ble_eq_true rfl) (k_X8_card_E h ⟨rfl, rfl, rfl, rfl, rfl⟩)
noncomputable def f_X8_isNoShelf  (p1 : Int32) (m : Mem) : Option (Int32 × Mem) := if p1 < 0 then bz (1 : Int32) (some ((1 : Int32), m)) else if p1 < (6 : Int32) then bz (0 : Int32) (some ((0 : Int32), m)) else bz (1 : Int32) (some ((1 : Int32), m))
theorem k_X8_isNoShelf_E {g : Gx}  {p1 : Int32} {Q : Qy} {m : Mem} {t : Int32 × Mem} (h : f_X8_isNoShelf p1 m = some t) (hP : pI Q t) : WpM g 1 mi_X8_isNoShelf 0 [some (.int p1)] [] m (zM g mi_X8_isNoShelf Q) := by
  refine wp_iload_n dX8_isNoShelf_0 rfl rfl ?_
  refine wm_if_lt 10 dX8_isNoShelf_1 rfl rfl h (fun h => ?_) (fun h => ?_)
  · refine wp_iconst (1 : Int32) dX8_isNoShelf_10 ic_1 rfl ?_
    refine wp_goto 15 dX8_isNoShelf_11 rfl ?_
    exact wm_zret dX8_isNoShelf_15 rfl ⟨rfl, rfl⟩ h hP
  · refine wp_iload_n dX8_isNoShelf_4 rfl rfl ?_
    refine wp_bipush (6 : Int32) dX8_isNoShelf_5 ib_6 rfl ?_
    refine wm_icmp_lt 14 dX8_isNoShelf_7 rfl rfl h (fun h => ?_) (fun h => ?_)
    · refine wp_iconst (0 : Int32) dX8_isNoShelf_14 ic_0 rfl ?_
      exact wm_zret dX8_isNoShelf_15 rfl ⟨rfl, rfl⟩ h hP
    · refine wp_iconst (1 : Int32) dX8_isNoShelf_10 ic_1 rfl ?_
      refine wp_goto 15 dX8_isNoShelf_11 rfl ?_
      exact wm_zret dX8_isNoShelf_15 rfl ⟨rfl, rfl⟩ h hP
theorem o_X8_isNoShelf {g : Gx}  {p1 : Int32} {m : Mem} {t : Int32 × Mem} (h : f_X8_isNoShelf p1 m = some t) : MxM g 1 mi_X8_isNoShelf [.int p1] m (qI t) := mx_of pn_X8 (Nat.le_of_ble_eq_true rfl) (k_X8_isNoShelf_E h ⟨rfl, rfl, rfl, rfl, rfl⟩)
noncomputable def f_X8_cards  (p1 : Int32) (p2 : Int32) (p3 : Int32) (m : Mem) : Option (Int32 × Mem) := (f_X8_isNoShelf p1 m).bind (fun q1 => if ¬ q1.1 = 0 then some ((-1 : Int32), q1.2) else if p3 < (1 : Int32) then some ((-1 : Int32), q1.2) else if p3 ≤ (20 : Int32) then ck p1 6 (bnd (73 + 2 * ix p1) (fun s2 => if ¬ (gI q1.2 s2 0) = (-2 : Int32) then if ¬ (gI q1.2 s2 0) = (1 : Int32) then some ((-12 : Int32), q1.2) else (f_X6_addCards s2 p2 p3 q1.2).bind (fun q3 => some (q3.1, q3.2)) else some ((0 : Int32), q1.2))) else some ((-1 : Int32), q1.2))
theorem k_X8_cards_E {g : Gx}  {p1 : Int32} {p2 : Int32} {p3 : Int32} {Q : Qy} {m : Mem} {t : Int32 × Mem} (h : f_X8_cards p1 p2 p3 m = some t) (hP : pI Q t) : WpM g 3 mi_X8_cards 0 [some (.ref 0), some (.int p1), some (.int p2), some (.int p3), none] [] m (zM g mi_X8_cards Q) := by
  refine wp_iload_n dX8_cards_0 rfl rfl ?_
  refine wm_callSI (As := [.int p1]) (rest := []) dX8_cards_1 ok_X8_78 (by decide) rfl (Nat.le_of_ble_eq_true rfl) ⟨rfl, rfl⟩ rfl (fun t h => o_X8_isNoShelf h) h (fun q1 h => ?_)
  refine wm_if_ne 18 dX8_cards_4 rfl rfl h (fun h => ?_) (fun h => ?_)
  · refine wp_iconst (-1 : Int32) dX8_cards_18 ic_m1 rfl ?_
    exact wm_iret dX8_cards_19 rfl ⟨rfl, rfl⟩ h hP
  · refine wp_iload_n dX8_cards_7 rfl rfl ?_
    refine wp_iconst (1 : Int32) dX8_cards_8 ic_1 rfl ?_
    refine wm_icmp_lt 18 dX8_cards_9 rfl rfl h (fun h => ?_) (fun h => ?_)
    · refine wp_iconst (-1 : Int32) dX8_cards_18 ic_m1 rfl ?_
      exact wm_iret dX8_cards_19 rfl ⟨rfl, rfl⟩ h hP
    · refine wp_iload_n dX8_cards_12 rfl rfl ?_
      refine wp_bipush (20 : Int32) dX8_cards_13 ib_20 rfl ?_
      refine wm_icmp_le 20 dX8_cards_15 rfl rfl h (fun h => ?_) (fun h => ?_)
      · refine wp_aload_n dX8_cards_20 rfl rfl ?_
        refine wm_getR dX8_cards_21 s_0 fk_X8_48 rfl r_0_5 rfl ?_
        refine wp_iload_n dX8_cards_24 rfl rfl ?_
        refine wm_shelf dX8_cards_25 rfl h (fun s2 hs2 h => ?_)
        refine wp_astore dX8_cards_26 (by decide) rfl rfl rfl ?_
        refine wp_aload dX8_cards_28 rfl rfl ?_
        refine wm_getI dX8_cards_30 (sS_0 hs2) fk_X8_82 rfl rfl ?_
        refine wp_bipush (-2 : Int32) dX8_cards_33 ib_m2 rfl ?_
        refine wm_icmp_ne 40 dX8_cards_35 rfl rfl h (fun h => ?_) (fun h => ?_)
        · refine wp_aload dX8_cards_40 rfl rfl ?_
          refine wm_getI dX8_cards_42 (sS_0 hs2) fk_X8_82 rfl rfl ?_
          refine wp_iconst (1 : Int32) dX8_cards_45 ic_1 rfl ?_
          refine wm_icmp_ne 63 dX8_cards_46 rfl rfl h (fun h => ?_) (fun h => ?_)
          · refine wp_bipush (-12 : Int32) dX8_cards_63 ib_m12 rfl ?_
            exact wm_iret dX8_cards_65 rfl ⟨rfl, rfl⟩ h hP
          · refine wp_aload_n dX8_cards_49 rfl rfl ?_
            refine wm_getR dX8_cards_50 s_0 fk_X8_10 rfl r_0_0 rfl ?_
            refine wp_aload dX8_cards_53 rfl rfl ?_
            refine wp_iload_n dX8_cards_55 rfl rfl ?_
            refine wp_iload_n dX8_cards_56 rfl rfl ?_
            refine wm_callVI (As := [.ref s2, .int p2, .int p3]) (rest := []) dX8_cards_57 ok_X8_85 (by decide) rfl s_1 ⟨_, rfl⟩ (Nat.le_of_ble_eq_true rfl) ⟨rfl, rfl⟩ rfl (fun t h => o_X6_addCards hs2 h) h (fun q3 h => ?_)
            refine wp_goto 65 dX8_cards_60 rfl ?_
            exact wm_iret dX8_cards_65 rfl ⟨rfl, rfl⟩ h hP
        · refine wp_iconst (0 : Int32) dX8_cards_38 ic_0 rfl ?_
          exact wm_iret dX8_cards_39 rfl ⟨rfl, rfl⟩ h hP
      · refine wp_iconst (-1 : Int32) dX8_cards_18 ic_m1 rfl ?_
        exact wm_iret dX8_cards_19 rfl ⟨rfl, rfl⟩ h hP
theorem o_X8_cards {g : Gx}  {p1 : Int32} {p2 : Int32} {p3 : Int32} {m : Mem} {t : Int32 × Mem} (h : f_X8_cards p1 p2 p3 m = some t) : MxM g 3 mi_X8_cards [.ref 0, .int p1, .int p2, .int p3] m (qI t) := mx_of pn_X8 (Nat.le_of_ble_eq_true rfl) (k_X8_cards_E h ⟨rfl, rfl, rfl, rfl, rfl⟩)
noncomputable def f_X8_count  (p1 : Int32) (m : Mem) : Option (Int32 × Mem) := sw p1 [((0 : Int32), some ((gI m 1 13), m)), ((1 : Int32), some ((gI m 1 14), m)), ((2 : Int32), some ((gI m 1 15), m)), ((3 : Int32), some ((gI m 14 2), m)), ((4 : Int32), some ((gI m 19 4), m)), ((5 : Int32), some ((gI m 69 1), m)), ((6 : Int32), some ((gI m 69 2), m))] (some ((-1 : Int32), m))
theorem k_X8_count_E {g : Gx}  {p1 : Int32} {Q : Qy} {m : Mem} {t : Int32 × Mem} (h : f_X8_count p1 m = some t) (hP : pI Q t) : WpM g 1 mi_X8_count 0 [some (.ref 0), some (.int p1)] [] m (zM g mi_X8_count Q) := by
  refine wp_iload_n dX8_count_0 rfl rfl ?_
  refine wm_tsw [((0 : Int32), 44), ((1 : Int32), 52), ((2 : Int32), 60), ((3 : Int32), 68), ((4 : Int32), 79), ((5 : Int32), 87), ((6 : Int32), 95)] 103 dX8_count_1 rfl (by decide) (by decide +kernel) (by decide +kernel) (by decide +kernel) h rfl ⟨fun h => ?_, fun h => ?_, fun h => ?_, fun h => ?_, fun h => ?_, fun h => ?_, fun h => ?_, trivial⟩ (fun h => ?_)
  · refine wp_aload_n dX8_count_44 rfl rfl ?_
    refine wm_getR dX8_count_45 s_0 fk_X8_10 rfl r_0_0 rfl ?_
    refine wm_getI dX8_count_48 s_1 fk_X8_53 rfl rfl ?_
    exact wm_iret dX8_count_51 rfl ⟨rfl, rfl⟩ h hP
  · refine wp_aload_n dX8_count_52 rfl rfl ?_
    refine wm_getR dX8_count_53 s_0 fk_X8_10 rfl r_0_0 rfl ?_
    refine wm_getI dX8_count_56 s_1 fk_X8_61 rfl rfl ?_
    exact wm_iret dX8_count_59 rfl ⟨rfl, rfl⟩ h hP
  · refine wp_aload_n dX8_count_60 rfl rfl ?_
    refine wm_getR dX8_count_61 s_0 fk_X8_10 rfl r_0_0 rfl ?_
    refine wm_getI dX8_count_64 s_1 fk_X8_71 rfl rfl ?_
    exact wm_iret dX8_count_67 rfl ⟨rfl, rfl⟩ h hP
  · refine wp_aload_n dX8_count_68 rfl rfl ?_
    refine wm_getR dX8_count_69 s_0 fk_X8_10 rfl r_0_0 rfl ?_
    refine wm_getR dX8_count_72 s_1 fk_X8_89 rfl r_1_12 rfl ?_
    refine wm_getI dX8_count_75 s_14 fk_X8_292 rfl rfl ?_
    exact wm_iret dX8_count_78 rfl ⟨rfl, rfl⟩ h hP
  · refine wp_aload_n dX8_count_79 rfl rfl ?_
    refine wm_getR dX8_count_80 s_0 fk_X8_19 rfl r_0_1 rfl ?_
    refine wm_getI dX8_count_83 s_19 fk_X8_214 rfl rfl ?_
    exact wm_iret dX8_count_86 rfl ⟨rfl, rfl⟩ h hP
  · refine wp_aload_n dX8_count_87 rfl rfl ?_
    refine wm_getR dX8_count_88 s_0 fk_X8_42 rfl r_0_4 rfl ?_
    refine wm_getI dX8_count_91 s_69 fk_X8_235 rfl rfl ?_
    exact wm_iret dX8_count_94 rfl ⟨rfl, rfl⟩ h hP
  · refine wp_aload_n dX8_count_95 rfl rfl ?_
    refine wm_getR dX8_count_96 s_0 fk_X8_42 rfl r_0_4 rfl ?_
    refine wm_getI dX8_count_99 s_69 fk_X8_241 rfl rfl ?_
    exact wm_iret dX8_count_102 rfl ⟨rfl, rfl⟩ h hP
  · refine wp_iconst (-1 : Int32) dX8_count_103 ic_m1 rfl ?_
    exact wm_iret dX8_count_104 rfl ⟨rfl, rfl⟩ h hP
theorem o_X8_count {g : Gx}  {p1 : Int32} {m : Mem} {t : Int32 × Mem} (h : f_X8_count p1 m = some t) : MxM g 1 mi_X8_count [.ref 0, .int p1] m (qI t) := mx_of pn_X8 (Nat.le_of_ble_eq_true rfl) (k_X8_count_E h ⟨rfl, rfl, rfl, rfl, rfl⟩)
noncomputable def f_X8_did  (p1 : Int32) (p2 : Int32) (m : Mem) : Option (Int32 × Mem) := if p2 < 0 then some ((-1 : Int32), m) else if p2 ≤ (3 : Int32) then if ¬ (gI m 24 3) = 0 then (f_X4_hadPerson p1 m).bind (fun q1 => if q1.1 = 0 then some ((-1 : Int32), q1.2) else (f_X4_ofPerson p1 p2 q1.2).bind (fun q2 => some (q2.1, q2.2))) else some ((-5 : Int32), m) else some ((-1 : Int32), m)
theorem k_X8_did_E {g : Gx}  {p1 : Int32} {p2 : Int32} {Q : Qy} {m : Mem} {t : Int32 × Mem} (h : f_X8_did p1 p2 m = some t) (hP : pI Q t) : WpM g 2 mi_X8_did 0 [some (.ref 0), some (.int p1), some (.int p2)] [] m (zM g mi_X8_did Q) := by
  refine wp_iload_n dX8_did_0 rfl rfl ?_
  refine wm_if_lt 9 dX8_did_1 rfl rfl h (fun h => ?_) (fun h => ?_)
  · refine wp_iconst (-1 : Int32) dX8_did_9 ic_m1 rfl ?_
    exact wm_iret dX8_did_10 rfl ⟨rfl, rfl⟩ h hP
  · refine wp_iload_n dX8_did_4 rfl rfl ?_
    refine wp_iconst (3 : Int32) dX8_did_5 ic_3 rfl ?_
    refine wm_icmp_le 11 dX8_did_6 rfl rfl h (fun h => ?_) (fun h => ?_)
    · refine wp_aload_n dX8_did_11 rfl rfl ?_
      refine wm_getR dX8_did_12 s_0 fk_X8_28 rfl r_0_2 rfl ?_
      refine wm_getI dX8_did_15 s_24 fk_X8_160 rfl rfl ?_
      refine wm_if_ne 24 dX8_did_18 rfl rfl h (fun h => ?_) (fun h => ?_)
      · refine wp_aload_n dX8_did_24 rfl rfl ?_
        refine wm_getR dX8_did_25 s_0 fk_X8_28 rfl r_0_2 rfl ?_
        refine wp_iload_n dX8_did_28 rfl rfl ?_
        refine wm_callVI (As := [.int p1]) (rest := []) dX8_did_29 ok_X8_188 (by decide) rfl s_24 ⟨_, rfl⟩ (Nat.le_of_ble_eq_true rfl) ⟨rfl, rfl⟩ rfl (fun t h => o_X4_hadPerson h) h (fun q1 h => ?_)
        refine wm_if_eq 47 dX8_did_32 rfl rfl h (fun h => ?_) (fun h => ?_)
        · refine wp_iconst (-1 : Int32) dX8_did_47 ic_m1 rfl ?_
          exact wm_iret dX8_did_48 rfl ⟨rfl, rfl⟩ h hP
        · refine wp_aload_n dX8_did_35 rfl rfl ?_
          refine wm_getR dX8_did_36 s_0 fk_X8_28 rfl r_0_2 rfl ?_
          refine wp_iload_n dX8_did_39 rfl rfl ?_
          refine wp_iload_n dX8_did_40 rfl rfl ?_
          refine wm_callVI (As := [.int p1, .int p2]) (rest := []) dX8_did_41 ok_X8_191 (by decide) rfl s_24 ⟨_, rfl⟩ (Nat.le_of_ble_eq_true rfl) ⟨rfl, rfl⟩ rfl (fun t h => o_X4_ofPerson h) h (fun q2 h => ?_)
          refine wp_goto 48 dX8_did_44 rfl ?_
          exact wm_iret dX8_did_48 rfl ⟨rfl, rfl⟩ h hP
      · refine wp_bipush (-5 : Int32) dX8_did_21 ib_m5 rfl ?_
        exact wm_iret dX8_did_23 rfl ⟨rfl, rfl⟩ h hP
    · refine wp_iconst (-1 : Int32) dX8_did_9 ic_m1 rfl ?_
      exact wm_iret dX8_did_10 rfl ⟨rfl, rfl⟩ h hP
theorem o_X8_did {g : Gx}  {p1 : Int32} {p2 : Int32} {m : Mem} {t : Int32 × Mem} (h : f_X8_did p1 p2 m = some t) : MxM g 2 mi_X8_did [.ref 0, .int p1, .int p2] m (qI t) := mx_of pn_X8 (Nat.le_of_ble_eq_true rfl) (k_X8_did_E h ⟨rfl, rfl, rfl, rfl, rfl⟩)
noncomputable def f_X8_element  (p1 : Int32) (p2 : Int32) (m : Mem) : Option (Int64 × Mem) := (f_X8_isNoShelf p1 m).bind (fun q1 => if ¬ q1.1 = 0 then some ((-9223372036854775808 : Int64), q1.2) else ck p1 6 (bnd (73 + 2 * ix p1) (fun s2 => (f_X5_refusalAt s2 p2 q1.2).bind (fun q3 => if q3.1 = 0 then ck p1 6 (bnd (73 + 2 * ix p1) (fun s4 => ck p2 60 (some ((gJ q3.2 (s4 + 1) (ix p2)), q3.2)))) else some ((-9223372036854775808 : Int64), q3.2)))))
theorem k_X8_element_E {g : Gx}  {p1 : Int32} {p2 : Int32} {Q : Qy} {m : Mem} {t : Int64 × Mem} (h : f_X8_element p1 p2 m = some t) (hP : pL Q t) : WpM g 2 mi_X8_element 0 [some (.ref 0), some (.int p1), some (.int p2)] [] m (zM g mi_X8_element Q) := by
  refine wp_iload_n dX8_element_0 rfl rfl ?_
  refine wm_callSI (As := [.int p1]) (rest := []) dX8_element_1 ok_X8_78 (by decide) rfl (Nat.le_of_ble_eq_true rfl) ⟨rfl, rfl⟩ rfl (fun t h => o_X8_isNoShelf h) h (fun q1 h => ?_)
  refine wm_if_ne 20 dX8_element_4 rfl rfl h (fun h => ?_) (fun h => ?_)
  · refine wp_ldc2 dX8_element_20 q1126 rfl ?_
    exact wm_lret dX8_element_23 rfl ⟨rfl, rfl⟩ h hP
  · refine wp_aload_n dX8_element_7 rfl rfl ?_
    refine wm_getR dX8_element_8 s_0 fk_X8_48 rfl r_0_5 rfl ?_
    refine wp_iload_n dX8_element_11 rfl rfl ?_
    refine wm_shelf dX8_element_12 rfl h (fun s2 hs2 h => ?_)
    refine wp_iload_n dX8_element_13 rfl rfl ?_
    refine wm_callVI (As := [.int p2]) (rest := []) dX8_element_14 ok_X8_258 (by decide) rfl (sS_0 hs2) ⟨_, rfl⟩ (Nat.le_of_ble_eq_true rfl) ⟨rfl, rfl⟩ rfl (fun t h => o_X5_refusalAt hs2 h) h (fun q3 h => ?_)
    refine wm_if_eq 24 dX8_element_17 rfl rfl h (fun h => ?_) (fun h => ?_)
    · refine wp_aload_n dX8_element_24 rfl rfl ?_
      refine wm_getR dX8_element_25 s_0 fk_X8_48 rfl r_0_5 rfl ?_
      refine wp_iload_n dX8_element_28 rfl rfl ?_
      refine wm_shelf dX8_element_29 rfl h (fun s4 hs4 h => ?_)
      refine wm_getR dX8_element_30 (sS_0 hs4) fk_X8_269 rfl (rS_3 hs4) rfl ?_
      refine wp_iload_n dX8_element_33 rfl rfl ?_
      refine wm_lald dX8_element_34 (sS_1 hs4) rfl h (fun h => ?_)
      exact wm_lret dX8_element_35 rfl ⟨rfl, rfl⟩ h hP
    · refine wp_ldc2 dX8_element_20 q1126 rfl ?_
      exact wm_lret dX8_element_23 rfl ⟨rfl, rfl⟩ h hP
theorem o_X8_element {g : Gx}  {p1 : Int32} {p2 : Int32} {m : Mem} {t : Int64 × Mem} (h : f_X8_element p1 p2 m = some t) : MxM g 2 mi_X8_element [.ref 0, .int p1, .int p2] m (qL t) := mx_of pn_X8 (Nat.le_of_ble_eq_true rfl) (k_X8_element_E h ⟨rfl, rfl, rfl, rfl, rfl⟩)
