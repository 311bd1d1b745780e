abbrev A_X9_shift_113 (g : Gx)  (Q : Qy) (s : Int32 × Int32 × Int32 × Int32 × Int32 × Int32 × Mem) : Prop := WpM g 3 mi_X9_shift 113 [some (.ref 85), some (.int s.1), some (.int s.2.1), some (.int s.2.2.1), some (.int s.2.2.2.1), some (.int s.2.2.2.2.1), some (.int s.2.2.2.2.2.1)] [] s.2.2.2.2.2.2 (zM g mi_X9_shift Q)
abbrev P_X9_shift_113 (g : Gx)  (Q : Qy) : ((Int32 × Int32 × Int32 × Int32 × Int32 × Int32 × Mem) ⊕ (Int32 × Mem)) → Prop := pS (A_X9_shift_113 g Q) (pI Q)
abbrev A_X9_shift_150 (g : Gx)  (Q : Qy) (s : Int32 × Int32 × Int32 × Int32 × Mem) : Prop := WpM g 3 mi_X9_shift 150 [some (.ref 85), none, none, some (.int s.1), some (.int s.2.1), some (.int s.2.2.1), some (.int s.2.2.2.1)] [] s.2.2.2.2 (zM g mi_X9_shift Q)
abbrev P_X9_shift_150 (g : Gx)  (Q : Qy) : ((Int32 × Int32 × Int32 × Int32 × Mem) ⊕ (Int32 × Mem)) → Prop := pS (A_X9_shift_150 g Q) (pI Q)
noncomputable def f_X9_shift_L150  (s : Int32 × Int32 × Int32 × Int32 × Mem) : Option ((Int32 × Int32 × Int32 × Int32 × Mem) ⊕ (Int32 × Mem)) := if s.2.2.1 ≤ s.2.2.2.1 then up (some (s.2.2.1, s.2.2.2.2)) else ck s.2.2.2.1 60 (ck ((((60 : Int32) * s.1) + s.2.1) + s.2.2.2.1) 360 (bnd (sJ s.2.2.2.2 128 (ix ((((60 : Int32) * s.1) + s.2.1) + s.2.2.2.1)) (gJ s.2.2.2.2 129 (ix s.2.2.2.1))) (fun m3 => bnd (s.2.2.2.1 + (1 : Int32)) (fun y4 => some (Sum.inl (s.1, s.2.1, s.2.2.1, y4, m3))))))
theorem k_X9_shift_L150 {g : Gx}  {Q : Qy} {s : Int32 × Int32 × Int32 × Int32 × Mem} {t : (Int32 × Int32 × Int32 × Int32 × Mem) ⊕ (Int32 × Mem)} (h : f_X9_shift_L150 s = some t) (hP : P_X9_shift_150 g Q t) : A_X9_shift_150 g Q s := by
  refine wp_iload dX9_shift_150 rfl rfl ?_
  refine wp_iload dX9_shift_152 rfl rfl ?_
  refine wm_icmp_ge 185 dX9_shift_154 rfl rfl h (fun h => ?_) (fun h => ?_)
  · refine wm_up h hP (fun r h hP => ?_)
    refine wp_iload dX9_shift_185 rfl rfl ?_
    exact wm_iret dX9_shift_187 rfl ⟨rfl, rfl⟩ h hP
  · refine wp_aload_n dX9_shift_157 rfl rfl ?_
    refine wm_getR dX9_shift_158 s_85 fk_X9_136 rfl r_85_74 rfl ?_
    refine wp_bipush (60 : Int32) dX9_shift_161 ib_60 rfl ?_
    refine wp_iload_n dX9_shift_163 rfl rfl ?_
    refine wp_imul dX9_shift_164 rfl ?_
    refine wp_iload dX9_shift_165 rfl rfl ?_
    refine wp_iadd dX9_shift_167 rfl ?_
    refine wp_iload dX9_shift_168 rfl rfl ?_
    refine wp_iadd dX9_shift_170 rfl ?_
    refine wp_aload_n dX9_shift_171 rfl rfl ?_
    refine wm_getR dX9_shift_172 s_85 fk_X9_140 rfl r_85_75 rfl ?_
    refine wp_iload dX9_shift_175 rfl rfl ?_
    refine wm_lald dX9_shift_177 s_129 rfl h (fun h => ?_)
    refine wm_last dX9_shift_178 s_128 rfl h (fun m3 h => ?_)
    refine wm_inc dX9_shift_179 rfl ii_1 (by decide) rfl rfl h (fun y4 h => ?_)
    refine wm_list (L' := [some (.ref 85), none, none, some (.int s.1), some (.int s.2.1), some (.int s.2.2.1), some (.int y4)]) rfl ?_
    refine wp_goto 150 dX9_shift_182 rfl ?_
    have hB := wm_back h hP
    exact wm_mask (L' := [some (.ref 85), none, none, some (.int s.1), some (.int s.2.1), some (.int s.2.2.1), some (.int y4)]) [true, false, false, true, true, true, true] rfl (hB)
noncomputable def f_X9_shift_L113  (s : Int32 × Int32 × Int32 × Int32 × Int32 × Int32 × Mem) : Option ((Int32 × Int32 × Int32 × Int32 × Int32 × Int32 × Mem) ⊕ (Int32 × Mem)) := if s.2.2.2.2.1 ≤ s.2.2.2.2.2.1 then up (wh (f_X9_shift_L150) (s.2.2.1, s.2.2.2.1, s.2.2.2.2.1, (0 : Int32), s.2.2.2.2.2.2)) else ck ((((60 : Int32) * s.1) + s.2.1) + s.2.2.2.2.2.1) 360 (ck s.2.2.2.2.2.1 60 (bnd (sJ s.2.2.2.2.2.2 129 (ix s.2.2.2.2.2.1) (gJ s.2.2.2.2.2.2 128 (ix ((((60 : Int32) * s.1) + s.2.1) + s.2.2.2.2.2.1)))) (fun m5 => bnd (s.2.2.2.2.2.1 + (1 : Int32)) (fun y6 => some (Sum.inl (s.1, s.2.1, s.2.2.1, s.2.2.2.1, s.2.2.2.2.1, y6, m5))))))
theorem k_X9_shift_L113 {g : Gx}  {Q : Qy} {s : Int32 × Int32 × Int32 × Int32 × Int32 × Int32 × Mem} {t : (Int32 × Int32 × Int32 × Int32 × Int32 × Int32 × Mem) ⊕ (Int32 × Mem)} (h : f_X9_shift_L113 s = some t) (hP : P_X9_shift_113 g Q t) : A_X9_shift_113 g Q s := by
  refine wp_iload dX9_shift_113 rfl rfl ?_
  refine wp_iload dX9_shift_115 rfl rfl ?_
  refine wm_icmp_ge 147 dX9_shift_117 rfl rfl h (fun h => ?_) (fun h => ?_)
  · refine wm_up h hP (fun r h hP => ?_)
    refine wp_iconst (0 : Int32) dX9_shift_147 ic_0 rfl ?_
    refine wp_istore (L' := [some (.ref 85), some (.int s.1), some (.int s.2.1), some (.int s.2.2.1), some (.int s.2.2.2.1), some (.int s.2.2.2.2.1), some (.int (0 : Int32))]) dX9_shift_148 (by decide) rfl rfl rfl ?_
    have hB := wh_ok (A := A_X9_shift_150 g Q) (B := pI Q) (fun s t h hP => k_X9_shift_L150  h hP) h hP
    exact wm_mask (L' := [some (.ref 85), none, none, some (.int s.2.2.1), some (.int s.2.2.2.1), some (.int s.2.2.2.2.1), some (.int (0 : Int32))]) [true, false, false, true, true, true, true] rfl (hB)
  · refine wp_aload_n dX9_shift_120 rfl rfl ?_
    refine wm_getR dX9_shift_121 s_85 fk_X9_140 rfl r_85_75 rfl ?_
    refine wp_iload dX9_shift_124 rfl rfl ?_
    refine wp_aload_n dX9_shift_126 rfl rfl ?_
    refine wm_getR dX9_shift_127 s_85 fk_X9_136 rfl r_85_74 rfl ?_
    refine wp_bipush (60 : Int32) dX9_shift_130 ib_60 rfl ?_
    refine wp_iload_n dX9_shift_132 rfl rfl ?_
    refine wp_imul dX9_shift_133 rfl ?_
    refine wp_iload_n dX9_shift_134 rfl rfl ?_
    refine wp_iadd dX9_shift_135 rfl ?_
    refine wp_iload dX9_shift_136 rfl rfl ?_
    refine wp_iadd dX9_shift_138 rfl ?_
    refine wm_lald dX9_shift_139 s_128 rfl h (fun h => ?_)
    refine wm_last dX9_shift_140 s_129 rfl h (fun m5 h => ?_)
    refine wm_inc dX9_shift_141 rfl ii_1 (by decide) rfl rfl h (fun y6 h => ?_)
    refine wm_list (L' := [some (.ref 85), some (.int s.1), some (.int s.2.1), some (.int s.2.2.1), some (.int s.2.2.2.1), some (.int s.2.2.2.2.1), some (.int y6)]) rfl ?_
    refine wp_goto 113 dX9_shift_144 rfl ?_
    have hB := wm_back h hP
    exact wm_mask (L' := [some (.ref 85), some (.int s.1), some (.int s.2.1), some (.int s.2.2.1), some (.int s.2.2.2.1), some (.int s.2.2.2.2.1), some (.int y6)]) [true, true, true, true, true, true, true] rfl (hB)
noncomputable def f_X9_shift  (p1 : Int32) (p2 : Int32) (p3 : Int32) (p4 : Int32) (p5 : Int32) (m : Mem) : Option (Int32 × Mem) := (f_X9_isShelf p1 m).bind (fun q1 => if q1.1 = 0 then some ((-1 : Int32), q1.2) else (f_X9_isShelf p3 q1.2).bind (fun q2 => if ¬ q2.1 = 0 then ck p1 6 (if (gI q2.2 126 (ix p1)) < 0 then some ((-11 : Int32), q2.2) else ck p3 6 (if 0 ≤ (gI q2.2 126 (ix p3)) then ck p1 6 (if (gI q2.2 126 (ix p1)) < (50 : Int32) then some ((-12 : Int32), q2.2) else ck p1 6 (ck p3 6 (if (gI q2.2 126 (ix p1)) = (gI q2.2 126 (ix p3)) then if p5 < 0 then some ((-13 : Int32), q2.2) else if p2 < 0 then some ((-13 : Int32), q2.2) else if p4 < 0 then some ((-13 : Int32), q2.2) else ck p1 6 (if ((gI q2.2 127 (ix p1)) - p5) < p2 then some ((-13 : Int32), q2.2) else ck p3 6 (if p4 ≤ ((gI q2.2 127 (ix p3)) - p5) then wh (f_X9_shift_L113) (p1, p2, p3, p4, p5, (0 : Int32), q2.2) else some ((-13 : Int32), q2.2))) else some ((-12 : Int32), q2.2)))) else some ((-11 : Int32), q2.2))) else some ((-1 : Int32), q2.2)))
theorem k_X9_shift_E {g : Gx}  {p1 : Int32} {p2 : Int32} {p3 : Int32} {p4 : Int32} {p5 : Int32} {Q : Qy} {m : Mem} {t : Int32 × Mem} (h : f_X9_shift p1 p2 p3 p4 p5 m = some t) (hP : pI Q t) : WpM g 3 mi_X9_shift 0 [some (.ref 85), some (.int p1), some (.int p2), some (.int p3), some (.int p4), some (.int p5), none] [] m (zM g mi_X9_shift Q) := by
  refine wp_iload_n dX9_shift_0 rfl rfl ?_
  refine wm_callSI (As := [.int p1]) (rest := []) dX9_shift_1 ok_X9_198 (by decide) rfl (Nat.le_of_ble_eq_true rfl) ⟨rfl, rfl⟩ rfl (fun t h => o_X9_isShelf h) h (fun q1 h => ?_)
  refine wm_if_eq 14 dX9_shift_4 rfl rfl h (fun h => ?_) (fun h => ?_)
  · refine wp_iconst (-1 : Int32) dX9_shift_14 ic_m1 rfl ?_
    exact wm_iret dX9_shift_15 rfl ⟨rfl, rfl⟩ h hP
  · refine wp_iload_n dX9_shift_7 rfl rfl ?_
    refine wm_callSI (As := [.int p3]) (rest := []) dX9_shift_8 ok_X9_198 (by decide) rfl (Nat.le_of_ble_eq_true rfl) ⟨rfl, rfl⟩ rfl (fun t h => o_X9_isShelf h) h (fun q2 h => ?_)
    refine wm_if_ne 16 dX9_shift_11 rfl rfl h (fun h => ?_) (fun h => ?_)
    · refine wp_aload_n dX9_shift_16 rfl rfl ?_
      refine wm_getR dX9_shift_17 s_85 fk_X9_130 rfl r_85_72 rfl ?_
      refine wp_iload_n dX9_shift_20 rfl rfl ?_
      refine wm_iald dX9_shift_21 s_126 rfl h (fun h => ?_)
      refine wm_if_lt 34 dX9_shift_22 rfl rfl h (fun h => ?_) (fun h => ?_)
      · refine wp_bipush (-11 : Int32) dX9_shift_34 ib_m11 rfl ?_
        exact wm_iret dX9_shift_36 rfl ⟨rfl, rfl⟩ h hP
      · refine wp_aload_n dX9_shift_25 rfl rfl ?_
        refine wm_getR dX9_shift_26 s_85 fk_X9_130 rfl r_85_72 rfl ?_
        refine wp_iload_n dX9_shift_29 rfl rfl ?_
        refine wm_iald dX9_shift_30 s_126 rfl h (fun h => ?_)
        refine wm_if_ge 37 dX9_shift_31 rfl rfl h (fun h => ?_) (fun h => ?_)
        · refine wp_aload_n dX9_shift_37 rfl rfl ?_
          refine wm_getR dX9_shift_38 s_85 fk_X9_130 rfl r_85_72 rfl ?_
          refine wp_iload_n dX9_shift_41 rfl rfl ?_
          refine wm_iald dX9_shift_42 s_126 rfl h (fun h => ?_)
          refine wp_bipush (50 : Int32) dX9_shift_43 ib_50 rfl ?_
          refine wm_icmp_lt 63 dX9_shift_45 rfl rfl h (fun h => ?_) (fun h => ?_)
          · refine wp_bipush (-12 : Int32) dX9_shift_63 ib_m12 rfl ?_
            exact wm_iret dX9_shift_65 rfl ⟨rfl, rfl⟩ h hP
          · refine wp_aload_n dX9_shift_48 rfl rfl ?_
            refine wm_getR dX9_shift_49 s_85 fk_X9_130 rfl r_85_72 rfl ?_
            refine wp_iload_n dX9_shift_52 rfl rfl ?_
            refine wm_iald dX9_shift_53 s_126 rfl h (fun h => ?_)
            refine wp_aload_n dX9_shift_54 rfl rfl ?_
            refine wm_getR dX9_shift_55 s_85 fk_X9_130 rfl r_85_72 rfl ?_
            refine wp_iload_n dX9_shift_58 rfl rfl ?_
            refine wm_iald dX9_shift_59 s_126 rfl h (fun h => ?_)
            refine wm_icmp_eq 66 dX9_shift_60 rfl rfl h (fun h => ?_) (fun h => ?_)
            · refine wp_iload dX9_shift_66 rfl rfl ?_
              refine wm_if_lt 107 dX9_shift_68 rfl rfl h (fun h => ?_) (fun h => ?_)
              · refine wp_bipush (-13 : Int32) dX9_shift_107 ib_m13 rfl ?_
                exact wm_iret dX9_shift_109 rfl ⟨rfl, rfl⟩ h hP
              · refine wp_iload_n dX9_shift_71 rfl rfl ?_
                refine wm_if_lt 107 dX9_shift_72 rfl rfl h (fun h => ?_) (fun h => ?_)
                · refine wp_bipush (-13 : Int32) dX9_shift_107 ib_m13 rfl ?_
                  exact wm_iret dX9_shift_109 rfl ⟨rfl, rfl⟩ h hP
                · refine wp_iload dX9_shift_75 rfl rfl ?_
                  refine wm_if_lt 107 dX9_shift_77 rfl rfl h (fun h => ?_) (fun h => ?_)
                  · refine wp_bipush (-13 : Int32) dX9_shift_107 ib_m13 rfl ?_
                    exact wm_iret dX9_shift_109 rfl ⟨rfl, rfl⟩ h hP
                  · refine wp_iload_n dX9_shift_80 rfl rfl ?_
                    refine wp_aload_n dX9_shift_81 rfl rfl ?_
                    refine wm_getR dX9_shift_82 s_85 fk_X9_133 rfl r_85_73 rfl ?_
                    refine wp_iload_n dX9_shift_85 rfl rfl ?_
                    refine wm_iald dX9_shift_86 s_127 rfl h (fun h => ?_)
                    refine wp_iload dX9_shift_87 rfl rfl ?_
                    refine wp_isub dX9_shift_89 rfl ?_
                    refine wm_icmp_gt 107 dX9_shift_90 rfl rfl h (fun h => ?_) (fun h => ?_)
                    · refine wp_bipush (-13 : Int32) dX9_shift_107 ib_m13 rfl ?_
                      exact wm_iret dX9_shift_109 rfl ⟨rfl, rfl⟩ h hP
                    · refine wp_iload dX9_shift_93 rfl rfl ?_
                      refine wp_aload_n dX9_shift_95 rfl rfl ?_
                      refine wm_getR dX9_shift_96 s_85 fk_X9_133 rfl r_85_73 rfl ?_
                      refine wp_iload_n dX9_shift_99 rfl rfl ?_
                      refine wm_iald dX9_shift_100 s_127 rfl h (fun h => ?_)
                      refine wp_iload dX9_shift_101 rfl rfl ?_
                      refine wp_isub dX9_shift_103 rfl ?_
                      refine wm_icmp_le 110 dX9_shift_104 rfl rfl h (fun h => ?_) (fun h => ?_)
                      · refine wp_iconst (0 : Int32) dX9_shift_110 ic_0 rfl ?_
                        refine wp_istore (L' := [some (.ref 85), some (.int p1), some (.int p2), some (.int p3), some (.int p4), some (.int p5), some (.int (0 : Int32))]) dX9_shift_111 (by decide) rfl rfl rfl ?_
                        have hB := wh_ok (A := A_X9_shift_113 g Q) (B := pI Q) (fun s t h hP => k_X9_shift_L113  h hP) h hP
                        exact wm_mask (L' := [some (.ref 85), some (.int p1), some (.int p2), some (.int p3), some (.int p4), some (.int p5), some (.int (0 : Int32))]) [true, true, true, true, true, true, true] rfl (hB)
                      · refine wp_bipush (-13 : Int32) dX9_shift_107 ib_m13 rfl ?_
                        exact wm_iret dX9_shift_109 rfl ⟨rfl, rfl⟩ h hP
            · refine wp_bipush (-12 : Int32) dX9_shift_63 ib_m12 rfl ?_
              exact wm_iret dX9_shift_65 rfl ⟨rfl, rfl⟩ h hP
        · refine wp_bipush (-11 : Int32) dX9_shift_34 ib_m11 rfl ?_
          exact wm_iret dX9_shift_36 rfl ⟨rfl, rfl⟩ h hP
    · refine wp_iconst (-1 : Int32) dX9_shift_14 ic_m1 rfl ?_
      exact wm_iret dX9_shift_15 rfl ⟨rfl, rfl⟩ h hP
theorem o_X9_shift {g : Gx}  {p1 : Int32} {p2 : Int32} {p3 : Int32} {p4 : Int32} {p5 : Int32} {m : Mem} {t : Int32 × Mem} (h : f_X9_shift p1 p2 p3 p4 p5 m = some t) : MxM g 3 mi_X9_shift [.ref 85, .int p1, .int p2, .int p3, .int p4, .int p5] m (qI t) := mx_of pn_X9 (Nat.le_of_ble_eq_true rfl) (k_X9_shift_E h ⟨rfl, rfl, rfl, rfl, rfl⟩)
abbrev A_X9_taken_58 (g : Gx)  (Q : Qy) (s : Int32 × Int32 × Int32 × Mem) : Prop := WpM g 3 mi_X9_taken 58 [some (.ref 85), some (.int s.1), some (.int s.2.1), some (.int s.2.2.1)] [] s.2.2.2 (zM g mi_X9_taken Q)
abbrev P_X9_taken_58 (g : Gx)  (Q : Qy) : ((Int32 × Int32 × Int32 × Mem) ⊕ (Int32 × Mem)) → Prop := pS (A_X9_taken_58 g Q) (pI Q)
noncomputable def f_X9_taken_J75  (v1 : Int32) (v2 : Int32) (v3 : Int32) (m : Mem) : Option (Int32 × Mem) := if ¬ v3 = v2 then some ((-12 : Int32), m) else ck v1 6 ((f_X9_kindOf (gI m 126 (ix v1)) m).bind (fun q4 => some (q4.1, q4.2)))
theorem k_X9_taken_J75 {g : Gx}  {v1 : Int32} {v2 : Int32} {v3 : Int32}  {Q : Qy} {m : Mem} {t : Int32 × Mem} (h : f_X9_taken_J75 v1 v2 v3 m = some t) (hP : pI Q t) : WpM g 3 mi_X9_taken 75 [some (.ref 85), some (.int v1), some (.int v2), some (.int v3)] [] m (zM g mi_X9_taken Q) := by
  refine wp_iload_n dX9_taken_75 rfl rfl ?_
  refine wp_iload_n dX9_taken_76 rfl rfl ?_
  refine wm_icmp_ne 93 dX9_taken_77 rfl rfl h (fun h => ?_) (fun h => ?_)
  · refine wp_bipush (-12 : Int32) dX9_taken_93 ib_m12 rfl ?_
    exact wm_iret dX9_taken_95 rfl ⟨rfl, rfl⟩ h hP
  · refine wp_aload_n dX9_taken_80 rfl rfl ?_
    refine wp_aload_n dX9_taken_81 rfl rfl ?_
    refine wm_getR dX9_taken_82 s_85 fk_X9_130 rfl r_85_72 rfl ?_
    refine wp_iload_n dX9_taken_85 rfl rfl ?_
    refine wm_iald dX9_taken_86 s_126 rfl h (fun h => ?_)
    refine wm_callVI (As := [.int (gI m 126 (ix v1))]) (rest := []) dX9_taken_87 ok_X9_489 (by decide) rfl s_85 ⟨_, rfl⟩ (Nat.le_of_ble_eq_true rfl) ⟨rfl, rfl⟩ rfl (fun t h => o_X9_kindOf h) h (fun q4 h => ?_)
    refine wp_goto 95 dX9_taken_90 rfl ?_
    exact wm_iret dX9_taken_95 rfl ⟨rfl, rfl⟩ h hP
noncomputable def f_X9_taken_L58  (s : Int32 × Int32 × Int32 × Mem) : Option ((Int32 × Int32 × Int32 × Mem) ⊕ (Int32 × Mem)) := if s.2.2.1 = s.2.1 then up (f_X9_taken_J75 s.1 s.2.1 s.2.2.1 s.2.2.2) else if s.2.2.1 ≤ 0 then up (f_X9_taken_J75 s.1 s.2.1 s.2.2.1 s.2.2.2) else (f_X9_above s.2.2.1 s.2.2.2).bind (fun q5 => some (Sum.inl (s.1, s.2.1, q5.1, q5.2)))
theorem k_X9_taken_L58 {g : Gx}  {Q : Qy} {s : Int32 × Int32 × Int32 × Mem} {t : (Int32 × Int32 × Int32 × Mem) ⊕ (Int32 × Mem)} (h : f_X9_taken_L58 s = some t) (hP : P_X9_taken_58 g Q t) : A_X9_taken_58 g Q s := by
  refine wp_iload_n dX9_taken_58 rfl rfl ?_
  refine wp_iload_n dX9_taken_59 rfl rfl ?_
  refine wm_icmp_eq 75 dX9_taken_60 rfl rfl h (fun h => ?_) (fun h => ?_)
  · refine wm_up h hP (fun r h hP => ?_)
    exact wm_mask (L' := [some (.ref 85), some (.int s.1), some (.int s.2.1), some (.int s.2.2.1)]) [true, true, true, true] rfl (k_X9_taken_J75  h hP)
  · refine wp_iload_n dX9_taken_63 rfl rfl ?_
    refine wm_if_le 75 dX9_taken_64 rfl rfl h (fun h => ?_) (fun h => ?_)
    · refine wm_up h hP (fun r h hP => ?_)
      exact wm_mask (L' := [some (.ref 85), some (.int s.1), some (.int s.2.1), some (.int s.2.2.1)]) [true, true, true, true] rfl (k_X9_taken_J75  h hP)
    · refine wp_iload_n dX9_taken_67 rfl rfl ?_
      refine wm_callSI (As := [.int s.2.2.1]) (rest := []) dX9_taken_68 ok_X9_492 (by decide) rfl (Nat.le_of_ble_eq_true rfl) ⟨rfl, rfl⟩ rfl (fun t h => o_X9_above h) h (fun q5 h => ?_)
      refine wp_istore_n (L' := [some (.ref 85), some (.int s.1), some (.int s.2.1), some (.int q5.1)]) dX9_taken_71 (by decide) rfl rfl rfl ?_
      refine wp_goto 58 dX9_taken_72 rfl ?_
      have hB := wm_back h hP
      exact wm_mask (L' := [some (.ref 85), some (.int s.1), some (.int s.2.1), some (.int q5.1)]) [true, true, true, true] rfl (hB)
noncomputable def f_X9_taken  (p1 : Int32) (p2 : Int32) (m : Mem) : Option (Int32 × Mem) := (f_X9_isShelf p1 m).bind (fun q1 => if q1.1 = 0 then some ((-1 : Int32), q1.2) else (f_X9_within p2.toInt64 (0 : Int64) (7 : Int64) q1.2).bind (fun q2 => if ¬ q2.1 = 0 then ck p1 6 (if 0 ≤ (gI q2.2 126 (ix p1)) then ck p1 6 (if (gI q2.2 126 (ix p1)) < (50 : Int32) then ck p1 6 ((f_X9_kindOf (gI q2.2 126 (ix p1)) q2.2).bind (fun q3 => wh (f_X9_taken_L58) (p1, p2, q3.1, q3.2))) else some ((-12 : Int32), q2.2)) else some ((-11 : Int32), q2.2)) else some ((-1 : Int32), q2.2)))
theorem k_X9_taken_E {g : Gx}  {p1 : Int32} {p2 : Int32} {Q : Qy} {m : Mem} {t : Int32 × Mem} (h : f_X9_taken p1 p2 m = some t) (hP : pI Q t) : WpM g 3 mi_X9_taken 0 [some (.ref 85), some (.int p1), some (.int p2), none] [] m (zM g mi_X9_taken Q) := by
  refine wp_iload_n dX9_taken_0 rfl rfl ?_
  refine wm_callSI (As := [.int p1]) (rest := []) dX9_taken_1 ok_X9_198 (by decide) rfl (Nat.le_of_ble_eq_true rfl) ⟨rfl, rfl⟩ rfl (fun t h => o_X9_isShelf h) h (fun q1 h => ?_)
  refine wm_if_eq 19 dX9_taken_4 rfl rfl h (fun h => ?_) (fun h => ?_)
  · refine wp_iconst (-1 : Int32) dX9_taken_19 ic_m1 rfl ?_
    exact wm_iret dX9_taken_20 rfl ⟨rfl, rfl⟩ h hP
  · refine wp_iload_n dX9_taken_7 rfl rfl ?_
    refine wp_i2l dX9_taken_8 rfl ?_
    refine wp_lconst (0 : Int64) dX9_taken_9 rfl rfl ?_
    refine wp_ldc2 dX9_taken_10 q1714 rfl ?_
    refine wm_callSI (As := [.long p2.toInt64, .long (0 : Int64), .long (7 : Int64)]) (rest := []) dX9_taken_13 ok_X9_162 (by decide) rfl (Nat.le_of_ble_eq_true rfl) ⟨rfl, rfl⟩ rfl (fun t h => o_X9_within h) h (fun q2 h => ?_)
    refine wm_if_ne 21 dX9_taken_16 rfl rfl h (fun h => ?_) (fun h => ?_)
    · refine wp_aload_n dX9_taken_21 rfl rfl ?_
      refine wm_getR dX9_taken_22 s_85 fk_X9_130 rfl r_85_72 rfl ?_
      refine wp_iload_n dX9_taken_25 rfl rfl ?_
      refine wm_iald dX9_taken_26 s_126 rfl h (fun h => ?_)
      refine wm_if_ge 33 dX9_taken_27 rfl rfl h (fun h => ?_) (fun h => ?_)
      · refine wp_aload_n dX9_taken_33 rfl rfl ?_
        refine wm_getR dX9_taken_34 s_85 fk_X9_130 rfl r_85_72 rfl ?_
        refine wp_iload_n dX9_taken_37 rfl rfl ?_
        refine wm_iald dX9_taken_38 s_126 rfl h (fun h => ?_)
        refine wp_bipush (50 : Int32) dX9_taken_39 ib_50 rfl ?_
        refine wm_icmp_lt 47 dX9_taken_41 rfl rfl h (fun h => ?_) (fun h => ?_)
        · refine wp_aload_n dX9_taken_47 rfl rfl ?_
          refine wp_aload_n dX9_taken_48 rfl rfl ?_
          refine wm_getR dX9_taken_49 s_85 fk_X9_130 rfl r_85_72 rfl ?_
          refine wp_iload_n dX9_taken_52 rfl rfl ?_
          refine wm_iald dX9_taken_53 s_126 rfl h (fun h => ?_)
          refine wm_callVI (As := [.int (gI q2.2 126 (ix p1))]) (rest := []) dX9_taken_54 ok_X9_489 (by decide) rfl s_85 ⟨_, rfl⟩ (Nat.le_of_ble_eq_true rfl) ⟨rfl, rfl⟩ rfl (fun t h => o_X9_kindOf h) h (fun q3 h => ?_)
          refine wp_istore_n (L' := [some (.ref 85), some (.int p1), some (.int p2), some (.int q3.1)]) dX9_taken_57 (by decide) rfl rfl rfl ?_
          have hB := wh_ok (A := A_X9_taken_58 g Q) (B := pI Q) (fun s t h hP => k_X9_taken_L58  h hP) h hP
          exact wm_mask (L' := [some (.ref 85), some (.int p1), some (.int p2), some (.int q3.1)]) [true, true, true, true] rfl (hB)
        · refine wp_bipush (-12 : Int32) dX9_taken_44 ib_m12 rfl ?_
          exact wm_iret dX9_taken_46 rfl ⟨rfl, rfl⟩ h hP
      · refine wp_bipush (-11 : Int32) dX9_taken_30 ib_m11 rfl ?_
        exact wm_iret dX9_taken_32 rfl ⟨rfl, rfl⟩ h hP
    · refine wp_iconst (-1 : Int32) dX9_taken_19 ic_m1 rfl ?_
      exact wm_iret dX9_taken_20 rfl ⟨rfl, rfl⟩ h hP
theorem o_X9_taken {g : Gx}  {p1 : Int32} {p2 : Int32} {m : Mem} {t : Int32 × Mem} (h : f_X9_taken p1 p2 m = some t) : MxM g 3 mi_X9_taken [.ref 85, .int p1, .int p2] m (qI t) := mx_of pn_X9 (Nat.le_of_ble_eq_true rfl) (k_X9_taken_E h ⟨rfl, rfl, rfl, rfl, rfl⟩)
noncomputable def f_X9_thing  (p1 : Int32) (p2 : Int32) (m : Mem) : Option (Int32 × Mem) := (f_X9_isWorth p1 m).bind (fun q1 => if q1.1 = 0 then some ((-1 : Int32), q1.2) else (f_X9_isDigit1 p2 q1.2).bind (fun q2 => if ¬ q2.1 = 0 then if ¬ (gI q2.2 85 8) = (6 : Int32) then ck ((30 : Int32) + (gI q2.2 85 8)) 42 (bnd (sI q2.2 86 (ix ((30 : Int32) + (gI q2.2 85 8))) p1) (fun m3 => ck ((36 : Int32) + (gI m3 85 8)) 42 (bnd (sI m3 86 (ix ((36 : Int32) + (gI m3 85 8))) p2) (fun m4 => bnd (sI m4 85 8 ((gI m4 85 8) + (1 : Int32))) (fun m5 => some (((gI m5 85 8) - (1 : Int32)), m5)))))) else some ((-3 : Int32), q2.2) else some ((-1 : Int32), q2.2)))
theorem k_X9_thing_E {g : Gx}  {p1 : Int32} {p2 : Int32} {Q : Qy} {m : Mem} {t : Int32 × Mem} (h : f_X9_thing p1 p2 m = some t) (hP : pI Q t) : WpM g 3 mi_X9_thing 0 [some (.ref 85), some (.int p1), some (.int p2)] [] m (zM g mi_X9_thing Q) := by
  refine wp_iload_n dX9_thing_0 rfl rfl ?_
  refine wm_callSI (As := [.int p1]) (rest := []) dX9_thing_1 ok_X9_180 (by decide) rfl (Nat.le_of_ble_eq_true rfl) ⟨rfl, rfl⟩ rfl (fun t h => o_X9_isWorth h) h (fun q1 h => ?_)
  refine wm_if_eq 14 dX9_thing_4 rfl rfl h (fun h => ?_) (fun h => ?_)
  · refine wp_iconst (-1 : Int32) dX9_thing_14 ic_m1 rfl ?_
    exact wm_iret dX9_thing_15 rfl ⟨rfl, rfl⟩ h hP
  · refine wp_iload_n dX9_thing_7 rfl rfl ?_
    refine wm_callSI (As := [.int p2]) (rest := []) dX9_thing_8 ok_X9_184 (by decide) rfl (Nat.le_of_ble_eq_true rfl) ⟨rfl, rfl⟩ rfl (fun t h => o_X9_isDigit1 h) h (fun q2 h => ?_)
    refine wm_if_ne 16 dX9_thing_11 rfl rfl h (fun h => ?_) (fun h => ?_)
    · refine wp_aload_n dX9_thing_16 rfl rfl ?_
      refine wm_getI dX9_thing_17 s_85 fk_X9_166 rfl rfl ?_
      refine wp_bipush (6 : Int32) dX9_thing_20 ib_6 rfl ?_
      refine wm_icmp_ne 28 dX9_thing_22 rfl rfl h (fun h => ?_) (fun h => ?_)
      · refine wp_aload_n dX9_thing_28 rfl rfl ?_
        refine wm_getR dX9_thing_29 s_85 fk_X9_9 rfl r_85_0 rfl ?_
        refine wp_bipush (30 : Int32) dX9_thing_32 ib_30 rfl ?_
        refine wp_aload_n dX9_thing_34 rfl rfl ?_
        refine wm_getI dX9_thing_35 s_85 fk_X9_166 rfl rfl ?_
        refine wp_iadd dX9_thing_38 rfl ?_
        refine wp_iload_n dX9_thing_39 rfl rfl ?_
        refine wm_iast dX9_thing_40 s_86 rfl h (fun m3 h => ?_)
        refine wp_aload_n dX9_thing_41 rfl rfl ?_
        refine wm_getR dX9_thing_42 s_85 fk_X9_9 rfl r_85_0 rfl ?_
        refine wp_bipush (36 : Int32) dX9_thing_45 ib_36 rfl ?_
        refine wp_aload_n dX9_thing_47 rfl rfl ?_
        refine wm_getI dX9_thing_48 s_85 fk_X9_166 rfl rfl ?_
        refine wp_iadd dX9_thing_51 rfl ?_
        refine wp_iload_n dX9_thing_52 rfl rfl ?_
        refine wm_iast dX9_thing_53 s_86 rfl h (fun m4 h => ?_)
        refine wp_aload_n dX9_thing_54 rfl rfl ?_
        refine wp_dup dX9_thing_55 rfl rfl ?_
        refine wm_getI dX9_thing_56 s_85 fk_X9_166 rfl rfl ?_
        refine wp_iconst (1 : Int32) dX9_thing_59 ic_1 rfl ?_
        refine wp_iadd dX9_thing_60 rfl ?_
        refine wm_putI dX9_thing_61 s_85 fk_X9_166 rfl rfl h (fun m5 h => ?_)
        refine wp_aload_n dX9_thing_64 rfl rfl ?_
        refine wm_getI dX9_thing_65 s_85 fk_X9_166 rfl rfl ?_
        refine wp_iconst (1 : Int32) dX9_thing_68 ic_1 rfl ?_
        refine wp_isub dX9_thing_69 rfl ?_
        exact wm_iret dX9_thing_70 rfl ⟨rfl, rfl⟩ h hP
      · refine wp_bipush (-3 : Int32) dX9_thing_25 ib_m3 rfl ?_
        exact wm_iret dX9_thing_27 rfl ⟨rfl, rfl⟩ h hP
    · refine wp_iconst (-1 : Int32) dX9_thing_14 ic_m1 rfl ?_
      exact wm_iret dX9_thing_15 rfl ⟨rfl, rfl⟩ h hP
theorem o_X9_thing {g : Gx}  {p1 : Int32} {p2 : Int32} {m : Mem} {t : Int32 × Mem} (h : f_X9_thing p1 p2 m = some t) : MxM g 3 mi_X9_thing [.ref 85, .int p1, .int p2] m (qI t) := mx_of pn_X9 (Nat.le_of_ble_eq_true rfl) (k_X9_thing_E h ⟨rfl, rfl, rfl, rfl, rfl⟩)
abbrev A_X9_times_35 (g : Gx)  (Q : Qy) (s : Int32 × Int32 × Mem) : Prop := WpM g 68 mi_X9_times 35 [some (.ref 85), some (.int s.1), some (.int s.2.1)] [] s.2.2 (zM g mi_X9_times Q)
abbrev P_X9_times_35 (g : Gx)  (Q : Qy) : ((Int32 × Int32 × Mem) ⊕ (Int32 × Mem)) → Prop := pS (A_X9_times_35 g Q) (pI Q)
noncomputable def f_X9_times_L35  (s : Int32 × Int32 × Mem) : Option ((Int32 × Int32 × Mem) ⊕ (Int32 × Mem)) := if (10 : Int32) ≤ s.2.1 then up ((f_X9_bestTold s.1 s.2.2).bind (fun q5 => some (q5.1, q5.2))) else bnd (sI s.2.2 85 27 s.2.1) (fun m6 => (f_X9_looksAt s.2.1 m6).bind (fun q7 => bnd (s.2.1 + (1 : Int32)) (fun y8 => some (Sum.inl (s.1, y8, q7)))))
theorem k_X9_times_L35 {g : Gx}  {Q : Qy} {s : Int32 × Int32 × Mem} {t : (Int32 × Int32 × Mem) ⊕ (Int32 × Mem)} (h : f_X9_times_L35 s = some t) (hP : P_X9_times_35 g Q t) : A_X9_times_35 g Q s := by
  refine wp_iload_n dX9_times_35 rfl rfl ?_
  refine wp_bipush (10 : Int32) dX9_times_36 ib_10 rfl ?_
  refine wm_icmp_ge 57 dX9_times_38 rfl rfl h (fun h => ?_) (fun h => ?_)
  · refine wm_up h hP (fun r h hP => ?_)
    refine wp_aload_n dX9_times_57 rfl rfl ?_
    refine wp_iload_n dX9_times_58 rfl rfl ?_
    refine wm_callVI (As := [.int s.1]) (rest := []) dX9_times_59 ok_X9_438 (by decide) rfl s_85 ⟨_, rfl⟩ (Nat.le_of_ble_eq_true rfl) ⟨rfl, rfl⟩ rfl (fun t h => o_X9_bestTold h) h (fun q5 h => ?_)
    exact wm_iret dX9_times_62 rfl ⟨rfl, rfl⟩ h hP
  · refine wp_aload_n dX9_times_41 rfl rfl ?_
    refine wp_iload_n dX9_times_42 rfl rfl ?_
    refine wm_putI dX9_times_43 s_85 fk_X9_283 rfl rfl h (fun m6 h => ?_)
    refine wp_aload_n dX9_times_46 rfl rfl ?_
    refine wp_iload_n dX9_times_47 rfl rfl ?_
    refine wm_callVN (As := [.int s.2.1]) (rest := []) dX9_times_48 ok_X9_435 (by decide) rfl s_85 ⟨_, rfl⟩ (Nat.le_of_ble_eq_true rfl) ⟨rfl, rfl⟩ rfl (fun t h => o_X9_looksAt h) h (fun q7 h => ?_)
    refine wm_inc dX9_times_51 rfl ii_1 (by decide) rfl rfl h (fun y8 h => ?_)
    refine wm_list (L' := [some (.ref 85), some (.int s.1), some (.int y8)]) rfl ?_
    refine wp_goto 35 dX9_times_54 rfl ?_
    have hB := wm_back h hP
    exact wm_mask (L' := [some (.ref 85), some (.int s.1), some (.int y8)]) [true, true, true] rfl (hB)
noncomputable def f_X9_times  (p1 : Int32) (m : Mem) : Option (Int32 × Mem) := (f_X9_within p1.toInt64 (0 : Int64) (2 : Int64) m).bind (fun q1 => if ¬ q1.1 = 0 then (f_X9_isTable q1.2).bind (fun q2 => if ¬ q2.1 = 0 then (f_X9_plain q2.2).bind (fun q3 => bnd (sI q3 85 63 (-1 : Int32)) (fun m4 => wh (f_X9_times_L35) (p1, (1 : Int32), m4))) else some ((-5 : Int32), q2.2)) else some ((-1 : Int32), q1.2))
theorem k_X9_times_E {g : Gx}  {p1 : Int32} {Q : Qy} {m : Mem} {t : Int32 × Mem} (h : f_X9_times p1 m = some t) (hP : pI Q t) : WpM g 68 mi_X9_times 0 [some (.ref 85), some (.int p1), none] [] m (zM g mi_X9_times Q) := by
  refine wp_iload_n dX9_times_0 rfl rfl ?_
  refine wp_i2l dX9_times_1 rfl ?_
  refine wp_lconst (0 : Int64) dX9_times_2 rfl rfl ?_
  refine wp_ldc2 dX9_times_3 q1677 rfl ?_
  refine wm_callSI (As := [.long p1.toInt64, .long (0 : Int64), .long (2 : Int64)]) (rest := []) dX9_times_6 ok_X9_162 (by decide) rfl (Nat.le_of_ble_eq_true rfl) ⟨rfl, rfl⟩ rfl (fun t h => o_X9_within h) h (fun q1 h => ?_)
  refine wm_if_ne 14 dX9_times_9 rfl rfl h (fun h => ?_) (fun h => ?_)
  · refine wp_aload_n dX9_times_14 rfl rfl ?_
    refine wm_callVI (As := []) (rest := []) dX9_times_15 ok_X9_394 (by decide) rfl s_85 ⟨_, rfl⟩ (Nat.le_of_ble_eq_true rfl) ⟨rfl, rfl⟩ rfl (fun t h => o_X9_isTable h) h (fun q2 h => ?_)
    refine wm_if_ne 24 dX9_times_18 rfl rfl h (fun h => ?_) (fun h => ?_)
    · refine wp_aload_n dX9_times_24 rfl rfl ?_
      refine wm_callVN (As := []) (rest := []) dX9_times_25 ok_X9_388 (by decide) rfl s_85 ⟨_, rfl⟩ (Nat.le_of_ble_eq_true rfl) ⟨rfl, rfl⟩ rfl (fun t h => o_X9_plain h) h (fun q3 h => ?_)
      refine wp_aload_n dX9_times_28 rfl rfl ?_
      refine wp_iconst (-1 : Int32) dX9_times_29 ic_m1 rfl ?_
      refine wm_putI dX9_times_30 s_85 fk_X9_424 rfl rfl h (fun m4 h => ?_)
      refine wp_iconst (1 : Int32) dX9_times_33 ic_1 rfl ?_
      refine wp_istore_n (L' := [some (.ref 85), some (.int p1), some (.int (1 : Int32))]) dX9_times_34 (by decide) rfl rfl rfl ?_
      have hB := wh_ok (A := A_X9_times_35 g Q) (B := pI Q) (fun s t h hP => k_X9_times_L35  h hP) h hP
      exact wm_mask (L' := [some (.ref 85), some (.int p1), some (.int (1 : Int32))]) [true, true, true] rfl (hB)
    · refine wp_bipush (-5 : Int32) dX9_times_21 ib_m5 rfl ?_
      exact wm_iret dX9_times_23 rfl ⟨rfl, rfl⟩ h hP
  · refine wp_iconst (-1 : Int32) dX9_times_12 ic_m1 rfl ?_
    exact wm_iret dX9_times_13 rfl ⟨rfl, rfl⟩ h hP
theorem o_X9_times {g : Gx}  {p1 : Int32} {m : Mem} {t : Int32 × Mem} (h : f_X9_times p1 m = some t) : MxM g 68 mi_X9_times [.ref 85, .int p1] m (qI t) := mx_of pn_X9 (Nat.le_of_ble_eq_true rfl) (k_X9_times_E h ⟨rfl, rfl, rfl, rfl, rfl⟩)
noncomputable def f_X9_told  (p1 : Int32) (m : Mem) : Option (Int32 × Mem) := (f_X9_within p1.toInt64 (0 : Int64) (9 : Int64) m).bind (fun q1 => if ¬ q1.1 = 0 then if 0 ≤ (gI q1.2 85 46) then ck p1 10 (some ((gI q1.2 111 (ix p1)), q1.2)) else some ((-5 : Int32), q1.2) else some ((-1 : Int32), q1.2))
theorem k_X9_told_E {g : Gx}  {p1 : Int32} {Q : Qy} {m : Mem} {t : Int32 × Mem} (h : f_X9_told p1 m = some t) (hP : pI Q t) : WpM g 2 mi_X9_told 0 [some (.ref 85), some (.int p1)] [] m (zM g mi_X9_told Q) := by
  refine wp_iload_n dX9_told_0 rfl rfl ?_
  refine wp_i2l dX9_told_1 rfl ?_
  refine wp_lconst (0 : Int64) dX9_told_2 rfl rfl ?_
  refine wp_ldc2 dX9_told_3 q1408 rfl ?_
  refine wm_callSI (As := [.long p1.toInt64, .long (0 : Int64), .long (9 : Int64)]) (rest := []) dX9_told_6 ok_X9_162 (by decide) rfl (Nat.le_of_ble_eq_true rfl) ⟨rfl, rfl⟩ rfl (fun t h => o_X9_within h) h (fun q1 h => ?_)
  refine wm_if_ne 16 dX9_told_9 rfl rfl h (fun h => ?_) (fun h => ?_)
  · refine wp_aload_n dX9_told_16 rfl rfl ?_
    refine wm_getI dX9_told_17 s_85 fk_X9_150 rfl rfl ?_
    refine wm_if_ge 28 dX9_told_20 rfl rfl h (fun h => ?_) (fun h => ?_)
    · refine wp_aload_n dX9_told_28 rfl rfl ?_
      refine wm_getR dX9_told_29 s_85 fk_X9_85 rfl r_85_50 rfl ?_
      refine wp_iload_n dX9_told_32 rfl rfl ?_
      refine wm_iald dX9_told_33 s_111 rfl h (fun h => ?_)
      exact wm_iret dX9_told_34 rfl ⟨rfl, rfl⟩ h hP
    · refine wp_bipush (-5 : Int32) dX9_told_23 ib_m5 rfl ?_
      refine wp_goto 34 dX9_told_25 rfl ?_
      exact wm_iret dX9_told_34 rfl ⟨rfl, rfl⟩ h hP
  · refine wp_iconst (-1 : Int32) dX9_told_12 ic_m1 rfl ?_
    refine wp_goto 34 dX9_told_13 rfl ?_
    exact wm_iret dX9_told_34 rfl ⟨rfl, rfl⟩ h hP
theorem o_X9_told {g : Gx}  {p1 : Int32} {m : Mem} {t : Int32 × Mem} (h : f_X9_told p1 m = some t) : MxM g 2 mi_X9_told [.ref 85, .int p1] m (qI t) := mx_of pn_X9 (Nat.le_of_ble_eq_true rfl) (k_X9_told_E h ⟨rfl, rfl, rfl, rfl, rfl⟩)
noncomputable def f_X9_took  (p1 : Int32) (p2 : Int32) (m : Mem) : Option (Int32 × Mem) := if (gI m 85 46) < 0 then some ((-2000000000 : Int32), m) else (f_X9_within p1.toInt64 (0 : Int64) ((gI m 85 48) - (1 : Int32)).toInt64 m).bind (fun q1 => if q1.1 = 0 then some ((-2000000000 : Int32), q1.2) else (f_X9_within p2.toInt64 (0 : Int64) (1 : Int64) q1.2).bind (fun q2 => if ¬ q2.1 = 0 then if ¬ p2 = 0 then ck p1 6 (some ((gI q2.2 120 (ix p1)), q2.2)) else ck p1 6 (some ((gI q2.2 119 (ix p1)), q2.2)) else some ((-2000000000 : Int32), q2.2)))
theorem k_X9_took_E {g : Gx}  {p1 : Int32} {p2 : Int32} {Q : Qy} {m : Mem} {t : Int32 × Mem} (h : f_X9_took p1 p2 m = some t) (hP : pI Q t) : WpM g 2 mi_X9_took 0 [some (.ref 85), some (.int p1), some (.int p2)] [] m (zM g mi_X9_took Q) := by
  refine wp_aload_n dX9_took_0 rfl rfl ?_
  refine wm_getI dX9_took_1 s_85 fk_X9_150 rfl rfl ?_
  refine wm_if_lt 33 dX9_took_4 rfl rfl h (fun h => ?_) (fun h => ?_)
  · refine wp_ldc dX9_took_33 q1448 rfl ?_
    exact wm_iret dX9_took_35 rfl ⟨rfl, rfl⟩ h hP
  · refine wp_iload_n dX9_took_7 rfl rfl ?_
    refine wp_i2l dX9_took_8 rfl ?_
    refine wp_lconst (0 : Int64) dX9_took_9 rfl rfl ?_
    refine wp_aload_n dX9_took_10 rfl rfl ?_
    refine wm_getI dX9_took_11 s_85 fk_X9_382 rfl rfl ?_
    refine wp_iconst (1 : Int32) dX9_took_14 ic_1 rfl ?_
    refine wp_isub dX9_took_15 rfl ?_
    refine wp_i2l dX9_took_16 rfl ?_
    refine wm_callSI (As := [.long p1.toInt64, .long (0 : Int64), .long ((gI m 85 48) - (1 : Int32)).toInt64]) (rest := []) dX9_took_17 ok_X9_162 (by decide) rfl (Nat.le_of_ble_eq_true rfl) ⟨rfl, rfl⟩ rfl (fun t h => o_X9_within h) h (fun q1 h => ?_)
    refine wm_if_eq 33 dX9_took_20 rfl rfl h (fun h => ?_) (fun h => ?_)
    · refine wp_ldc dX9_took_33 q1448 rfl ?_
      exact wm_iret dX9_took_35 rfl ⟨rfl, rfl⟩ h hP
    · refine wp_iload_n dX9_took_23 rfl rfl ?_
      refine wp_i2l dX9_took_24 rfl ?_
      refine wp_lconst (0 : Int64) dX9_took_25 rfl rfl ?_
      refine wp_lconst (1 : Int64) dX9_took_26 rfl rfl ?_
      refine wm_callSI (As := [.long p2.toInt64, .long (0 : Int64), .long (1 : Int64)]) (rest := []) dX9_took_27 ok_X9_162 (by decide) rfl (Nat.le_of_ble_eq_true rfl) ⟨rfl, rfl⟩ rfl (fun t h => o_X9_within h) h (fun q2 h => ?_)
      refine wm_if_ne 36 dX9_took_30 rfl rfl h (fun h => ?_) (fun h => ?_)
      · refine wp_iload_n dX9_took_36 rfl rfl ?_
        refine wm_if_ne 49 dX9_took_37 rfl rfl h (fun h => ?_) (fun h => ?_)
        · refine wp_aload_n dX9_took_49 rfl rfl ?_
          refine wm_getR dX9_took_50 s_85 fk_X9_112 rfl r_85_59 rfl ?_
          refine wp_iload_n dX9_took_53 rfl rfl ?_
          refine wm_iald dX9_took_54 s_120 rfl h (fun h => ?_)
          exact wm_iret dX9_took_55 rfl ⟨rfl, rfl⟩ h hP
        · refine wp_aload_n dX9_took_40 rfl rfl ?_
          refine wm_getR dX9_took_41 s_85 fk_X9_109 rfl r_85_58 rfl ?_
          refine wp_iload_n dX9_took_44 rfl rfl ?_
          refine wm_iald dX9_took_45 s_119 rfl h (fun h => ?_)
          refine wp_goto 55 dX9_took_46 rfl ?_
          exact wm_iret dX9_took_55 rfl ⟨rfl, rfl⟩ h hP
      · refine wp_ldc dX9_took_33 q1448 rfl ?_
        exact wm_iret dX9_took_35 rfl ⟨rfl, rfl⟩ h hP
theorem o_X9_took {g : Gx}  {p1 : Int32} {p2 : Int32} {m : Mem} {t : Int32 × Mem} (h : f_X9_took p1 p2 m = some t) : MxM g 2 mi_X9_took [.ref 85, .int p1, .int p2] m (qI t) := mx_of pn_X9 (Nat.le_of_ble_eq_true rfl) (k_X9_took_E h ⟨rfl, rfl, rfl, rfl, rfl⟩)
noncomputable def f_X9_trace  (p1 : Int32) (m : Mem) : Option (Int32 × Mem) := if p1 < 0 then some ((-1 : Int32), m) else if (gI m 85 69) ≤ p1 then some ((-1 : Int32), m) else if (24 : Int32) ≤ p1 then some ((-1 : Int32), m) else ck p1 24 (some ((gI m 125 (ix p1)), m))
theorem k_X9_trace_E {g : Gx}  {p1 : Int32} {Q : Qy} {m : Mem} {t : Int32 × Mem} (h : f_X9_trace p1 m = some t) (hP : pI Q t) : WpM g 1 mi_X9_trace 0 [some (.ref 85), some (.int p1)] [] m (zM g mi_X9_trace Q) := by
  refine wp_iload_n dX9_trace_0 rfl rfl ?_
  refine wm_if_lt 27 dX9_trace_1 rfl rfl h (fun h => ?_) (fun h => ?_)
  · refine wp_iconst (-1 : Int32) dX9_trace_27 ic_m1 rfl ?_
    exact wm_iret dX9_trace_28 rfl ⟨rfl, rfl⟩ h hP
  · refine wp_iload_n dX9_trace_4 rfl rfl ?_
    refine wp_aload_n dX9_trace_5 rfl rfl ?_
    refine wm_getI dX9_trace_6 s_85 fk_X9_449 rfl rfl ?_
    refine wm_icmp_ge 27 dX9_trace_9 rfl rfl h (fun h => ?_) (fun h => ?_)
    · refine wp_iconst (-1 : Int32) dX9_trace_27 ic_m1 rfl ?_
      exact wm_iret dX9_trace_28 rfl ⟨rfl, rfl⟩ h hP
    · refine wp_iload_n dX9_trace_12 rfl rfl ?_
      refine wp_bipush (24 : Int32) dX9_trace_13 ib_24 rfl ?_
      refine wm_icmp_ge 27 dX9_trace_15 rfl rfl h (fun h => ?_) (fun h => ?_)
      · refine wp_iconst (-1 : Int32) dX9_trace_27 ic_m1 rfl ?_
        exact wm_iret dX9_trace_28 rfl ⟨rfl, rfl⟩ h hP
      · refine wp_aload_n dX9_trace_18 rfl rfl ?_
        refine wm_getR dX9_trace_19 s_85 fk_X9_127 rfl r_85_68 rfl ?_
        refine wp_iload_n dX9_trace_22 rfl rfl ?_
        refine wm_iald dX9_trace_23 s_125 rfl h (fun h => ?_)
        refine wp_goto 28 dX9_trace_24 rfl ?_
        exact wm_iret dX9_trace_28 rfl ⟨rfl, rfl⟩ h hP
theorem o_X9_trace {g : Gx}  {p1 : Int32} {m : Mem} {t : Int32 × Mem} (h : f_X9_trace p1 m = some t) : MxM g 1 mi_X9_trace [.ref 85, .int p1] m (qI t) := mx_of pn_X9 (Nat.le_of_ble_eq_true rfl) (k_X9_trace_E h ⟨rfl, rfl, rfl, rfl, rfl⟩)
noncomputable def f_X9_undo   (m : Mem) : Option (Int32 × Mem) := if ¬ (gI m 85 5) = 0 then bnd (sI m 85 5 ((gI m 85 5) - (1 : Int32))) (fun m1 => ck (gI m1 85 5) 40 (ck (gI m1 85 5) 40 (ck (gI m1 87 (ix (gI m1 85 5))) 42 (bnd (sI m1 86 (ix (gI m1 87 (ix (gI m1 85 5)))) (gI m1 88 (ix (gI m1 85 5)))) (fun m2 => some ((gI m2 85 5), m2)))))) else some ((-5 : Int32), m)
theorem k_X9_undo_E {g : Gx}   {Q : Qy} {m : Mem} {t : Int32 × Mem} (h : f_X9_undo m = some t) (hP : pI Q t) : WpM g 1 mi_X9_undo 0 [some (.ref 85)] [] m (zM g mi_X9_undo Q) := by
  refine wp_aload_n dX9_undo_0 rfl rfl ?_
  refine wm_getI dX9_undo_1 s_85 fk_X9_153 rfl rfl ?_
  refine wm_if_ne 10 dX9_undo_4 rfl rfl h (fun h => ?_) (fun h => ?_)
  · refine wp_aload_n dX9_undo_10 rfl rfl ?_
    refine wp_dup dX9_undo_11 rfl rfl ?_
    refine wm_getI dX9_undo_12 s_85 fk_X9_153 rfl rfl ?_
    refine wp_iconst (1 : Int32) dX9_undo_15 ic_1 rfl ?_
    refine wp_isub dX9_undo_16 rfl ?_
    refine wm_putI dX9_undo_17 s_85 fk_X9_153 rfl rfl h (fun m1 h => ?_)
    refine wp_aload_n dX9_undo_20 rfl rfl ?_
    refine wm_getR dX9_undo_21 s_85 fk_X9_9 rfl r_85_0 rfl ?_
    refine wp_aload_n dX9_undo_24 rfl rfl ?_
    refine wm_getR dX9_undo_25 s_85 fk_X9_13 rfl r_85_1 rfl ?_
    refine wp_aload_n dX9_undo_28 rfl rfl ?_
    refine wm_getI dX9_undo_29 s_85 fk_X9_153 rfl rfl ?_
    refine wm_iald dX9_undo_32 s_87 rfl h (fun h => ?_)
    refine wp_aload_n dX9_undo_33 rfl rfl ?_
    refine wm_getR dX9_undo_34 s_85 fk_X9_16 rfl r_85_2 rfl ?_
    refine wp_aload_n dX9_undo_37 rfl rfl ?_
    refine wm_getI dX9_undo_38 s_85 fk_X9_153 rfl rfl ?_
    refine wm_iald dX9_undo_41 s_88 rfl h (fun h => ?_)
    refine wm_iast dX9_undo_42 s_86 rfl h (fun m2 h => ?_)
    refine wp_aload_n dX9_undo_43 rfl rfl ?_
    refine wm_getI dX9_undo_44 s_85 fk_X9_153 rfl rfl ?_
    exact wm_iret dX9_undo_47 rfl ⟨rfl, rfl⟩ h hP
  · refine wp_bipush (-5 : Int32) dX9_undo_7 ib_m5 rfl ?_
    exact wm_iret dX9_undo_9 rfl ⟨rfl, rfl⟩ h hP
theorem o_X9_undo {g : Gx}   {m : Mem} {t : Int32 × Mem} (h : f_X9_undo m = some t) : MxM g 1 mi_X9_undo [.ref 85] m (qI t) := mx_of pn_X9 (Nat.le_of_ble_eq_true rfl) (k_X9_undo_E h ⟨rfl, rfl, rfl, rfl, rfl⟩)
abbrev A_X9_wish_24 (g : Gx)  (Q : Qy) (s : Int32 × Int32 × Int32 × Int32 × Mem) : Prop := WpM g 65 mi_X9_wish 24 [some (.ref 85), some (.int s.1), some (.int s.2.1), some (.int s.2.2.1), some (.int s.2.2.2.1)] [] s.2.2.2.2 (zM g mi_X9_wish Q)
abbrev P_X9_wish_24 (g : Gx)  (Q : Qy) : ((Int32 × Int32 × Int32 × Int32 × Mem) ⊕ (Int32 × Mem)) → Prop := pS (A_X9_wish_24 g Q) (pI Q)
noncomputable def f_X9_wish_L24  (s : Int32 × Int32 × Int32 × Int32 × Mem) : Option ((Int32 × Int32 × Int32 × Int32 × Mem) ⊕ (Int32 × Mem)) := if (gI s.2.2.2.2 85 9) ≤ s.2.2.2.1 then up ((f_X9_wishOf s.1 s.2.1 s.2.2.1 (0 : Int32) (0 : Int32) (0 : Int32) s.2.2.2.2).bind (fun q3 => some (q3.1, q3.2))) else ck s.2.2.2.1 20 (if ¬ (gI s.2.2.2.2 91 (ix s.2.2.2.1)) = s.2.1 then bnd (s.2.2.1 + (0 : Int32)) (fun y4 => bnd (s.2.2.2.1 + (1 : Int32)) (fun y5 => some (Sum.inl (s.1, s.2.1, y4, y5, s.2.2.2.2)))) else (f_X9_knows s.1 s.2.2.2.1 s.2.2.2.2).bind (fun q6 => if q6.1 = 0 then bnd (s.2.2.1 + (0 : Int32)) (fun y7 => bnd (s.2.2.2.1 + (1 : Int32)) (fun y8 => some (Sum.inl (s.1, s.2.1, y7, y8, q6.2)))) else bnd (s.2.2.1 + (1 : Int32)) (fun y9 => bnd (s.2.2.2.1 + (1 : Int32)) (fun y10 => some (Sum.inl (s.1, s.2.1, y9, y10, q6.2))))))
theorem k_X9_wish_L24 {g : Gx}  {Q : Qy} {s : Int32 × Int32 × Int32 × Int32 × Mem} {t : (Int32 × Int32 × Int32 × Int32 × Mem) ⊕ (Int32 × Mem)} (h : f_X9_wish_L24 s = some t) (hP : P_X9_wish_24 g Q t) : A_X9_wish_24 g Q s := by
  refine wp_iload dX9_wish_24 rfl rfl ?_
  refine wp_aload_n dX9_wish_26 rfl rfl ?_
  refine wm_getI dX9_wish_27 s_85 fk_X9_169 rfl rfl ?_
  refine wm_icmp_ge 68 dX9_wish_30 rfl rfl h (fun h => ?_) (fun h => ?_)
  · refine wm_up h hP (fun r h hP => ?_)
    refine wp_aload_n dX9_wish_68 rfl rfl ?_
    refine wp_iload_n dX9_wish_69 rfl rfl ?_
    refine wp_iload_n dX9_wish_70 rfl rfl ?_
    refine wp_iload_n dX9_wish_71 rfl rfl ?_
    refine wp_iconst (0 : Int32) dX9_wish_72 ic_0 rfl ?_
    refine wp_iconst (0 : Int32) dX9_wish_73 ic_0 rfl ?_
    refine wp_iconst (0 : Int32) dX9_wish_74 ic_0 rfl ?_
    refine wm_callVI (As := [.int s.1, .int s.2.1, .int s.2.2.1, .int (0 : Int32), .int (0 : Int32), .int (0 : Int32)]) (rest := []) dX9_wish_75 ok_X9_341 (by decide) rfl s_85 ⟨_, rfl⟩ (Nat.le_of_ble_eq_true rfl) ⟨rfl, rfl⟩ rfl (fun t h => o_X9_wishOf h) h (fun q3 h => ?_)
    exact wm_iret dX9_wish_78 rfl ⟨rfl, rfl⟩ h hP
  · refine wp_iload_n dX9_wish_33 rfl rfl ?_
    refine wp_aload_n dX9_wish_34 rfl rfl ?_
    refine wm_getR dX9_wish_35 s_85 fk_X9_25 rfl r_85_10 rfl ?_
    refine wp_iload dX9_wish_38 rfl rfl ?_
    refine wm_iald dX9_wish_40 s_91 rfl h (fun h => ?_)
    refine wp_iload_n dX9_wish_41 rfl rfl ?_
    refine wm_icmp_ne 59 dX9_wish_42 rfl rfl h (fun h => ?_) (fun h => ?_)
    · refine wp_iconst (0 : Int32) dX9_wish_59 ic_0 rfl ?_
      refine wp_iadd dX9_wish_60 rfl ?_
      refine wm_nm h (fun y4 h => ?_)
      refine wp_istore_n (L' := [some (.ref 85), some (.int s.1), some (.int s.2.1), some (.int y4), some (.int s.2.2.2.1)]) dX9_wish_61 (by decide) rfl rfl rfl ?_
      refine wm_inc dX9_wish_62 rfl ii_1 (by decide) rfl rfl h (fun y5 h => ?_)
      refine wm_list (L' := [some (.ref 85), some (.int s.1), some (.int s.2.1), some (.int y4), some (.int y5)]) rfl ?_
      refine wp_goto 24 dX9_wish_65 rfl ?_
      have hB := wm_back h hP
      exact wm_mask (L' := [some (.ref 85), some (.int s.1), some (.int s.2.1), some (.int y4), some (.int y5)]) [true, true, true, true, true] rfl (hB)
    · refine wp_aload_n dX9_wish_45 rfl rfl ?_
      refine wp_iload_n dX9_wish_46 rfl rfl ?_
      refine wp_iload dX9_wish_47 rfl rfl ?_
      refine wm_callVI (As := [.int s.1, .int s.2.2.2.1]) (rest := [.int s.2.2.1]) dX9_wish_49 ok_X9_292 (by decide) rfl s_85 ⟨_, rfl⟩ (Nat.le_of_ble_eq_true rfl) ⟨rfl, rfl⟩ rfl (fun t h => o_X9_knows h) h (fun q6 h => ?_)
      refine wm_if_eq 59 dX9_wish_52 rfl rfl h (fun h => ?_) (fun h => ?_)
      · refine wp_iconst (0 : Int32) dX9_wish_59 ic_0 rfl ?_
        refine wp_iadd dX9_wish_60 rfl ?_
        refine wm_nm h (fun y7 h => ?_)
        refine wp_istore_n (L' := [some (.ref 85), some (.int s.1), some (.int s.2.1), some (.int y7), some (.int s.2.2.2.1)]) dX9_wish_61 (by decide) rfl rfl rfl ?_
        refine wm_inc dX9_wish_62 rfl ii_1 (by decide) rfl rfl h (fun y8 h => ?_)
        refine wm_list (L' := [some (.ref 85), some (.int s.1), some (.int s.2.1), some (.int y7), some (.int y8)]) rfl ?_
        refine wp_goto 24 dX9_wish_65 rfl ?_
        have hB := wm_back h hP
        exact wm_mask (L' := [some (.ref 85), some (.int s.1), some (.int s.2.1), some (.int y7), some (.int y8)]) [true, true, true, true, true] rfl (hB)
      · refine wp_iconst (1 : Int32) dX9_wish_55 ic_1 rfl ?_
        refine wp_goto 60 dX9_wish_56 rfl ?_
        refine wp_iadd dX9_wish_60 rfl ?_
        refine wm_nm h (fun y9 h => ?_)
        refine wp_istore_n (L' := [some (.ref 85), some (.int s.1), some (.int s.2.1), some (.int y9), some (.int s.2.2.2.1)]) dX9_wish_61 (by decide) rfl rfl rfl ?_
        refine wm_inc dX9_wish_62 rfl ii_1 (by decide) rfl rfl h (fun y10 h => ?_)
        refine wm_list (L' := [some (.ref 85), some (.int s.1), some (.int s.2.1), some (.int y9), some (.int y10)]) rfl ?_
        refine wp_goto 24 dX9_wish_65 rfl ?_
        have hB := wm_back h hP
        exact wm_mask (L' := [some (.ref 85), some (.int s.1), some (.int s.2.1), some (.int y9), some (.int y10)]) [true, true, true, true, true] rfl (hB)
noncomputable def f_X9_wish  (p1 : Int32) (p2 : Int32) (m : Mem) : Option (Int32 × Mem) := (f_X9_isPerson p1 m).bind (fun q1 => if q1.1 = 0 then some ((-2000000000 : Int32), q1.2) else (f_X9_isThing p2 q1.2).bind (fun q2 => if ¬ q2.1 = 0 then wh (f_X9_wish_L24) (p1, p2, (0 : Int32), (0 : Int32), q2.2) else some ((-2000000000 : Int32), q2.2)))
theorem k_X9_wish_E {g : Gx}  {p1 : Int32} {p2 : Int32} {Q : Qy} {m : Mem} {t : Int32 × Mem} (h : f_X9_wish p1 p2 m = some t) (hP : pI Q t) : WpM g 65 mi_X9_wish 0 [some (.ref 85), some (.int p1), some (.int p2), none, none] [] m (zM g mi_X9_wish Q) := by
  refine wp_aload_n dX9_wish_0 rfl rfl ?_
  refine wp_iload_n dX9_wish_1 rfl rfl ?_
  refine wm_callVI (As := [.int p1]) (rest := []) dX9_wish_2 ok_X9_211 (by decide) rfl s_85 ⟨_, rfl⟩ (Nat.le_of_ble_eq_true rfl) ⟨rfl, rfl⟩ rfl (fun t h => o_X9_isPerson h) h (fun q1 h => ?_)
  refine wm_if_eq 16 dX9_wish_5 rfl rfl h (fun h => ?_) (fun h => ?_)
  · refine wp_ldc dX9_wish_16 q1448 rfl ?_
    exact wm_iret dX9_wish_18 rfl ⟨rfl, rfl⟩ h hP
  · refine wp_aload_n dX9_wish_8 rfl rfl ?_
    refine wp_iload_n dX9_wish_9 rfl rfl ?_
    refine wm_callVI (As := [.int p2]) (rest := []) dX9_wish_10 ok_X9_219 (by decide) rfl s_85 ⟨_, rfl⟩ (Nat.le_of_ble_eq_true rfl) ⟨rfl, rfl⟩ rfl (fun t h => o_X9_isThing h) h (fun q2 h => ?_)
    refine wm_if_ne 19 dX9_wish_13 rfl rfl h (fun h => ?_) (fun h => ?_)
    · refine wp_iconst (0 : Int32) dX9_wish_19 ic_0 rfl ?_
      refine wp_istore_n (L' := [some (.ref 85), some (.int p1), some (.int p2), some (.int (0 : Int32)), none]) dX9_wish_20 (by decide) rfl rfl rfl ?_
      refine wp_iconst (0 : Int32) dX9_wish_21 ic_0 rfl ?_
      refine wp_istore (L' := [some (.ref 85), some (.int p1), some (.int p2), some (.int (0 : Int32)), some (.int (0 : Int32))]) dX9_wish_22 (by decide) rfl rfl rfl ?_
      have hB := wh_ok (A := A_X9_wish_24 g Q) (B := pI Q) (fun s t h hP => k_X9_wish_L24  h hP) h hP
      exact wm_mask (L' := [some (.ref 85), some (.int p1), some (.int p2), some (.int (0 : Int32)), some (.int (0 : Int32))]) [true, true, true, true, true] rfl (hB)
    · refine wp_ldc dX9_wish_16 q1448 rfl ?_
      exact wm_iret dX9_wish_18 rfl ⟨rfl, rfl⟩ h hP
theorem o_X9_wish {g : Gx}  {p1 : Int32} {p2 : Int32} {m : Mem} {t : Int32 × Mem} (h : f_X9_wish p1 p2 m = some t) : MxM g 65 mi_X9_wish [.ref 85, .int p1, .int p2] m (qI t) := mx_of pn_X9 (Nat.le_of_ble_eq_true rfl) (k_X9_wish_E h ⟨rfl, rfl, rfl, rfl, rfl⟩)
