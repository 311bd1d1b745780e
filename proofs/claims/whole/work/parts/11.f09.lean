noncomputable def f_X9_keep_J22  (v1 : Int32) (v2 : Int32) (m : Mem) : Option (Int32 × Mem) := ck v1 6 (bnd (sI m 126 (ix v1) v2) (fun m2 => ck v1 6 (bnd (sI m2 127 (ix v1) (0 : Int32)) (fun m3 => some ((1 : Int32), m3)))))
theorem k_X9_keep_J22 {g : Gx}  {v1 : Int32} {v2 : Int32}  {Q : Qy} {m : Mem} {t : Int32 × Mem} (h : f_X9_keep_J22 v1 v2 m = some t) (hP : pI Q t) : WpM g 3 mi_X9_keep 22 [some (.ref 85), some (.int v1), some (.int v2)] [] m (zM g mi_X9_keep Q) := by
  refine wp_aload_n dX9_keep_22 rfl rfl ?_
  refine wm_getR dX9_keep_23 s_85 fk_X9_130 rfl r_85_72 rfl ?_
  refine wp_iload_n dX9_keep_26 rfl rfl ?_
  refine wp_iload_n dX9_keep_27 rfl rfl ?_
  refine wm_iast dX9_keep_28 s_126 rfl h (fun m2 h => ?_)
  refine wp_aload_n dX9_keep_29 rfl rfl ?_
  refine wm_getR dX9_keep_30 s_85 fk_X9_133 rfl r_85_73 rfl ?_
  refine wp_iload_n dX9_keep_33 rfl rfl ?_
  refine wp_iconst (0 : Int32) dX9_keep_34 ic_0 rfl ?_
  refine wm_iast dX9_keep_35 s_127 rfl h (fun m3 h => ?_)
  refine wp_iconst (1 : Int32) dX9_keep_36 ic_1 rfl ?_
  exact wm_iret dX9_keep_37 rfl ⟨rfl, rfl⟩ h hP
noncomputable def f_X9_keep  (p1 : Int32) (p2 : Int32) (m : Mem) : Option (Int32 × Mem) := (f_X9_isShelf p1 m).bind (fun q1 => if q1.1 = 0 then some ((-1 : Int32), q1.2) else if p2 = (-1 : Int32) then f_X9_keep_J22 p1 p2 q1.2 else (f_X9_isBody p2 q1.2).bind (fun q4 => if ¬ q4.1 = 0 then f_X9_keep_J22 p1 p2 q4.2 else some ((-1 : Int32), q4.2)))
theorem k_X9_keep_E {g : Gx}  {p1 : Int32} {p2 : Int32} {Q : Qy} {m : Mem} {t : Int32 × Mem} (h : f_X9_keep p1 p2 m = some t) (hP : pI Q t) : WpM g 3 mi_X9_keep 0 [some (.ref 85), some (.int p1), some (.int p2)] [] m (zM g mi_X9_keep Q) := by
  refine wp_iload_n dX9_keep_0 rfl rfl ?_
  refine wm_callSI (As := [.int p1]) (rest := []) dX9_keep_1 ok_X9_198 (by decide) rfl (Nat.le_of_ble_eq_true rfl) ⟨rfl, rfl⟩ rfl (fun t h => o_X9_isShelf h) h (fun q1 h => ?_)
  refine wm_if_eq 20 dX9_keep_4 rfl rfl h (fun h => ?_) (fun h => ?_)
  · refine wp_iconst (-1 : Int32) dX9_keep_20 ic_m1 rfl ?_
    exact wm_iret dX9_keep_21 rfl ⟨rfl, rfl⟩ h hP
  · refine wp_iload_n dX9_keep_7 rfl rfl ?_
    refine wp_iconst (-1 : Int32) dX9_keep_8 ic_m1 rfl ?_
    refine wm_icmp_eq 22 dX9_keep_9 rfl rfl h (fun h => ?_) (fun h => ?_)
    · exact wm_mask (L' := [some (.ref 85), some (.int p1), some (.int p2)]) [true, true, true] rfl (k_X9_keep_J22  h hP)
    · refine wp_aload_n dX9_keep_12 rfl rfl ?_
      refine wp_iload_n dX9_keep_13 rfl rfl ?_
      refine wm_callVI (As := [.int p2]) (rest := []) dX9_keep_14 ok_X9_473 (by decide) rfl s_85 ⟨_, rfl⟩ (Nat.le_of_ble_eq_true rfl) ⟨rfl, rfl⟩ rfl (fun t h => o_X9_isBody h) h (fun q4 h => ?_)
      refine wm_if_ne 22 dX9_keep_17 rfl rfl h (fun h => ?_) (fun h => ?_)
      · exact wm_mask (L' := [some (.ref 85), some (.int p1), some (.int p2)]) [true, true, true] rfl (k_X9_keep_J22  h hP)
      · refine wp_iconst (-1 : Int32) dX9_keep_20 ic_m1 rfl ?_
        exact wm_iret dX9_keep_21 rfl ⟨rfl, rfl⟩ h hP
theorem o_X9_keep {g : Gx}  {p1 : Int32} {p2 : Int32} {m : Mem} {t : Int32 × Mem} (h : f_X9_keep p1 p2 m = some t) : MxM g 3 mi_X9_keep [.ref 85, .int p1, .int p2] m (qI t) := mx_of pn_X9 (Nat.le_of_ble_eq_true rfl) (k_X9_keep_E h ⟨rfl, rfl, rfl, rfl, rfl⟩)
abbrev A_X9_keepsRows_34 (g : Gx)  (Q : Qy) (s : Int32 × Mem) : Prop := WpM g 3 mi_X9_keepsRows 34 [some (.ref 85), some (.int s.1)] [] s.2 (zM g mi_X9_keepsRows Q)
abbrev P_X9_keepsRows_34 (g : Gx)  (Q : Qy) : ((Int32 × Mem) ⊕ Mem) → Prop := pS (A_X9_keepsRows_34 g Q) (pV Q)
abbrev A_X9_keepsRows_134 (g : Gx)  (Q : Qy) (s : Int32 × Mem) : Prop := WpM g 3 mi_X9_keepsRows 134 [some (.ref 85), some (.int s.1)] [] s.2 (zM g mi_X9_keepsRows Q)
abbrev P_X9_keepsRows_134 (g : Gx)  (Q : Qy) : ((Int32 × Mem) ⊕ Mem) → Prop := pS (A_X9_keepsRows_134 g Q) (pV Q)
abbrev A_X9_keepsRows_173 (g : Gx)  (Q : Qy) (s : Int32 × Mem) : Prop := WpM g 3 mi_X9_keepsRows 173 [some (.ref 85), some (.int s.1)] [] s.2 (zM g mi_X9_keepsRows Q)
abbrev P_X9_keepsRows_173 (g : Gx)  (Q : Qy) : ((Int32 × Mem) ⊕ Mem) → Prop := pS (A_X9_keepsRows_173 g Q) (pV Q)
abbrev A_X9_keepsRows_213 (g : Gx)  (Q : Qy) (s : Int32 × Mem) : Prop := WpM g 3 mi_X9_keepsRows 213 [some (.ref 85), some (.int s.1)] [] s.2 (zM g mi_X9_keepsRows Q)
abbrev P_X9_keepsRows_213 (g : Gx)  (Q : Qy) : ((Int32 × Mem) ⊕ Mem) → Prop := pS (A_X9_keepsRows_213 g Q) (pV Q)
noncomputable def f_X9_keepsRows_L213  (s : Int32 × Mem) : Option ((Int32 × Mem) ⊕ Mem) := if (gI s.2 85 6) ≤ s.1 then up (some s.2) else (f_X9_thereFor s.1 s.2).bind (fun q5 => ck s.1 10 (bnd (sI q5.2 123 (ix s.1) q5.1) (fun m6 => bnd (s.1 + (1 : Int32)) (fun y7 => some (Sum.inl (y7, m6))))))
theorem k_X9_keepsRows_L213 {g : Gx}  {Q : Qy} {s : Int32 × Mem} {t : (Int32 × Mem) ⊕ Mem} (h : f_X9_keepsRows_L213 s = some t) (hP : P_X9_keepsRows_213 g Q t) : A_X9_keepsRows_213 g Q s := by
  refine wp_iload_n dX9_keepsRows_213 rfl rfl ?_
  refine wp_aload_n dX9_keepsRows_214 rfl rfl ?_
  refine wm_getI dX9_keepsRows_215 s_85 fk_X9_159 rfl rfl ?_
  refine wm_icmp_ge 238 dX9_keepsRows_218 rfl rfl h (fun h => ?_) (fun h => ?_)
  · refine wm_up h hP (fun r h hP => ?_)
    exact wm_vret dX9_keepsRows_238 rfl ⟨rfl, rfl⟩ h hP
  · refine wp_aload_n dX9_keepsRows_221 rfl rfl ?_
    refine wm_getR dX9_keepsRows_222 s_85 fk_X9_121 rfl r_85_62 rfl ?_
    refine wp_iload_n dX9_keepsRows_225 rfl rfl ?_
    refine wp_aload_n dX9_keepsRows_226 rfl rfl ?_
    refine wp_iload_n dX9_keepsRows_227 rfl rfl ?_
    refine wm_callVI (As := [.int s.1]) (rest := [.int s.1, .ref 123]) dX9_keepsRows_228 ok_X9_370 (by decide) rfl s_85 ⟨_, rfl⟩ (Nat.le_of_ble_eq_true rfl) ⟨rfl, rfl⟩ rfl (fun t h => o_X9_thereFor h) h (fun q5 h => ?_)
    refine wm_iast dX9_keepsRows_231 s_123 rfl h (fun m6 h => ?_)
    refine wm_inc dX9_keepsRows_232 rfl ii_1 (by decide) rfl rfl h (fun y7 h => ?_)
    refine wm_list (L' := [some (.ref 85), some (.int y7)]) rfl ?_
    refine wp_goto 213 dX9_keepsRows_235 rfl ?_
    have hB := wm_back h hP
    exact wm_mask (L' := [some (.ref 85), some (.int y7)]) [true, true] rfl (hB)
noncomputable def f_X9_keepsRows_L173  (s : Int32 × Mem) : Option ((Int32 × Mem) ⊕ Mem) := if (gI s.2 85 9) ≤ s.1 then up (wh (f_X9_keepsRows_L213) ((0 : Int32), s.2)) else ck s.1 20 (ck s.1 20 (bnd (sI s.2 121 (ix s.1) (gI s.2 100 (ix s.1))) (fun m8 => ck s.1 20 (ck s.1 20 (bnd (sI m8 122 (ix s.1) (gI m8 101 (ix s.1))) (fun m9 => bnd (s.1 + (1 : Int32)) (fun y10 => some (Sum.inl (y10, m9)))))))))
theorem k_X9_keepsRows_L173 {g : Gx}  {Q : Qy} {s : Int32 × Mem} {t : (Int32 × Mem) ⊕ Mem} (h : f_X9_keepsRows_L173 s = some t) (hP : P_X9_keepsRows_173 g Q t) : A_X9_keepsRows_173 g Q s := by
  refine wp_iload_n dX9_keepsRows_173 rfl rfl ?_
  refine wp_aload_n dX9_keepsRows_174 rfl rfl ?_
  refine wm_getI dX9_keepsRows_175 s_85 fk_X9_169 rfl rfl ?_
  refine wm_icmp_ge 211 dX9_keepsRows_178 rfl rfl h (fun h => ?_) (fun h => ?_)
  · refine wm_up h hP (fun r h hP => ?_)
    refine wp_iconst (0 : Int32) dX9_keepsRows_211 ic_0 rfl ?_
    refine wp_istore_n (L' := [some (.ref 85), some (.int (0 : Int32))]) dX9_keepsRows_212 (by decide) rfl rfl rfl ?_
    have hB := wh_ok (A := A_X9_keepsRows_213 g Q) (B := pV Q) (fun s t h hP => k_X9_keepsRows_L213  h hP) h hP
    exact wm_mask (L' := [some (.ref 85), some (.int (0 : Int32))]) [true, true] rfl (hB)
  · refine wp_aload_n dX9_keepsRows_181 rfl rfl ?_
    refine wm_getR dX9_keepsRows_182 s_85 fk_X9_115 rfl r_85_60 rfl ?_
    refine wp_iload_n dX9_keepsRows_185 rfl rfl ?_
    refine wp_aload_n dX9_keepsRows_186 rfl rfl ?_
    refine wm_getR dX9_keepsRows_187 s_85 fk_X9_52 rfl r_85_35 rfl ?_
    refine wp_iload_n dX9_keepsRows_190 rfl rfl ?_
    refine wm_iald dX9_keepsRows_191 s_100 rfl h (fun h => ?_)
    refine wm_iast dX9_keepsRows_192 s_121 rfl h (fun m8 h => ?_)
    refine wp_aload_n dX9_keepsRows_193 rfl rfl ?_
    refine wm_getR dX9_keepsRows_194 s_85 fk_X9_118 rfl r_85_61 rfl ?_
    refine wp_iload_n dX9_keepsRows_197 rfl rfl ?_
    refine wp_aload_n dX9_keepsRows_198 rfl rfl ?_
    refine wm_getR dX9_keepsRows_199 s_85 fk_X9_55 rfl r_85_36 rfl ?_
    refine wp_iload_n dX9_keepsRows_202 rfl rfl ?_
    refine wm_iald dX9_keepsRows_203 s_101 rfl h (fun h => ?_)
    refine wm_iast dX9_keepsRows_204 s_122 rfl h (fun m9 h => ?_)
    refine wm_inc dX9_keepsRows_205 rfl ii_1 (by decide) rfl rfl h (fun y10 h => ?_)
    refine wm_list (L' := [some (.ref 85), some (.int y10)]) rfl ?_
    refine wp_goto 173 dX9_keepsRows_208 rfl ?_
    have hB := wm_back h hP
    exact wm_mask (L' := [some (.ref 85), some (.int y10)]) [true, true] rfl (hB)
noncomputable def f_X9_keepsRows_L134  (s : Int32 × Mem) : Option ((Int32 × Mem) ⊕ Mem) := if (gI s.2 85 8) ≤ s.1 then up (wh (f_X9_keepsRows_L173) ((0 : Int32), s.2)) else ck s.1 6 (ck s.1 6 (bnd (sI s.2 119 (ix s.1) (gI s.2 102 (ix s.1))) (fun m11 => (f_X9_comesTo s.1 m11).bind (fun q12 => ck s.1 6 (bnd (sI q12.2 120 (ix s.1) q12.1) (fun m13 => bnd (s.1 + (1 : Int32)) (fun y14 => some (Sum.inl (y14, m13)))))))))
theorem k_X9_keepsRows_L134 {g : Gx}  {Q : Qy} {s : Int32 × Mem} {t : (Int32 × Mem) ⊕ Mem} (h : f_X9_keepsRows_L134 s = some t) (hP : P_X9_keepsRows_134 g Q t) : A_X9_keepsRows_134 g Q s := by
  refine wp_iload_n dX9_keepsRows_134 rfl rfl ?_
  refine wp_aload_n dX9_keepsRows_135 rfl rfl ?_
  refine wm_getI dX9_keepsRows_136 s_85 fk_X9_166 rfl rfl ?_
  refine wm_icmp_ge 171 dX9_keepsRows_139 rfl rfl h (fun h => ?_) (fun h => ?_)
  · refine wm_up h hP (fun r h hP => ?_)
    refine wp_iconst (0 : Int32) dX9_keepsRows_171 ic_0 rfl ?_
    refine wp_istore_n (L' := [some (.ref 85), some (.int (0 : Int32))]) dX9_keepsRows_172 (by decide) rfl rfl rfl ?_
    have hB := wh_ok (A := A_X9_keepsRows_173 g Q) (B := pV Q) (fun s t h hP => k_X9_keepsRows_L173  h hP) h hP
    exact wm_mask (L' := [some (.ref 85), some (.int (0 : Int32))]) [true, true] rfl (hB)
  · refine wp_aload_n dX9_keepsRows_142 rfl rfl ?_
    refine wm_getR dX9_keepsRows_143 s_85 fk_X9_109 rfl r_85_58 rfl ?_
    refine wp_iload_n dX9_keepsRows_146 rfl rfl ?_
    refine wp_aload_n dX9_keepsRows_147 rfl rfl ?_
    refine wm_getR dX9_keepsRows_148 s_85 fk_X9_58 rfl r_85_37 rfl ?_
    refine wp_iload_n dX9_keepsRows_151 rfl rfl ?_
    refine wm_iald dX9_keepsRows_152 s_102 rfl h (fun h => ?_)
    refine wm_iast dX9_keepsRows_153 s_119 rfl h (fun m11 h => ?_)
    refine wp_aload_n dX9_keepsRows_154 rfl rfl ?_
    refine wm_getR dX9_keepsRows_155 s_85 fk_X9_112 rfl r_85_59 rfl ?_
    refine wp_iload_n dX9_keepsRows_158 rfl rfl ?_
    refine wp_aload_n dX9_keepsRows_159 rfl rfl ?_
    refine wp_iload_n dX9_keepsRows_160 rfl rfl ?_
    refine wm_callVI (As := [.int s.1]) (rest := [.int s.1, .ref 120]) dX9_keepsRows_161 ok_X9_355 (by decide) rfl s_85 ⟨_, rfl⟩ (Nat.le_of_ble_eq_true rfl) ⟨rfl, rfl⟩ rfl (fun t h => o_X9_comesTo h) h (fun q12 h => ?_)
    refine wm_iast dX9_keepsRows_164 s_120 rfl h (fun m13 h => ?_)
    refine wm_inc dX9_keepsRows_165 rfl ii_1 (by decide) rfl rfl h (fun y14 h => ?_)
    refine wm_list (L' := [some (.ref 85), some (.int y14)]) rfl ?_
    refine wp_goto 134 dX9_keepsRows_168 rfl ?_
    have hB := wm_back h hP
    exact wm_mask (L' := [some (.ref 85), some (.int y14)]) [true, true] rfl (hB)
noncomputable def f_X9_keepsRows_L34  (s : Int32 × Mem) : Option ((Int32 × Mem) ⊕ Mem) := if (gI s.2 85 30) ≤ s.1 then up (wh (f_X9_keepsRows_L134) ((0 : Int32), s.2)) else ck s.1 200 (ck s.1 200 (bnd (sI s.2 112 (ix s.1) (gI s.2 104 (ix s.1))) (fun m15 => ck s.1 200 (ck s.1 200 (bnd (sI m15 113 (ix s.1) (gI m15 105 (ix s.1))) (fun m16 => ck s.1 200 (ck s.1 200 (bnd (sI m16 114 (ix s.1) (gI m16 106 (ix s.1))) (fun m17 => ck s.1 200 (ck s.1 200 (bnd (sI m17 115 (ix s.1) (gI m17 107 (ix s.1))) (fun m18 => ck s.1 200 (ck s.1 200 (bnd (sI m18 116 (ix s.1) (gI m18 108 (ix s.1))) (fun m19 => ck s.1 200 (ck s.1 200 (bnd (sI m19 117 (ix s.1) (gI m19 109 (ix s.1))) (fun m20 => ck s.1 200 (ck s.1 200 (bnd (sI m20 118 (ix s.1) (gI m20 110 (ix s.1))) (fun m21 => bnd (s.1 + (1 : Int32)) (fun y22 => some (Sum.inl (y22, m21))))))))))))))))))))))))
theorem k_X9_keepsRows_L34 {g : Gx}  {Q : Qy} {s : Int32 × Mem} {t : (Int32 × Mem) ⊕ Mem} (h : f_X9_keepsRows_L34 s = some t) (hP : P_X9_keepsRows_34 g Q t) : A_X9_keepsRows_34 g Q s := by
  refine wp_iload_n dX9_keepsRows_34 rfl rfl ?_
  refine wp_aload_n dX9_keepsRows_35 rfl rfl ?_
  refine wm_getI dX9_keepsRows_36 s_85 fk_X9_321 rfl rfl ?_
  refine wm_icmp_ge 132 dX9_keepsRows_39 rfl rfl h (fun h => ?_) (fun h => ?_)
  · refine wm_up h hP (fun r h hP => ?_)
    refine wp_iconst (0 : Int32) dX9_keepsRows_132 ic_0 rfl ?_
    refine wp_istore_n (L' := [some (.ref 85), some (.int (0 : Int32))]) dX9_keepsRows_133 (by decide) rfl rfl rfl ?_
    have hB := wh_ok (A := A_X9_keepsRows_134 g Q) (B := pV Q) (fun s t h hP => k_X9_keepsRows_L134  h hP) h hP
    exact wm_mask (L' := [some (.ref 85), some (.int (0 : Int32))]) [true, true] rfl (hB)
  · refine wp_aload_n dX9_keepsRows_42 rfl rfl ?_
    refine wm_getR dX9_keepsRows_43 s_85 fk_X9_88 rfl r_85_51 rfl ?_
    refine wp_iload_n dX9_keepsRows_46 rfl rfl ?_
    refine wp_aload_n dX9_keepsRows_47 rfl rfl ?_
    refine wm_getR dX9_keepsRows_48 s_85 fk_X9_64 rfl r_85_39 rfl ?_
    refine wp_iload_n dX9_keepsRows_51 rfl rfl ?_
    refine wm_iald dX9_keepsRows_52 s_104 rfl h (fun h => ?_)
    refine wm_iast dX9_keepsRows_53 s_112 rfl h (fun m15 h => ?_)
    refine wp_aload_n dX9_keepsRows_54 rfl rfl ?_
    refine wm_getR dX9_keepsRows_55 s_85 fk_X9_91 rfl r_85_52 rfl ?_
    refine wp_iload_n dX9_keepsRows_58 rfl rfl ?_
    refine wp_aload_n dX9_keepsRows_59 rfl rfl ?_
    refine wm_getR dX9_keepsRows_60 s_85 fk_X9_67 rfl r_85_40 rfl ?_
    refine wp_iload_n dX9_keepsRows_63 rfl rfl ?_
    refine wm_iald dX9_keepsRows_64 s_105 rfl h (fun h => ?_)
    refine wm_iast dX9_keepsRows_65 s_113 rfl h (fun m16 h => ?_)
    refine wp_aload_n dX9_keepsRows_66 rfl rfl ?_
    refine wm_getR dX9_keepsRows_67 s_85 fk_X9_94 rfl r_85_53 rfl ?_
    refine wp_iload_n dX9_keepsRows_70 rfl rfl ?_
    refine wp_aload_n dX9_keepsRows_71 rfl rfl ?_
    refine wm_getR dX9_keepsRows_72 s_85 fk_X9_70 rfl r_85_41 rfl ?_
    refine wp_iload_n dX9_keepsRows_75 rfl rfl ?_
    refine wm_iald dX9_keepsRows_76 s_106 rfl h (fun h => ?_)
    refine wm_iast dX9_keepsRows_77 s_114 rfl h (fun m17 h => ?_)
    refine wp_aload_n dX9_keepsRows_78 rfl rfl ?_
    refine wm_getR dX9_keepsRows_79 s_85 fk_X9_97 rfl r_85_54 rfl ?_
    refine wp_iload_n dX9_keepsRows_82 rfl rfl ?_
    refine wp_aload_n dX9_keepsRows_83 rfl rfl ?_
    refine wm_getR dX9_keepsRows_84 s_85 fk_X9_73 rfl r_85_42 rfl ?_
    refine wp_iload_n dX9_keepsRows_87 rfl rfl ?_
    refine wm_iald dX9_keepsRows_88 s_107 rfl h (fun h => ?_)
    refine wm_iast dX9_keepsRows_89 s_115 rfl h (fun m18 h => ?_)
    refine wp_aload_n dX9_keepsRows_90 rfl rfl ?_
    refine wm_getR dX9_keepsRows_91 s_85 fk_X9_100 rfl r_85_55 rfl ?_
    refine wp_iload_n dX9_keepsRows_94 rfl rfl ?_
    refine wp_aload_n dX9_keepsRows_95 rfl rfl ?_
    refine wm_getR dX9_keepsRows_96 s_85 fk_X9_76 rfl r_85_43 rfl ?_
    refine wp_iload_n dX9_keepsRows_99 rfl rfl ?_
    refine wm_iald dX9_keepsRows_100 s_108 rfl h (fun h => ?_)
    refine wm_iast dX9_keepsRows_101 s_116 rfl h (fun m19 h => ?_)
    refine wp_aload_n dX9_keepsRows_102 rfl rfl ?_
    refine wm_getR dX9_keepsRows_103 s_85 fk_X9_103 rfl r_85_56 rfl ?_
    refine wp_iload_n dX9_keepsRows_106 rfl rfl ?_
    refine wp_aload_n dX9_keepsRows_107 rfl rfl ?_
    refine wm_getR dX9_keepsRows_108 s_85 fk_X9_79 rfl r_85_44 rfl ?_
    refine wp_iload_n dX9_keepsRows_111 rfl rfl ?_
    refine wm_iald dX9_keepsRows_112 s_109 rfl h (fun h => ?_)
    refine wm_iast dX9_keepsRows_113 s_117 rfl h (fun m20 h => ?_)
    refine wp_aload_n dX9_keepsRows_114 rfl rfl ?_
    refine wm_getR dX9_keepsRows_115 s_85 fk_X9_106 rfl r_85_57 rfl ?_
    refine wp_iload_n dX9_keepsRows_118 rfl rfl ?_
    refine wp_aload_n dX9_keepsRows_119 rfl rfl ?_
    refine wm_getR dX9_keepsRows_120 s_85 fk_X9_82 rfl r_85_45 rfl ?_
    refine wp_iload_n dX9_keepsRows_123 rfl rfl ?_
    refine wm_iald dX9_keepsRows_124 s_110 rfl h (fun h => ?_)
    refine wm_iast dX9_keepsRows_125 s_118 rfl h (fun m21 h => ?_)
    refine wm_inc dX9_keepsRows_126 rfl ii_1 (by decide) rfl rfl h (fun y22 h => ?_)
    refine wm_list (L' := [some (.ref 85), some (.int y22)]) rfl ?_
    refine wp_goto 34 dX9_keepsRows_129 rfl ?_
    have hB := wm_back h hP
    exact wm_mask (L' := [some (.ref 85), some (.int y22)]) [true, true] rfl (hB)
noncomputable def f_X9_keepsRows   (m : Mem) : Option Mem := bnd (sI m 85 46 (gI m 85 30)) (fun m1 => bnd (sI m1 85 47 (gI m1 85 6)) (fun m2 => bnd (sI m2 85 48 (gI m2 85 8)) (fun m3 => bnd (sI m3 85 49 (gI m3 85 9)) (fun m4 => wh (f_X9_keepsRows_L34) ((0 : Int32), m4)))))
theorem k_X9_keepsRows_E {g : Gx}   {Q : Qy} {m : Mem} {t : Mem} (h : f_X9_keepsRows m = some t) (hP : pV Q t) : WpM g 3 mi_X9_keepsRows 0 [some (.ref 85), none] [] m (zM g mi_X9_keepsRows Q) := by
  refine wp_aload_n dX9_keepsRows_0 rfl rfl ?_
  refine wp_aload_n dX9_keepsRows_1 rfl rfl ?_
  refine wm_getI dX9_keepsRows_2 s_85 fk_X9_321 rfl rfl ?_
  refine wm_putI dX9_keepsRows_5 s_85 fk_X9_150 rfl rfl h (fun m1 h => ?_)
  refine wp_aload_n dX9_keepsRows_8 rfl rfl ?_
  refine wp_aload_n dX9_keepsRows_9 rfl rfl ?_
  refine wm_getI dX9_keepsRows_10 s_85 fk_X9_159 rfl rfl ?_
  refine wm_putI dX9_keepsRows_13 s_85 fk_X9_379 rfl rfl h (fun m2 h => ?_)
  refine wp_aload_n dX9_keepsRows_16 rfl rfl ?_
  refine wp_aload_n dX9_keepsRows_17 rfl rfl ?_
  refine wm_getI dX9_keepsRows_18 s_85 fk_X9_166 rfl rfl ?_
  refine wm_putI dX9_keepsRows_21 s_85 fk_X9_382 rfl rfl h (fun m3 h => ?_)
  refine wp_aload_n dX9_keepsRows_24 rfl rfl ?_
  refine wp_aload_n dX9_keepsRows_25 rfl rfl ?_
  refine wm_getI dX9_keepsRows_26 s_85 fk_X9_169 rfl rfl ?_
  refine wm_putI dX9_keepsRows_29 s_85 fk_X9_385 rfl rfl h (fun m4 h => ?_)
  refine wp_iconst (0 : Int32) dX9_keepsRows_32 ic_0 rfl ?_
  refine wp_istore_n (L' := [some (.ref 85), some (.int (0 : Int32))]) dX9_keepsRows_33 (by decide) rfl rfl rfl ?_
  have hB := wh_ok (A := A_X9_keepsRows_34 g Q) (B := pV Q) (fun s t h hP => k_X9_keepsRows_L34  h hP) h hP
  exact wm_mask (L' := [some (.ref 85), some (.int (0 : Int32))]) [true, true] rfl (hB)
theorem o_X9_keepsRows {g : Gx}   {m : Mem} {t : Mem} (h : f_X9_keepsRows m = some t) : MxM g 3 mi_X9_keepsRows [.ref 85] m (qV t) := mx_of pn_X9 (Nat.le_of_ble_eq_true rfl) (k_X9_keepsRows_E h ⟨rfl, rfl, rfl, rfl, rfl⟩)
noncomputable def f_X9_kindOf  (p1 : Int32) (m : Mem) : Option (Int32 × Mem) := ck p1 50 (some ((gI m 124 (ix p1)), m))
theorem k_X9_kindOf_E {g : Gx}  {p1 : Int32} {Q : Qy} {m : Mem} {t : Int32 × Mem} (h : f_X9_kindOf p1 m = some t) (hP : pI Q t) : WpM g 1 mi_X9_kindOf 0 [some (.ref 85), some (.int p1)] [] m (zM g mi_X9_kindOf Q) := by
  refine wp_aload_n dX9_kindOf_0 rfl rfl ?_
  refine wm_getR dX9_kindOf_1 s_85 fk_X9_124 rfl r_85_67 rfl ?_
  refine wp_iload_n dX9_kindOf_4 rfl rfl ?_
  refine wm_iald dX9_kindOf_5 s_124 rfl h (fun h => ?_)
  exact wm_iret dX9_kindOf_6 rfl ⟨rfl, rfl⟩ h hP
theorem o_X9_kindOf {g : Gx}  {p1 : Int32} {m : Mem} {t : Int32 × Mem} (h : f_X9_kindOf p1 m = some t) : MxM g 1 mi_X9_kindOf [.ref 85, .int p1] m (qI t) := mx_of pn_X9 (Nat.le_of_ble_eq_true rfl) (k_X9_kindOf_E h ⟨rfl, rfl, rfl, rfl, rfl⟩)
abbrev A_X9_law_37 (g : Gx)  (Q : Qy) (s : Int32 × Int32 × Mem) : Prop := WpM g 64 mi_X9_law 37 [some (.ref 85), none, some (.int s.1), some (.int s.2.1)] [] s.2.2 (zM g mi_X9_law Q)
abbrev P_X9_law_37 (g : Gx)  (Q : Qy) : ((Int32 × Int32 × Mem) ⊕ (Int32 × Mem)) → Prop := pS (A_X9_law_37 g Q) (pI Q)
noncomputable def f_X9_law_L37  (s : Int32 × Int32 × Mem) : Option ((Int32 × Int32 × Mem) ⊕ (Int32 × Mem)) := if s.1 ≤ s.2.1 then up (bnd (sI s.2.2 85 19 s.1) (fun m4 => some ((1 : Int32), m4))) else ck s.2.1 120 (ck s.2.1 120 (bnd (sI s.2.2 95 (ix s.2.1) (gI s.2.2 94 (ix s.2.1))) (fun m5 => bnd (s.2.1 + (1 : Int32)) (fun y6 => some (Sum.inl (s.1, y6, m5))))))
theorem k_X9_law_L37 {g : Gx}  {Q : Qy} {s : Int32 × Int32 × Mem} {t : (Int32 × Int32 × Mem) ⊕ (Int32 × Mem)} (h : f_X9_law_L37 s = some t) (hP : P_X9_law_37 g Q t) : A_X9_law_37 g Q s := by
  refine wp_iload_n dX9_law_37 rfl rfl ?_
  refine wp_iload_n dX9_law_38 rfl rfl ?_
  refine wm_icmp_ge 60 dX9_law_39 rfl rfl h (fun h => ?_) (fun h => ?_)
  · refine wm_up h hP (fun r h hP => ?_)
    refine wp_aload_n dX9_law_60 rfl rfl ?_
    refine wp_iload_n dX9_law_61 rfl rfl ?_
    refine wm_putI dX9_law_62 s_85 fk_X9_143 rfl rfl h (fun m4 h => ?_)
    refine wp_iconst (1 : Int32) dX9_law_65 ic_1 rfl ?_
    exact wm_iret dX9_law_66 rfl ⟨rfl, rfl⟩ h hP
  · refine wp_aload_n dX9_law_42 rfl rfl ?_
    refine wm_getR dX9_law_43 s_85 fk_X9_37 rfl r_85_18 rfl ?_
    refine wp_iload_n dX9_law_46 rfl rfl ?_
    refine wp_aload_n dX9_law_47 rfl rfl ?_
    refine wm_getR dX9_law_48 s_85 fk_X9_34 rfl r_85_16 rfl ?_
    refine wp_iload_n dX9_law_51 rfl rfl ?_
    refine wm_iald dX9_law_52 s_94 rfl h (fun h => ?_)
    refine wm_iast dX9_law_53 s_95 rfl h (fun m5 h => ?_)
    refine wm_inc dX9_law_54 rfl ii_1 (by decide) rfl rfl h (fun y6 h => ?_)
    refine wm_list (L' := [some (.ref 85), none, some (.int s.1), some (.int y6)]) rfl ?_
    refine wp_goto 37 dX9_law_57 rfl ?_
    have hB := wm_back h hP
    exact wm_mask (L' := [some (.ref 85), none, some (.int s.1), some (.int y6)]) [true, false, true, true] rfl (hB)
noncomputable def f_X9_law   (m : Mem) : Option (Int32 × Mem) := (f_X9_workOut (-1 : Int32) (gI m 85 17) m).bind (fun q1 => bnd (gI q1.2 85 17) (fun y2 => bnd (sI q1.2 85 17 (0 : Int32)) (fun m3 => if (gI m3 85 23) < 0 then wh (f_X9_law_L37) (y2, (0 : Int32), m3) else some (((-100 : Int32) - (gI m3 85 23)), m3))))
theorem k_X9_law_E {g : Gx}   {Q : Qy} {m : Mem} {t : Int32 × Mem} (h : f_X9_law m = some t) (hP : pI Q t) : WpM g 64 mi_X9_law 0 [some (.ref 85), none, none, none] [] m (zM g mi_X9_law Q) := by
  refine wp_aload_n dX9_law_0 rfl rfl ?_
  refine wp_iconst (-1 : Int32) dX9_law_1 ic_m1 rfl ?_
  refine wp_aload_n dX9_law_2 rfl rfl ?_
  refine wm_getI dX9_law_3 s_85 fk_X9_227 rfl rfl ?_
  refine wm_callVI (As := [.int (-1 : Int32), .int (gI m 85 17)]) (rest := []) dX9_law_6 ok_X9_277 (by decide) rfl s_85 ⟨_, rfl⟩ (Nat.le_of_ble_eq_true rfl) ⟨rfl, rfl⟩ rfl (fun t h => o_X9_workOut h) h (fun q1 h => ?_)
  refine wp_istore_n (L' := [some (.ref 85), some (.int q1.1), none, none]) dX9_law_9 (by decide) rfl rfl rfl ?_
  refine wp_aload_n dX9_law_10 rfl rfl ?_
  refine wm_getI dX9_law_11 s_85 fk_X9_227 rfl rfl ?_
  refine wm_nm h (fun y2 h => ?_)
  refine wp_istore_n (L' := [some (.ref 85), some (.int q1.1), some (.int y2), none]) dX9_law_14 (by decide) rfl rfl rfl ?_
  refine wp_aload_n dX9_law_15 rfl rfl ?_
  refine wp_iconst (0 : Int32) dX9_law_16 ic_0 rfl ?_
  refine wm_putI dX9_law_17 s_85 fk_X9_227 rfl rfl h (fun m3 h => ?_)
  refine wp_aload_n dX9_law_20 rfl rfl ?_
  refine wm_getI dX9_law_21 s_85 fk_X9_239 rfl rfl ?_
  refine wm_if_lt 35 dX9_law_24 rfl rfl h (fun h => ?_) (fun h => ?_)
  · refine wp_iconst (0 : Int32) dX9_law_35 ic_0 rfl ?_
    refine wp_istore_n (L' := [some (.ref 85), some (.int q1.1), some (.int y2), some (.int (0 : Int32))]) dX9_law_36 (by decide) rfl rfl rfl ?_
    have hB := wh_ok (A := A_X9_law_37 g Q) (B := pI Q) (fun s t h hP => k_X9_law_L37  h hP) h hP
    exact wm_mask (L' := [some (.ref 85), none, some (.int y2), some (.int (0 : Int32))]) [true, false, true, true] rfl (hB)
  · refine wp_bipush (-100 : Int32) dX9_law_27 ib_m100 rfl ?_
    refine wp_aload_n dX9_law_29 rfl rfl ?_
    refine wm_getI dX9_law_30 s_85 fk_X9_239 rfl rfl ?_
    refine wp_isub dX9_law_33 rfl ?_
    exact wm_iret dX9_law_34 rfl ⟨rfl, rfl⟩ h hP
theorem o_X9_law {g : Gx}   {m : Mem} {t : Int32 × Mem} (h : f_X9_law m = some t) : MxM g 64 mi_X9_law [.ref 85] m (qI t) := mx_of pn_X9 (Nat.le_of_ble_eq_true rfl) (k_X9_law_E h ⟨rfl, rfl, rfl, rfl, rfl⟩)
noncomputable def f_X9_size  (p1 : Int32) (m : Mem) : Option (Int32 × Mem) := if 0 ≤ p1 then some (p1, m) else some ((-p1), m)
theorem k_X9_size_E {g : Gx}  {p1 : Int32} {Q : Qy} {m : Mem} {t : Int32 × Mem} (h : f_X9_size p1 m = some t) (hP : pI Q t) : WpM g 1 mi_X9_size 0 [some (.int p1)] [] m (zM g mi_X9_size Q) := by
  refine wp_iload_n dX9_size_0 rfl rfl ?_
  refine wm_if_ge 9 dX9_size_1 rfl rfl h (fun h => ?_) (fun h => ?_)
  · refine wp_iload_n dX9_size_9 rfl rfl ?_
    exact wm_iret dX9_size_10 rfl ⟨rfl, rfl⟩ h hP
  · refine wp_iload_n dX9_size_4 rfl rfl ?_
    refine wp_ineg dX9_size_5 rfl ?_
    refine wp_goto 10 dX9_size_6 rfl ?_
    exact wm_iret dX9_size_10 rfl ⟨rfl, rfl⟩ h hP
theorem o_X9_size {g : Gx}  {p1 : Int32} {m : Mem} {t : Int32 × Mem} (h : f_X9_size p1 m = some t) : MxM g 1 mi_X9_size [.int p1] m (qI t) := mx_of pn_X9 (Nat.le_of_ble_eq_true rfl) (k_X9_size_E h ⟨rfl, rfl, rfl, rfl, rfl⟩)
abbrev A_X9_shed_4 (g : Gx)  (Q : Qy) (s : Int32 × Int32 × Mem) : Prop := WpM g 2 mi_X9_shed 4 [some (.ref 85), some (.int s.1), some (.int s.2.1)] [] s.2.2 (zM g mi_X9_shed Q)
abbrev P_X9_shed_4 (g : Gx)  (Q : Qy) : ((Int32 × Int32 × Mem) ⊕ (Int32 × Mem)) → Prop := pS (A_X9_shed_4 g Q) (pI Q)
noncomputable def f_X9_shed_L4  (s : Int32 × Int32 × Mem) : Option ((Int32 × Int32 × Mem) ⊕ (Int32 × Mem)) := if (gI s.2.2 85 8) ≤ s.2.1 then up (some (s.1, s.2.2)) else ck s.2.1 6 (ck ((30 : Int32) + s.2.1) 42 ((f_X9_size (gI s.2.2 86 (ix ((30 : Int32) + s.2.1))) s.2.2).bind (fun q1 => dv (q1.1 + (1 : Int32)) (ck s.1 6 (ck ((30 : Int32) + s.1) 42 ((f_X9_size (gI q1.2 86 (ix ((30 : Int32) + s.1))) q1.2).bind (fun q2 => dv (q2.1 + (1 : Int32)) (if (((1000 : Int32) * (gI s.2.2 102 (ix s.2.1))) / (q1.1 + (1 : Int32))) ≤ (((1000 : Int32) * (gI q1.2 102 (ix s.1))) / (q2.1 + (1 : Int32))) then bnd (s.2.1 + (1 : Int32)) (fun y3 => some (Sum.inl (s.1, y3, q2.2))) else bnd (s.2.1 + (1 : Int32)) (fun y4 => some (Sum.inl (s.2.1, y4, q2.2)))))))))))
theorem k_X9_shed_L4 {g : Gx}  {Q : Qy} {s : Int32 × Int32 × Mem} {t : (Int32 × Int32 × Mem) ⊕ (Int32 × Mem)} (h : f_X9_shed_L4 s = some t) (hP : P_X9_shed_4 g Q t) : A_X9_shed_4 g Q s := by
  refine wp_iload_n dX9_shed_4 rfl rfl ?_
  refine wp_aload_n dX9_shed_5 rfl rfl ?_
  refine wm_getI dX9_shed_6 s_85 fk_X9_166 rfl rfl ?_
  refine wm_icmp_ge 77 dX9_shed_9 rfl rfl h (fun h => ?_) (fun h => ?_)
  · refine wm_up h hP (fun r h hP => ?_)
    refine wp_iload_n dX9_shed_77 rfl rfl ?_
    exact wm_iret dX9_shed_78 rfl ⟨rfl, rfl⟩ h hP
  · refine wp_sipush (1000 : Int32) dX9_shed_12 is_1000 rfl ?_
    refine wp_aload_n dX9_shed_15 rfl rfl ?_
    refine wm_getR dX9_shed_16 s_85 fk_X9_58 rfl r_85_37 rfl ?_
    refine wp_iload_n dX9_shed_19 rfl rfl ?_
    refine wm_iald dX9_shed_20 s_102 rfl h (fun h => ?_)
    refine wp_imul dX9_shed_21 rfl ?_
    refine wp_aload_n dX9_shed_22 rfl rfl ?_
    refine wm_getR dX9_shed_23 s_85 fk_X9_9 rfl r_85_0 rfl ?_
    refine wp_bipush (30 : Int32) dX9_shed_26 ib_30 rfl ?_
    refine wp_iload_n dX9_shed_28 rfl rfl ?_
    refine wp_iadd dX9_shed_29 rfl ?_
    refine wm_iald dX9_shed_30 s_86 rfl h (fun h => ?_)
    refine wm_callSI (As := [.int (gI s.2.2 86 (ix ((30 : Int32) + s.2.1)))]) (rest := [.int ((1000 : Int32) * (gI s.2.2 102 (ix s.2.1)))]) dX9_shed_31 ok_X9_376 (by decide) rfl (Nat.le_of_ble_eq_true rfl) ⟨rfl, rfl⟩ rfl (fun t h => o_X9_size h) h (fun q1 h => ?_)
    refine wp_iconst (1 : Int32) dX9_shed_34 ic_1 rfl ?_
    refine wp_iadd dX9_shed_35 rfl ?_
    refine wm_idiv dX9_shed_36 rfl h (fun h => ?_)
    refine wp_sipush (1000 : Int32) dX9_shed_37 is_1000 rfl ?_
    refine wp_aload_n dX9_shed_40 rfl rfl ?_
    refine wm_getR dX9_shed_41 s_85 fk_X9_58 rfl r_85_37 rfl ?_
    refine wp_iload_n dX9_shed_44 rfl rfl ?_
    refine wm_iald dX9_shed_45 s_102 rfl h (fun h => ?_)
    refine wp_imul dX9_shed_46 rfl ?_
    refine wp_aload_n dX9_shed_47 rfl rfl ?_
    refine wm_getR dX9_shed_48 s_85 fk_X9_9 rfl r_85_0 rfl ?_
    refine wp_bipush (30 : Int32) dX9_shed_51 ib_30 rfl ?_
    refine wp_iload_n dX9_shed_53 rfl rfl ?_
    refine wp_iadd dX9_shed_54 rfl ?_
    refine wm_iald dX9_shed_55 s_86 rfl h (fun h => ?_)
    refine wm_callSI (As := [.int (gI q1.2 86 (ix ((30 : Int32) + s.1)))]) (rest := [.int ((1000 : Int32) * (gI q1.2 102 (ix s.1))), .int (((1000 : Int32) * (gI s.2.2 102 (ix s.2.1))) / (q1.1 + (1 : Int32)))]) dX9_shed_56 ok_X9_376 (by decide) rfl (Nat.le_of_ble_eq_true rfl) ⟨rfl, rfl⟩ rfl (fun t h => o_X9_size h) h (fun q2 h => ?_)
    refine wp_iconst (1 : Int32) dX9_shed_59 ic_1 rfl ?_
    refine wp_iadd dX9_shed_60 rfl ?_
    refine wm_idiv dX9_shed_61 rfl h (fun h => ?_)
    refine wm_icmp_le 69 dX9_shed_62 rfl rfl h (fun h => ?_) (fun h => ?_)
    · refine wp_iload_n dX9_shed_69 rfl rfl ?_
      refine wp_istore_n (L' := [some (.ref 85), some (.int s.1), some (.int s.2.1)]) dX9_shed_70 (by decide) rfl rfl rfl ?_
      refine wm_inc dX9_shed_71 rfl ii_1 (by decide) rfl rfl h (fun y3 h => ?_)
      refine wm_list (L' := [some (.ref 85), some (.int s.1), some (.int y3)]) rfl ?_
      refine wp_goto 4 dX9_shed_74 rfl ?_
      have hB := wm_back h hP
      exact wm_mask (L' := [some (.ref 85), some (.int s.1), some (.int y3)]) [true, true, true] rfl (hB)
    · refine wp_iload_n dX9_shed_65 rfl rfl ?_
      refine wp_goto 70 dX9_shed_66 rfl ?_
      refine wp_istore_n (L' := [some (.ref 85), some (.int s.2.1), some (.int s.2.1)]) dX9_shed_70 (by decide) rfl rfl rfl ?_
      refine wm_inc dX9_shed_71 rfl ii_1 (by decide) rfl rfl h (fun y4 h => ?_)
      refine wm_list (L' := [some (.ref 85), some (.int s.2.1), some (.int y4)]) rfl ?_
      refine wp_goto 4 dX9_shed_74 rfl ?_
      have hB := wm_back h hP
      exact wm_mask (L' := [some (.ref 85), some (.int s.2.1), some (.int y4)]) [true, true, true] rfl (hB)
noncomputable def f_X9_shed   (m : Mem) : Option (Int32 × Mem) := wh (f_X9_shed_L4) ((0 : Int32), (1 : Int32), m)
theorem k_X9_shed_E {g : Gx}   {Q : Qy} {m : Mem} {t : Int32 × Mem} (h : f_X9_shed m = some t) (hP : pI Q t) : WpM g 2 mi_X9_shed 0 [some (.ref 85), none, none] [] m (zM g mi_X9_shed Q) := by
  refine wp_iconst (0 : Int32) dX9_shed_0 ic_0 rfl ?_
  refine wp_istore_n (L' := [some (.ref 85), some (.int (0 : Int32)), none]) dX9_shed_1 (by decide) rfl rfl rfl ?_
  refine wp_iconst (1 : Int32) dX9_shed_2 ic_1 rfl ?_
  refine wp_istore_n (L' := [some (.ref 85), some (.int (0 : Int32)), some (.int (1 : Int32))]) dX9_shed_3 (by decide) rfl rfl rfl ?_
  have hB := wh_ok (A := A_X9_shed_4 g Q) (B := pI Q) (fun s t h hP => k_X9_shed_L4  h hP) h hP
  exact wm_mask (L' := [some (.ref 85), some (.int (0 : Int32)), some (.int (1 : Int32))]) [true, true, true] rfl (hB)
theorem o_X9_shed {g : Gx}   {m : Mem} {t : Int32 × Mem} (h : f_X9_shed m = some t) : MxM g 2 mi_X9_shed [.ref 85] m (qI t) := mx_of pn_X9 (Nat.le_of_ble_eq_true rfl) (k_X9_shed_E h ⟨rfl, rfl, rfl, rfl, rfl⟩)
abbrev A_X9_meet_146 (g : Gx)  (Q : Qy) (s : Int32 × Mem) : Prop := WpM g 67 mi_X9_meet 146 [some (.ref 85), none, some (.int s.1)] [] s.2 (zM g mi_X9_meet Q)
abbrev P_X9_meet_146 (g : Gx)  (Q : Qy) : ((Int32 × Mem) ⊕ (Int32 × Mem)) → Prop := pS (A_X9_meet_146 g Q) (pI Q)
noncomputable def f_X9_meet_L146  (s : Int32 × Mem) : Option ((Int32 × Mem) ⊕ (Int32 × Mem)) := if (gI s.2 85 6) ≤ s.1 then up (ck (0 : Int32) 10 (some ((gI s.2 111 (ix (0 : Int32))), s.2))) else bnd (sI s.2 85 28 s.1) (fun m23 => (f_X9_meets m23).bind (fun q24 => ck (9 : Int32) 10 ((f_X9_decided q24).bind (fun q25 => ck (2 : Int32) 10 (if q25.1 = (gI q25.2 111 (ix (2 : Int32))) then ck (9 : Int32) 10 (bnd (sI q25.2 111 (ix (9 : Int32)) ((gI q24 111 (ix (9 : Int32))) ||| (0 : Int32))) (fun m26 => bnd (s.1 + (1 : Int32)) (fun y27 => some (Sum.inl (y27, m26))))) else ck (9 : Int32) 10 (bnd (sI q25.2 111 (ix (9 : Int32)) ((gI q24 111 (ix (9 : Int32))) ||| ((1 : Int32) <<< (s.1 &&& 31)))) (fun m28 => bnd (s.1 + (1 : Int32)) (fun y29 => some (Sum.inl (y29, m28))))))))))
theorem k_X9_meet_L146 {g : Gx}  {Q : Qy} {s : Int32 × Mem} {t : (Int32 × Mem) ⊕ (Int32 × Mem)} (h : f_X9_meet_L146 s = some t) (hP : P_X9_meet_146 g Q t) : A_X9_meet_146 g Q s := by
  refine wp_iload_n dX9_meet_146 rfl rfl ?_
  refine wp_aload_n dX9_meet_147 rfl rfl ?_
  refine wm_getI dX9_meet_148 s_85 fk_X9_159 rfl rfl ?_
  refine wm_icmp_ge 199 dX9_meet_151 rfl rfl h (fun h => ?_) (fun h => ?_)
  · refine wm_up h hP (fun r h hP => ?_)
    refine wp_aload_n dX9_meet_199 rfl rfl ?_
    refine wm_getR dX9_meet_200 s_85 fk_X9_85 rfl r_85_50 rfl ?_
    refine wp_iconst (0 : Int32) dX9_meet_203 ic_0 rfl ?_
    refine wm_iald dX9_meet_204 s_111 rfl h (fun h => ?_)
    exact wm_iret dX9_meet_205 rfl ⟨rfl, rfl⟩ h hP
  · refine wp_aload_n dX9_meet_154 rfl rfl ?_
    refine wp_iload_n dX9_meet_155 rfl rfl ?_
    refine wm_putI dX9_meet_156 s_85 fk_X9_286 rfl rfl h (fun m23 h => ?_)
    refine wp_aload_n dX9_meet_159 rfl rfl ?_
    refine wm_callVN (As := []) (rest := []) dX9_meet_160 ok_X9_398 (by decide) rfl s_85 ⟨_, rfl⟩ (Nat.le_of_ble_eq_true rfl) ⟨rfl, rfl⟩ rfl (fun t h => o_X9_meets h) h (fun q24 h => ?_)
    refine wp_aload_n dX9_meet_163 rfl rfl ?_
    refine wm_getR dX9_meet_164 s_85 fk_X9_85 rfl r_85_50 rfl ?_
    refine wp_bipush (9 : Int32) dX9_meet_167 ib_9 rfl ?_
    refine wp_dup2 dX9_meet_169 rfl rfl rfl ?_
    refine wm_iald dX9_meet_170 s_111 rfl h (fun h => ?_)
    refine wp_aload_n dX9_meet_171 rfl rfl ?_
    refine wm_callVI (As := []) (rest := [.int (gI q24 111 (ix (9 : Int32))), .int (9 : Int32), .ref 111]) dX9_meet_172 ok_X9_361 (by decide) rfl s_85 ⟨_, rfl⟩ (Nat.le_of_ble_eq_true rfl) ⟨rfl, rfl⟩ rfl (fun t h => o_X9_decided h) h (fun q25 h => ?_)
    refine wp_aload_n dX9_meet_175 rfl rfl ?_
    refine wm_getR dX9_meet_176 s_85 fk_X9_85 rfl r_85_50 rfl ?_
    refine wp_iconst (2 : Int32) dX9_meet_179 ic_2 rfl ?_
    refine wm_iald dX9_meet_180 s_111 rfl h (fun h => ?_)
    refine wm_icmp_eq 190 dX9_meet_181 rfl rfl h (fun h => ?_) (fun h => ?_)
    · refine wp_iconst (0 : Int32) dX9_meet_190 ic_0 rfl ?_
      refine wp_ior dX9_meet_191 rfl ?_
      refine wm_iast dX9_meet_192 s_111 rfl h (fun m26 h => ?_)
      refine wm_inc dX9_meet_193 rfl ii_1 (by decide) rfl rfl h (fun y27 h => ?_)
      refine wm_list (L' := [some (.ref 85), none, some (.int y27)]) rfl ?_
      refine wp_goto 146 dX9_meet_196 rfl ?_
      have hB := wm_back h hP
      exact wm_mask (L' := [some (.ref 85), none, some (.int y27)]) [true, false, true] rfl (hB)
    · refine wp_iconst (1 : Int32) dX9_meet_184 ic_1 rfl ?_
      refine wp_iload_n dX9_meet_185 rfl rfl ?_
      refine wp_ishl dX9_meet_186 rfl ?_
      refine wp_goto 191 dX9_meet_187 rfl ?_
      refine wp_ior dX9_meet_191 rfl ?_
      refine wm_iast dX9_meet_192 s_111 rfl h (fun m28 h => ?_)
      refine wm_inc dX9_meet_193 rfl ii_1 (by decide) rfl rfl h (fun y29 h => ?_)
      refine wm_list (L' := [some (.ref 85), none, some (.int y29)]) rfl ?_
      refine wp_goto 146 dX9_meet_196 rfl ?_
      have hB := wm_back h hP
      exact wm_mask (L' := [some (.ref 85), none, some (.int y29)]) [true, false, true] rfl (hB)
noncomputable def f_X9_meet_J18   (m : Mem) : Option (Int32 × Mem) := (f_X9_isTable m).bind (fun q2 => if ¬ q2.1 = 0 then (f_X9_meets q2.2).bind (fun q3 => (f_X9_keepsRows q3).bind (fun q4 => ck (0 : Int32) 10 (bnd (sI q4 111 (ix (0 : Int32)) (gI q4 85 29)) (fun m5 => ck (1 : Int32) 10 (bnd (sI m5 111 (ix (1 : Int32)) (gI m5 85 30)) (fun m6 => (f_X9_decided m6).bind (fun q7 => ck (2 : Int32) 10 (bnd (sI q7.2 111 (ix (2 : Int32)) q7.1) (fun m8 => (f_X9_heldBack m8).bind (fun q9 => ck (3 : Int32) 10 (bnd (sI q9.2 111 (ix (3 : Int32)) q9.1) (fun m10 => (f_X9_decided m10).bind (fun q11 => (f_X9_shouldBe q11.2).bind (fun q12 => ck (4 : Int32) 10 (bnd (sI q12.2 111 (ix (4 : Int32)) (q11.1 ^^^ q12.1)) (fun m13 => (f_X9_aloneSaid (0 : Int32) m13).bind (fun q14 => ck (5 : Int32) 10 (bnd (sI q14.2 111 (ix (5 : Int32)) q14.1) (fun m15 => (f_X9_aloneSaid (1 : Int32) m15).bind (fun q16 => ck (6 : Int32) 10 (bnd (sI q16.2 111 (ix (6 : Int32)) q16.1) (fun m17 => (f_X9_cost m17).bind (fun q18 => ck (7 : Int32) 10 (bnd (sI q18.2 111 (ix (7 : Int32)) q18.1) (fun m19 => (f_X9_shed m19).bind (fun q20 => ck (8 : Int32) 10 (bnd (sI q20.2 111 (ix (8 : Int32)) q20.1) (fun m21 => ck (9 : Int32) 10 (bnd (sI m21 111 (ix (9 : Int32)) (0 : Int32)) (fun m22 => wh (f_X9_meet_L146) ((0 : Int32), m22))))))))))))))))))))))))))))))) else some ((-5 : Int32), q2.2))
theorem k_X9_meet_J18 {g : Gx}    {Q : Qy} {m : Mem} {t : Int32 × Mem} (h : f_X9_meet_J18 m = some t) (hP : pI Q t) : WpM g 67 mi_X9_meet 18 [some (.ref 85), none, none] [] m (zM g mi_X9_meet Q) := by
  refine wp_aload_n dX9_meet_18 rfl rfl ?_
  refine wm_callVI (As := []) (rest := []) dX9_meet_19 ok_X9_394 (by decide) rfl s_85 ⟨_, rfl⟩ (Nat.le_of_ble_eq_true rfl) ⟨rfl, rfl⟩ rfl (fun t h => o_X9_isTable h) h (fun q2 h => ?_)
  refine wm_if_ne 28 dX9_meet_22 rfl rfl h (fun h => ?_) (fun h => ?_)
  · refine wp_aload_n dX9_meet_28 rfl rfl ?_
    refine wm_callVN (As := []) (rest := []) dX9_meet_29 ok_X9_398 (by decide) rfl s_85 ⟨_, rfl⟩ (Nat.le_of_ble_eq_true rfl) ⟨rfl, rfl⟩ rfl (fun t h => o_X9_meets h) h (fun q3 h => ?_)
    refine wp_aload_n dX9_meet_32 rfl rfl ?_
    refine wm_callVN (As := []) (rest := []) dX9_meet_33 ok_X9_401 (by decide) rfl s_85 ⟨_, rfl⟩ (Nat.le_of_ble_eq_true rfl) ⟨rfl, rfl⟩ rfl (fun t h => o_X9_keepsRows h) h (fun q4 h => ?_)
    refine wp_aload_n dX9_meet_36 rfl rfl ?_
    refine wm_getR dX9_meet_37 s_85 fk_X9_85 rfl r_85_50 rfl ?_
    refine wp_iconst (0 : Int32) dX9_meet_40 ic_0 rfl ?_
    refine wp_aload_n dX9_meet_41 rfl rfl ?_
    refine wm_getI dX9_meet_42 s_85 fk_X9_289 rfl rfl ?_
    refine wm_iast dX9_meet_45 s_111 rfl h (fun m5 h => ?_)
    refine wp_aload_n dX9_meet_46 rfl rfl ?_
    refine wm_getR dX9_meet_47 s_85 fk_X9_85 rfl r_85_50 rfl ?_
    refine wp_iconst (1 : Int32) dX9_meet_50 ic_1 rfl ?_
    refine wp_aload_n dX9_meet_51 rfl rfl ?_
    refine wm_getI dX9_meet_52 s_85 fk_X9_321 rfl rfl ?_
    refine wm_iast dX9_meet_55 s_111 rfl h (fun m6 h => ?_)
    refine wp_aload_n dX9_meet_56 rfl rfl ?_
    refine wm_getR dX9_meet_57 s_85 fk_X9_85 rfl r_85_50 rfl ?_
    refine wp_iconst (2 : Int32) dX9_meet_60 ic_2 rfl ?_
    refine wp_aload_n dX9_meet_61 rfl rfl ?_
    refine wm_callVI (As := []) (rest := [.int (2 : Int32), .ref 111]) dX9_meet_62 ok_X9_361 (by decide) rfl s_85 ⟨_, rfl⟩ (Nat.le_of_ble_eq_true rfl) ⟨rfl, rfl⟩ rfl (fun t h => o_X9_decided h) h (fun q7 h => ?_)
    refine wm_iast dX9_meet_65 s_111 rfl h (fun m8 h => ?_)
    refine wp_aload_n dX9_meet_66 rfl rfl ?_
    refine wm_getR dX9_meet_67 s_85 fk_X9_85 rfl r_85_50 rfl ?_
    refine wp_iconst (3 : Int32) dX9_meet_70 ic_3 rfl ?_
    refine wp_aload_n dX9_meet_71 rfl rfl ?_
    refine wm_callVI (As := []) (rest := [.int (3 : Int32), .ref 111]) dX9_meet_72 ok_X9_404 (by decide) rfl s_85 ⟨_, rfl⟩ (Nat.le_of_ble_eq_true rfl) ⟨rfl, rfl⟩ rfl (fun t h => o_X9_heldBack h) h (fun q9 h => ?_)
    refine wm_iast dX9_meet_75 s_111 rfl h (fun m10 h => ?_)
    refine wp_aload_n dX9_meet_76 rfl rfl ?_
    refine wm_getR dX9_meet_77 s_85 fk_X9_85 rfl r_85_50 rfl ?_
    refine wp_iconst (4 : Int32) dX9_meet_80 ic_4 rfl ?_
    refine wp_aload_n dX9_meet_81 rfl rfl ?_
    refine wm_callVI (As := []) (rest := [.int (4 : Int32), .ref 111]) dX9_meet_82 ok_X9_361 (by decide) rfl s_85 ⟨_, rfl⟩ (Nat.le_of_ble_eq_true rfl) ⟨rfl, rfl⟩ rfl (fun t h => o_X9_decided h) h (fun q11 h => ?_)
    refine wp_aload_n dX9_meet_85 rfl rfl ?_
    refine wm_callVI (As := []) (rest := [.int q11.1, .int (4 : Int32), .ref 111]) dX9_meet_86 ok_X9_364 (by decide) rfl s_85 ⟨_, rfl⟩ (Nat.le_of_ble_eq_true rfl) ⟨rfl, rfl⟩ rfl (fun t h => o_X9_shouldBe h) h (fun q12 h => ?_)
    refine wp_ixor dX9_meet_89 rfl ?_
    refine wm_iast dX9_meet_90 s_111 rfl h (fun m13 h => ?_)
    refine wp_aload_n dX9_meet_91 rfl rfl ?_
    refine wm_getR dX9_meet_92 s_85 fk_X9_85 rfl r_85_50 rfl ?_
    refine wp_iconst (5 : Int32) dX9_meet_95 ic_5 rfl ?_
    refine wp_aload_n dX9_meet_96 rfl rfl ?_
    refine wp_iconst (0 : Int32) dX9_meet_97 ic_0 rfl ?_
    refine wm_callVI (As := [.int (0 : Int32)]) (rest := [.int (5 : Int32), .ref 111]) dX9_meet_98 ok_X9_407 (by decide) rfl s_85 ⟨_, rfl⟩ (Nat.le_of_ble_eq_true rfl) ⟨rfl, rfl⟩ rfl (fun t h => o_X9_aloneSaid h) h (fun q14 h => ?_)
    refine wm_iast dX9_meet_101 s_111 rfl h (fun m15 h => ?_)
    refine wp_aload_n dX9_meet_102 rfl rfl ?_
    refine wm_getR dX9_meet_103 s_85 fk_X9_85 rfl r_85_50 rfl ?_
    refine wp_bipush (6 : Int32) dX9_meet_106 ib_6 rfl ?_
    refine wp_aload_n dX9_meet_108 rfl rfl ?_
    refine wp_iconst (1 : Int32) dX9_meet_109 ic_1 rfl ?_
    refine wm_callVI (As := [.int (1 : Int32)]) (rest := [.int (6 : Int32), .ref 111]) dX9_meet_110 ok_X9_407 (by decide) rfl s_85 ⟨_, rfl⟩ (Nat.le_of_ble_eq_true rfl) ⟨rfl, rfl⟩ rfl (fun t h => o_X9_aloneSaid h) h (fun q16 h => ?_)
    refine wm_iast dX9_meet_113 s_111 rfl h (fun m17 h => ?_)
    refine wp_aload_n dX9_meet_114 rfl rfl ?_
    refine wm_getR dX9_meet_115 s_85 fk_X9_85 rfl r_85_50 rfl ?_
    refine wp_bipush (7 : Int32) dX9_meet_118 ib_7 rfl ?_
    refine wp_aload_n dX9_meet_120 rfl rfl ?_
    refine wm_callVI (As := []) (rest := [.int (7 : Int32), .ref 111]) dX9_meet_121 ok_X9_411 (by decide) rfl s_85 ⟨_, rfl⟩ (Nat.le_of_ble_eq_true rfl) ⟨rfl, rfl⟩ rfl (fun t h => o_X9_cost h) h (fun q18 h => ?_)
    refine wm_iast dX9_meet_124 s_111 rfl h (fun m19 h => ?_)
    refine wp_aload_n dX9_meet_125 rfl rfl ?_
    refine wm_getR dX9_meet_126 s_85 fk_X9_85 rfl r_85_50 rfl ?_
    refine wp_bipush (8 : Int32) dX9_meet_129 ib_8 rfl ?_
    refine wp_aload_n dX9_meet_131 rfl rfl ?_
    refine wm_callVI (As := []) (rest := [.int (8 : Int32), .ref 111]) dX9_meet_132 ok_X9_414 (by decide) rfl s_85 ⟨_, rfl⟩ (Nat.le_of_ble_eq_true rfl) ⟨rfl, rfl⟩ rfl (fun t h => o_X9_shed h) h (fun q20 h => ?_)
    refine wm_iast dX9_meet_135 s_111 rfl h (fun m21 h => ?_)
    refine wp_aload_n dX9_meet_136 rfl rfl ?_
    refine wm_getR dX9_meet_137 s_85 fk_X9_85 rfl r_85_50 rfl ?_
    refine wp_bipush (9 : Int32) dX9_meet_140 ib_9 rfl ?_
    refine wp_iconst (0 : Int32) dX9_meet_142 ic_0 rfl ?_
    refine wm_iast dX9_meet_143 s_111 rfl h (fun m22 h => ?_)
    refine wp_iconst (0 : Int32) dX9_meet_144 ic_0 rfl ?_
    refine wp_istore_n (L' := [some (.ref 85), none, some (.int (0 : Int32))]) dX9_meet_145 (by decide) rfl rfl rfl ?_
    have hB := wh_ok (A := A_X9_meet_146 g Q) (B := pI Q) (fun s t h hP => k_X9_meet_L146  h hP) h hP
    exact wm_mask (L' := [some (.ref 85), none, some (.int (0 : Int32))]) [true, false, true] rfl (hB)
  · refine wp_bipush (-5 : Int32) dX9_meet_25 ib_m5 rfl ?_
    exact wm_iret dX9_meet_27 rfl ⟨rfl, rfl⟩ h hP
noncomputable def f_X9_meet  (p1 : Int32) (m : Mem) : Option (Int32 × Mem) := (f_X9_plain m).bind (fun q1 => if p1 = 0 then f_X9_meet_J18 q1 else (f_X9_isOrder p1 q1).bind (fun q30 => if ¬ q30.1 = 0 then f_X9_meet_J18 q30.2 else some ((-1 : Int32), q30.2)))
theorem k_X9_meet_E {g : Gx}  {p1 : Int32} {Q : Qy} {m : Mem} {t : Int32 × Mem} (h : f_X9_meet p1 m = some t) (hP : pI Q t) : WpM g 67 mi_X9_meet 0 [some (.ref 85), some (.int p1), none] [] m (zM g mi_X9_meet Q) := by
  refine wp_aload_n dX9_meet_0 rfl rfl ?_
  refine wm_callVN (As := []) (rest := []) dX9_meet_1 ok_X9_388 (by decide) rfl s_85 ⟨_, rfl⟩ (Nat.le_of_ble_eq_true rfl) ⟨rfl, rfl⟩ rfl (fun t h => o_X9_plain h) h (fun q1 h => ?_)
  refine wp_iload_n dX9_meet_4 rfl rfl ?_
  refine wm_if_eq 18 dX9_meet_5 rfl rfl h (fun h => ?_) (fun h => ?_)
  · exact wm_mask (L' := [some (.ref 85), none, none]) [true, false, false] rfl (k_X9_meet_J18  h hP)
  · refine wp_aload_n dX9_meet_8 rfl rfl ?_
    refine wp_iload_n dX9_meet_9 rfl rfl ?_
    refine wm_callVI (As := [.int p1]) (rest := []) dX9_meet_10 ok_X9_391 (by decide) rfl s_85 ⟨_, rfl⟩ (Nat.le_of_ble_eq_true rfl) ⟨rfl, rfl⟩ rfl (fun t h => o_X9_isOrder h) h (fun q30 h => ?_)
    refine wm_if_ne 18 dX9_meet_13 rfl rfl h (fun h => ?_) (fun h => ?_)
    · exact wm_mask (L' := [some (.ref 85), none, none]) [true, false, false] rfl (k_X9_meet_J18  h hP)
    · refine wp_iconst (-1 : Int32) dX9_meet_16 ic_m1 rfl ?_
      exact wm_iret dX9_meet_17 rfl ⟨rfl, rfl⟩ h hP
theorem o_X9_meet {g : Gx}  {p1 : Int32} {m : Mem} {t : Int32 × Mem} (h : f_X9_meet p1 m = some t) : MxM g 67 mi_X9_meet [.ref 85, .int p1] m (qI t) := mx_of pn_X9 (Nat.le_of_ble_eq_true rfl) (k_X9_meet_E h ⟨rfl, rfl, rfl, rfl, rfl⟩)
noncomputable def f_X9_mend  (p1 : Int32) (p2 : Int32) (p3 : Int32) (m : Mem) : Option (Int32 × Mem) := sw p2 [((0 : Int32), (f_X9_isPerson p1 m).bind (fun q1 => if q1.1 = 0 then some ((-2000000000 : Int32), q1.2) else (f_X9_isDigit1 p3 q1.2).bind (fun q2 => if q2.1 = 0 then some ((-2000000000 : Int32), q2.2) else (f_X9_becomes p1 p3 q2.2).bind (fun q3 => some (q3.1, q3.2))))), ((1 : Int32), (f_X9_isPerson p1 m).bind (fun q4 => if q4.1 = 0 then some ((-2000000000 : Int32), q4.2) else (f_X9_isDigit1 p3 q4.2).bind (fun q5 => if q5.1 = 0 then some ((-2000000000 : Int32), q5.2) else (f_X9_becomes ((10 : Int32) + p1) p3 q5.2).bind (fun q6 => some (q6.1, q6.2))))), ((2 : Int32), (f_X9_isPerson p1 m).bind (fun q7 => if q7.1 = 0 then some ((-2000000000 : Int32), q7.2) else (f_X9_within p3.toInt64 (0 : Int64) (99 : Int64) q7.2).bind (fun q8 => if q8.1 = 0 then some ((-2000000000 : Int32), q8.2) else (f_X9_becomes ((20 : Int32) + p1) p3 q8.2).bind (fun q9 => some (q9.1, q9.2))))), ((3 : Int32), (f_X9_isThing p1 m).bind (fun q10 => if q10.1 = 0 then some ((-2000000000 : Int32), q10.2) else (f_X9_isWorth p3 q10.2).bind (fun q11 => if q11.1 = 0 then some ((-2000000000 : Int32), q11.2) else (f_X9_becomes ((30 : Int32) + p1) p3 q11.2).bind (fun q12 => some (q12.1, q12.2))))), ((4 : Int32), (f_X9_isThing p1 m).bind (fun q13 => if q13.1 = 0 then some ((-2000000000 : Int32), q13.2) else (f_X9_isDigit1 p3 q13.2).bind (fun q14 => if q14.1 = 0 then some ((-2000000000 : Int32), q14.2) else (f_X9_becomes ((36 : Int32) + p1) p3 q14.2).bind (fun q15 => some (q15.1, q15.2)))))] (some ((-2000000000 : Int32), m))
theorem k_X9_mend_E {g : Gx}  {p1 : Int32} {p2 : Int32} {p3 : Int32} {Q : Qy} {m : Mem} {t : Int32 × Mem} (h : f_X9_mend p1 p2 p3 m = some t) (hP : pI Q t) : WpM g 3 mi_X9_mend 0 [some (.ref 85), some (.int p1), some (.int p2), some (.int p3)] [] m (zM g mi_X9_mend Q) := by
  refine wp_iload_n dX9_mend_0 rfl rfl ?_
  refine wm_tsw [((0 : Int32), 36), ((1 : Int32), 63), ((2 : Int32), 93), ((3 : Int32), 128), ((4 : Int32), 158)] 188 dX9_mend_1 rfl (by decide) (by decide +kernel) (by decide +kernel) (by decide +kernel) h rfl ⟨fun h => ?_, fun h => ?_, fun h => ?_, fun h => ?_, fun h => ?_, trivial⟩ (fun h => ?_)
  · refine wp_aload_n dX9_mend_36 rfl rfl ?_
    refine wp_iload_n dX9_mend_37 rfl rfl ?_
    refine wm_callVI (As := [.int p1]) (rest := []) dX9_mend_38 ok_X9_211 (by decide) rfl s_85 ⟨_, rfl⟩ (Nat.le_of_ble_eq_true rfl) ⟨rfl, rfl⟩ rfl (fun t h => o_X9_isPerson h) h (fun q1 h => ?_)
    refine wm_if_eq 60 dX9_mend_41 rfl rfl h (fun h => ?_) (fun h => ?_)
    · refine wp_ldc dX9_mend_60 q1448 rfl ?_
      exact wm_iret dX9_mend_62 rfl ⟨rfl, rfl⟩ h hP
    · refine wp_iload_n dX9_mend_44 rfl rfl ?_
      refine wm_callSI (As := [.int p3]) (rest := []) dX9_mend_45 ok_X9_184 (by decide) rfl (Nat.le_of_ble_eq_true rfl) ⟨rfl, rfl⟩ rfl (fun t h => o_X9_isDigit1 h) h (fun q2 h => ?_)
      refine wm_if_eq 60 dX9_mend_48 rfl rfl h (fun h => ?_) (fun h => ?_)
      · refine wp_ldc dX9_mend_60 q1448 rfl ?_
        exact wm_iret dX9_mend_62 rfl ⟨rfl, rfl⟩ h hP
      · refine wp_aload_n dX9_mend_51 rfl rfl ?_
        refine wp_iload_n dX9_mend_52 rfl rfl ?_
        refine wp_iload_n dX9_mend_53 rfl rfl ?_
        refine wm_callVI (As := [.int p1, .int p3]) (rest := []) dX9_mend_54 ok_X9_214 (by decide) rfl s_85 ⟨_, rfl⟩ (Nat.le_of_ble_eq_true rfl) ⟨rfl, rfl⟩ rfl (fun t h => o_X9_becomes h) h (fun q3 h => ?_)
        refine wp_goto 62 dX9_mend_57 rfl ?_
        exact wm_iret dX9_mend_62 rfl ⟨rfl, rfl⟩ h hP
  · refine wp_aload_n dX9_mend_63 rfl rfl ?_
    refine wp_iload_n dX9_mend_64 rfl rfl ?_
    refine wm_callVI (As := [.int p1]) (rest := []) dX9_mend_65 ok_X9_211 (by decide) rfl s_85 ⟨_, rfl⟩ (Nat.le_of_ble_eq_true rfl) ⟨rfl, rfl⟩ rfl (fun t h => o_X9_isPerson h) h (fun q4 h => ?_)
    refine wm_if_eq 90 dX9_mend_68 rfl rfl h (fun h => ?_) (fun h => ?_)
    · refine wp_ldc dX9_mend_90 q1448 rfl ?_
      exact wm_iret dX9_mend_92 rfl ⟨rfl, rfl⟩ h hP
    · refine wp_iload_n dX9_mend_71 rfl rfl ?_
      refine wm_callSI (As := [.int p3]) (rest := []) dX9_mend_72 ok_X9_184 (by decide) rfl (Nat.le_of_ble_eq_true rfl) ⟨rfl, rfl⟩ rfl (fun t h => o_X9_isDigit1 h) h (fun q5 h => ?_)
      refine wm_if_eq 90 dX9_mend_75 rfl rfl h (fun h => ?_) (fun h => ?_)
      · refine wp_ldc dX9_mend_90 q1448 rfl ?_
        exact wm_iret dX9_mend_92 rfl ⟨rfl, rfl⟩ h hP
      · refine wp_aload_n dX9_mend_78 rfl rfl ?_
        refine wp_bipush (10 : Int32) dX9_mend_79 ib_10 rfl ?_
        refine wp_iload_n dX9_mend_81 rfl rfl ?_
        refine wp_iadd dX9_mend_82 rfl ?_
        refine wp_iload_n dX9_mend_83 rfl rfl ?_
        refine wm_callVI (As := [.int ((10 : Int32) + p1), .int p3]) (rest := []) dX9_mend_84 ok_X9_214 (by decide) rfl s_85 ⟨_, rfl⟩ (Nat.le_of_ble_eq_true rfl) ⟨rfl, rfl⟩ rfl (fun t h => o_X9_becomes h) h (fun q6 h => ?_)
        refine wp_goto 92 dX9_mend_87 rfl ?_
        exact wm_iret dX9_mend_92 rfl ⟨rfl, rfl⟩ h hP
  · refine wp_aload_n dX9_mend_93 rfl rfl ?_
    refine wp_iload_n dX9_mend_94 rfl rfl ?_
    refine wm_callVI (As := [.int p1]) (rest := []) dX9_mend_95 ok_X9_211 (by decide) rfl s_85 ⟨_, rfl⟩ (Nat.le_of_ble_eq_true rfl) ⟨rfl, rfl⟩ rfl (fun t h => o_X9_isPerson h) h (fun q7 h => ?_)
    refine wm_if_eq 125 dX9_mend_98 rfl rfl h (fun h => ?_) (fun h => ?_)
    · refine wp_ldc dX9_mend_125 q1448 rfl ?_
      exact wm_iret dX9_mend_127 rfl ⟨rfl, rfl⟩ h hP
    · refine wp_iload_n dX9_mend_101 rfl rfl ?_
      refine wp_i2l dX9_mend_102 rfl ?_
      refine wp_lconst (0 : Int64) dX9_mend_103 rfl rfl ?_
      refine wp_ldc2 dX9_mend_104 q1392 rfl ?_
      refine wm_callSI (As := [.long p3.toInt64, .long (0 : Int64), .long (99 : Int64)]) (rest := []) dX9_mend_107 ok_X9_162 (by decide) rfl (Nat.le_of_ble_eq_true rfl) ⟨rfl, rfl⟩ rfl (fun t h => o_X9_within h) h (fun q8 h => ?_)
      refine wm_if_eq 125 dX9_mend_110 rfl rfl h (fun h => ?_) (fun h => ?_)
      · refine wp_ldc dX9_mend_125 q1448 rfl ?_
        exact wm_iret dX9_mend_127 rfl ⟨rfl, rfl⟩ h hP
      · refine wp_aload_n dX9_mend_113 rfl rfl ?_
        refine wp_bipush (20 : Int32) dX9_mend_114 ib_20 rfl ?_
        refine wp_iload_n dX9_mend_116 rfl rfl ?_
        refine wp_iadd dX9_mend_117 rfl ?_
        refine wp_iload_n dX9_mend_118 rfl rfl ?_
        refine wm_callVI (As := [.int ((20 : Int32) + p1), .int p3]) (rest := []) dX9_mend_119 ok_X9_214 (by decide) rfl s_85 ⟨_, rfl⟩ (Nat.le_of_ble_eq_true rfl) ⟨rfl, rfl⟩ rfl (fun t h => o_X9_becomes h) h (fun q9 h => ?_)
        refine wp_goto 127 dX9_mend_122 rfl ?_
        exact wm_iret dX9_mend_127 rfl ⟨rfl, rfl⟩ h hP
  · refine wp_aload_n dX9_mend_128 rfl rfl ?_
    refine wp_iload_n dX9_mend_129 rfl rfl ?_
    refine wm_callVI (As := [.int p1]) (rest := []) dX9_mend_130 ok_X9_219 (by decide) rfl s_85 ⟨_, rfl⟩ (Nat.le_of_ble_eq_true rfl) ⟨rfl, rfl⟩ rfl (fun t h => o_X9_isThing h) h (fun q10 h => ?_)
    refine wm_if_eq 155 dX9_mend_133 rfl rfl h (fun h => ?_) (fun h => ?_)
    · refine wp_ldc dX9_mend_155 q1448 rfl ?_
      exact wm_iret dX9_mend_157 rfl ⟨rfl, rfl⟩ h hP
    · refine wp_iload_n dX9_mend_136 rfl rfl ?_
      refine wm_callSI (As := [.int p3]) (rest := []) dX9_mend_137 ok_X9_180 (by decide) rfl (Nat.le_of_ble_eq_true rfl) ⟨rfl, rfl⟩ rfl (fun t h => o_X9_isWorth h) h (fun q11 h => ?_)
      refine wm_if_eq 155 dX9_mend_140 rfl rfl h (fun h => ?_) (fun h => ?_)
      · refine wp_ldc dX9_mend_155 q1448 rfl ?_
        exact wm_iret dX9_mend_157 rfl ⟨rfl, rfl⟩ h hP
      · refine wp_aload_n dX9_mend_143 rfl rfl ?_
        refine wp_bipush (30 : Int32) dX9_mend_144 ib_30 rfl ?_
        refine wp_iload_n dX9_mend_146 rfl rfl ?_
        refine wp_iadd dX9_mend_147 rfl ?_
        refine wp_iload_n dX9_mend_148 rfl rfl ?_
        refine wm_callVI (As := [.int ((30 : Int32) + p1), .int p3]) (rest := []) dX9_mend_149 ok_X9_214 (by decide) rfl s_85 ⟨_, rfl⟩ (Nat.le_of_ble_eq_true rfl) ⟨rfl, rfl⟩ rfl (fun t h => o_X9_becomes h) h (fun q12 h => ?_)
        refine wp_goto 157 dX9_mend_152 rfl ?_
        exact wm_iret dX9_mend_157 rfl ⟨rfl, rfl⟩ h hP
  · refine wp_aload_n dX9_mend_158 rfl rfl ?_
    refine wp_iload_n dX9_mend_159 rfl rfl ?_
    refine wm_callVI (As := [.int p1]) (rest := []) dX9_mend_160 ok_X9_219 (by decide) rfl s_85 ⟨_, rfl⟩ (Nat.le_of_ble_eq_true rfl) ⟨rfl, rfl⟩ rfl (fun t h => o_X9_isThing h) h (fun q13 h => ?_)
    refine wm_if_eq 185 dX9_mend_163 rfl rfl h (fun h => ?_) (fun h => ?_)
    · refine wp_ldc dX9_mend_185 q1448 rfl ?_
      exact wm_iret dX9_mend_187 rfl ⟨rfl, rfl⟩ h hP
    · refine wp_iload_n dX9_mend_166 rfl rfl ?_
      refine wm_callSI (As := [.int p3]) (rest := []) dX9_mend_167 ok_X9_184 (by decide) rfl (Nat.le_of_ble_eq_true rfl) ⟨rfl, rfl⟩ rfl (fun t h => o_X9_isDigit1 h) h (fun q14 h => ?_)
      refine wm_if_eq 185 dX9_mend_170 rfl rfl h (fun h => ?_) (fun h => ?_)
      · refine wp_ldc dX9_mend_185 q1448 rfl ?_
        exact wm_iret dX9_mend_187 rfl ⟨rfl, rfl⟩ h hP
      · refine wp_aload_n dX9_mend_173 rfl rfl ?_
        refine wp_bipush (36 : Int32) dX9_mend_174 ib_36 rfl ?_
        refine wp_iload_n dX9_mend_176 rfl rfl ?_
        refine wp_iadd dX9_mend_177 rfl ?_
        refine wp_iload_n dX9_mend_178 rfl rfl ?_
        refine wm_callVI (As := [.int ((36 : Int32) + p1), .int p3]) (rest := []) dX9_mend_179 ok_X9_214 (by decide) rfl s_85 ⟨_, rfl⟩ (Nat.le_of_ble_eq_true rfl) ⟨rfl, rfl⟩ rfl (fun t h => o_X9_becomes h) h (fun q15 h => ?_)
        refine wp_goto 187 dX9_mend_182 rfl ?_
        exact wm_iret dX9_mend_187 rfl ⟨rfl, rfl⟩ h hP
  · refine wp_ldc dX9_mend_188 q1448 rfl ?_
    exact wm_iret dX9_mend_190 rfl ⟨rfl, rfl⟩ h hP
theorem o_X9_mend {g : Gx}  {p1 : Int32} {p2 : Int32} {p3 : Int32} {m : Mem} {t : Int32 × Mem} (h : f_X9_mend p1 p2 p3 m = some t) : MxM g 3 mi_X9_mend [.ref 85, .int p1, .int p2, .int p3] m (qI t) := mx_of pn_X9 (Nat.le_of_ble_eq_true rfl) (k_X9_mend_E h ⟨rfl, rfl, rfl, rfl, rfl⟩)
noncomputable def f_X9_of  (p1 : Int32) (p2 : Int32) (m : Mem) : Option (Int32 × Mem) := sw p2 [((0 : Int32), (f_X9_isPerson p1 m).bind (fun q1 => if q1.1 = 0 then some ((-2000000000 : Int32), q1.2) else ck p1 42 (some ((gI q1.2 86 (ix p1)), q1.2)))), ((1 : Int32), (f_X9_isPerson p1 m).bind (fun q2 => if q2.1 = 0 then some ((-2000000000 : Int32), q2.2) else ck ((10 : Int32) + p1) 42 (some ((gI q2.2 86 (ix ((10 : Int32) + p1))), q2.2)))), ((2 : Int32), (f_X9_isPerson p1 m).bind (fun q3 => if q3.1 = 0 then some ((-2000000000 : Int32), q3.2) else ck p1 10 (some ((gI q3.2 90 (ix p1)), q3.2)))), ((3 : Int32), (f_X9_isPerson p1 m).bind (fun q4 => if q4.1 = 0 then some ((-2000000000 : Int32), q4.2) else ck ((20 : Int32) + p1) 42 (some ((gI q4.2 86 (ix ((20 : Int32) + p1))), q4.2)))), ((4 : Int32), some ((-2000000000 : Int32), m)), ((5 : Int32), some ((-2000000000 : Int32), m)), ((6 : Int32), some ((-2000000000 : Int32), m)), ((7 : Int32), some ((-2000000000 : Int32), m)), ((8 : Int32), some ((-2000000000 : Int32), m)), ((9 : Int32), some ((-2000000000 : Int32), m)), ((10 : Int32), (f_X9_isThing p1 m).bind (fun q5 => if q5.1 = 0 then some ((-2000000000 : Int32), q5.2) else ck ((30 : Int32) + p1) 42 (some ((gI q5.2 86 (ix ((30 : Int32) + p1))), q5.2)))), ((11 : Int32), (f_X9_isThing p1 m).bind (fun q6 => if q6.1 = 0 then some ((-2000000000 : Int32), q6.2) else ck ((36 : Int32) + p1) 42 (some ((gI q6.2 86 (ix ((36 : Int32) + p1))), q6.2)))), ((12 : Int32), some ((-2000000000 : Int32), m)), ((13 : Int32), some ((-2000000000 : Int32), m)), ((14 : Int32), some ((-2000000000 : Int32), m)), ((15 : Int32), some ((-2000000000 : Int32), m)), ((16 : Int32), some ((-2000000000 : Int32), m)), ((17 : Int32), some ((-2000000000 : Int32), m)), ((18 : Int32), some ((-2000000000 : Int32), m)), ((19 : Int32), some ((-2000000000 : Int32), m)), ((20 : Int32), (f_X9_isCard p1 m).bind (fun q7 => if q7.1 = 0 then some ((-2000000000 : Int32), q7.2) else ck p1 20 (some ((gI q7.2 91 (ix p1)), q7.2)))), ((21 : Int32), (f_X9_isCard p1 m).bind (fun q8 => if q8.1 = 0 then some ((-2000000000 : Int32), q8.2) else ck p1 20 (some ((gI q8.2 92 (ix p1)), q8.2)))), ((22 : Int32), (f_X9_isCard p1 m).bind (fun q9 => if q9.1 = 0 then some ((-2000000000 : Int32), q9.2) else ck p1 20 (some ((gI q9.2 93 (ix p1)), q9.2))))] (some ((-2000000000 : Int32), m))
theorem k_X9_of_E {g : Gx}  {p1 : Int32} {p2 : Int32} {Q : Qy} {m : Mem} {t : Int32 × Mem} (h : f_X9_of p1 p2 m = some t) (hP : pI Q t) : WpM g 3 mi_X9_of 0 [some (.ref 85), some (.int p1), some (.int p2)] [] m (zM g mi_X9_of Q) := by
  refine wp_iload_n dX9_of_0 rfl rfl ?_
  refine wm_tsw [((0 : Int32), 108), ((1 : Int32), 128), ((2 : Int32), 151), ((3 : Int32), 171), ((4 : Int32), 300), ((5 : Int32), 300), ((6 : Int32), 300), ((7 : Int32), 300), ((8 : Int32), 300), ((9 : Int32), 300), ((10 : Int32), 194), ((11 : Int32), 217), ((12 : Int32), 300), ((13 : Int32), 300), ((14 : Int32), 300), ((15 : Int32), 300), ((16 : Int32), 300), ((17 : Int32), 300), ((18 : Int32), 300), ((19 : Int32), 300), ((20 : Int32), 240), ((21 : Int32), 260), ((22 : Int32), 280)] 300 dX9_of_1 rfl (by decide) (by decide +kernel) (by decide +kernel) (by decide +kernel) h rfl ⟨fun h => ?_, fun h => ?_, fun h => ?_, fun h => ?_, fun h => ?_, fun h => ?_, fun h => ?_, fun h => ?_, fun h => ?_, fun h => ?_, fun h => ?_, fun h => ?_, fun h => ?_, fun h => ?_, fun h => ?_, fun h => ?_, fun h => ?_, fun h => ?_, fun h => ?_, fun h => ?_, fun h => ?_, fun h => ?_, fun h => ?_, trivial⟩ (fun h => ?_)
  · refine wp_aload_n dX9_of_108 rfl rfl ?_
    refine wp_iload_n dX9_of_109 rfl rfl ?_
    refine wm_callVI (As := [.int p1]) (rest := []) dX9_of_110 ok_X9_211 (by decide) rfl s_85 ⟨_, rfl⟩ (Nat.le_of_ble_eq_true rfl) ⟨rfl, rfl⟩ rfl (fun t h => o_X9_isPerson h) h (fun q1 h => ?_)
    refine wm_if_eq 125 dX9_of_113 rfl rfl h (fun h => ?_) (fun h => ?_)
    · refine wp_ldc dX9_of_125 q1448 rfl ?_
      exact wm_iret dX9_of_127 rfl ⟨rfl, rfl⟩ h hP
    · refine wp_aload_n dX9_of_116 rfl rfl ?_
      refine wm_getR dX9_of_117 s_85 fk_X9_9 rfl r_85_0 rfl ?_
      refine wp_iload_n dX9_of_120 rfl rfl ?_
      refine wm_iald dX9_of_121 s_86 rfl h (fun h => ?_)
      refine wp_goto 127 dX9_of_122 rfl ?_
      exact wm_iret dX9_of_127 rfl ⟨rfl, rfl⟩ h hP
  · refine wp_aload_n dX9_of_128 rfl rfl ?_
    refine wp_iload_n dX9_of_129 rfl rfl ?_
    refine wm_callVI (As := [.int p1]) (rest := []) dX9_of_130 ok_X9_211 (by decide) rfl s_85 ⟨_, rfl⟩ (Nat.le_of_ble_eq_true rfl) ⟨rfl, rfl⟩ rfl (fun t h => o_X9_isPerson h) h (fun q2 h => ?_)
    refine wm_if_eq 148 dX9_of_133 rfl rfl h (fun h => ?_) (fun h => ?_)
    · refine wp_ldc dX9_of_148 q1448 rfl ?_
      exact wm_iret dX9_of_150 rfl ⟨rfl, rfl⟩ h hP
    · refine wp_aload_n dX9_of_136 rfl rfl ?_
      refine wm_getR dX9_of_137 s_85 fk_X9_9 rfl r_85_0 rfl ?_
      refine wp_bipush (10 : Int32) dX9_of_140 ib_10 rfl ?_
      refine wp_iload_n dX9_of_142 rfl rfl ?_
      refine wp_iadd dX9_of_143 rfl ?_
      refine wm_iald dX9_of_144 s_86 rfl h (fun h => ?_)
      refine wp_goto 150 dX9_of_145 rfl ?_
      exact wm_iret dX9_of_150 rfl ⟨rfl, rfl⟩ h hP
  · refine wp_aload_n dX9_of_151 rfl rfl ?_
    refine wp_iload_n dX9_of_152 rfl rfl ?_
    refine wm_callVI (As := [.int p1]) (rest := []) dX9_of_153 ok_X9_211 (by decide) rfl s_85 ⟨_, rfl⟩ (Nat.le_of_ble_eq_true rfl) ⟨rfl, rfl⟩ rfl (fun t h => o_X9_isPerson h) h (fun q3 h => ?_)
    refine wm_if_eq 168 dX9_of_156 rfl rfl h (fun h => ?_) (fun h => ?_)
    · refine wp_ldc dX9_of_168 q1448 rfl ?_
      exact wm_iret dX9_of_170 rfl ⟨rfl, rfl⟩ h hP
    · refine wp_aload_n dX9_of_159 rfl rfl ?_
      refine wm_getR dX9_of_160 s_85 fk_X9_22 rfl r_85_7 rfl ?_
      refine wp_iload_n dX9_of_163 rfl rfl ?_
      refine wm_iald dX9_of_164 s_90 rfl h (fun h => ?_)
      refine wp_goto 170 dX9_of_165 rfl ?_
      exact wm_iret dX9_of_170 rfl ⟨rfl, rfl⟩ h hP
  · refine wp_aload_n dX9_of_171 rfl rfl ?_
    refine wp_iload_n dX9_of_172 rfl rfl ?_
    refine wm_callVI (As := [.int p1]) (rest := []) dX9_of_173 ok_X9_211 (by decide) rfl s_85 ⟨_, rfl⟩ (Nat.le_of_ble_eq_true rfl) ⟨rfl, rfl⟩ rfl (fun t h => o_X9_isPerson h) h (fun q4 h => ?_)
    refine wm_if_eq 191 dX9_of_176 rfl rfl h (fun h => ?_) (fun h => ?_)
    · refine wp_ldc dX9_of_191 q1448 rfl ?_
      exact wm_iret dX9_of_193 rfl ⟨rfl, rfl⟩ h hP
    · refine wp_aload_n dX9_of_179 rfl rfl ?_
      refine wm_getR dX9_of_180 s_85 fk_X9_9 rfl r_85_0 rfl ?_
      refine wp_bipush (20 : Int32) dX9_of_183 ib_20 rfl ?_
      refine wp_iload_n dX9_of_185 rfl rfl ?_
      refine wp_iadd dX9_of_186 rfl ?_
      refine wm_iald dX9_of_187 s_86 rfl h (fun h => ?_)
      refine wp_goto 193 dX9_of_188 rfl ?_
      exact wm_iret dX9_of_193 rfl ⟨rfl, rfl⟩ h hP
  · refine wp_ldc dX9_of_300 q1448 rfl ?_
    exact wm_iret dX9_of_302 rfl ⟨rfl, rfl⟩ h hP
  · refine wp_ldc dX9_of_300 q1448 rfl ?_
    exact wm_iret dX9_of_302 rfl ⟨rfl, rfl⟩ h hP
  · refine wp_ldc dX9_of_300 q1448 rfl ?_
    exact wm_iret dX9_of_302 rfl ⟨rfl, rfl⟩ h hP
  · refine wp_ldc dX9_of_300 q1448 rfl ?_
    exact wm_iret dX9_of_302 rfl ⟨rfl, rfl⟩ h hP
  · refine wp_ldc dX9_of_300 q1448 rfl ?_
    exact wm_iret dX9_of_302 rfl ⟨rfl, rfl⟩ h hP
  · refine wp_ldc dX9_of_300 q1448 rfl ?_
    exact wm_iret dX9_of_302 rfl ⟨rfl, rfl⟩ h hP
  · refine wp_aload_n dX9_of_194 rfl rfl ?_
    refine wp_iload_n dX9_of_195 rfl rfl ?_
    refine wm_callVI (As := [.int p1]) (rest := []) dX9_of_196 ok_X9_219 (by decide) rfl s_85 ⟨_, rfl⟩ (Nat.le_of_ble_eq_true rfl) ⟨rfl, rfl⟩ rfl (fun t h => o_X9_isThing h) h (fun q5 h => ?_)
    refine wm_if_eq 214 dX9_of_199 rfl rfl h (fun h => ?_) (fun h => ?_)
    · refine wp_ldc dX9_of_214 q1448 rfl ?_
      exact wm_iret dX9_of_216 rfl ⟨rfl, rfl⟩ h hP
    · refine wp_aload_n dX9_of_202 rfl rfl ?_
      refine wm_getR dX9_of_203 s_85 fk_X9_9 rfl r_85_0 rfl ?_
      refine wp_bipush (30 : Int32) dX9_of_206 ib_30 rfl ?_
      refine wp_iload_n dX9_of_208 rfl rfl ?_
      refine wp_iadd dX9_of_209 rfl ?_
      refine wm_iald dX9_of_210 s_86 rfl h (fun h => ?_)
      refine wp_goto 216 dX9_of_211 rfl ?_
      exact wm_iret dX9_of_216 rfl ⟨rfl, rfl⟩ h hP
  · refine wp_aload_n dX9_of_217 rfl rfl ?_
    refine wp_iload_n dX9_of_218 rfl rfl ?_
    refine wm_callVI (As := [.int p1]) (rest := []) dX9_of_219 ok_X9_219 (by decide) rfl s_85 ⟨_, rfl⟩ (Nat.le_of_ble_eq_true rfl) ⟨rfl, rfl⟩ rfl (fun t h => o_X9_isThing h) h (fun q6 h => ?_)
    refine wm_if_eq 237 dX9_of_222 rfl rfl h (fun h => ?_) (fun h => ?_)
    · refine wp_ldc dX9_of_237 q1448 rfl ?_
      exact wm_iret dX9_of_239 rfl ⟨rfl, rfl⟩ h hP
    · refine wp_aload_n dX9_of_225 rfl rfl ?_
      refine wm_getR dX9_of_226 s_85 fk_X9_9 rfl r_85_0 rfl ?_
      refine wp_bipush (36 : Int32) dX9_of_229 ib_36 rfl ?_
      refine wp_iload_n dX9_of_231 rfl rfl ?_
      refine wp_iadd dX9_of_232 rfl ?_
      refine wm_iald dX9_of_233 s_86 rfl h (fun h => ?_)
      refine wp_goto 239 dX9_of_234 rfl ?_
      exact wm_iret dX9_of_239 rfl ⟨rfl, rfl⟩ h hP
  · refine wp_ldc dX9_of_300 q1448 rfl ?_
    exact wm_iret dX9_of_302 rfl ⟨rfl, rfl⟩ h hP
  · refine wp_ldc dX9_of_300 q1448 rfl ?_
    exact wm_iret dX9_of_302 rfl ⟨rfl, rfl⟩ h hP
  · refine wp_ldc dX9_of_300 q1448 rfl ?_
    exact wm_iret dX9_of_302 rfl ⟨rfl, rfl⟩ h hP
  · refine wp_ldc dX9_of_300 q1448 rfl ?_
    exact wm_iret dX9_of_302 rfl ⟨rfl, rfl⟩ h hP
  · refine wp_ldc dX9_of_300 q1448 rfl ?_
    exact wm_iret dX9_of_302 rfl ⟨rfl, rfl⟩ h hP
  · refine wp_ldc dX9_of_300 q1448 rfl ?_
    exact wm_iret dX9_of_302 rfl ⟨rfl, rfl⟩ h hP
  · refine wp_ldc dX9_of_300 q1448 rfl ?_
    exact wm_iret dX9_of_302 rfl ⟨rfl, rfl⟩ h hP
  · refine wp_ldc dX9_of_300 q1448 rfl ?_
    exact wm_iret dX9_of_302 rfl ⟨rfl, rfl⟩ h hP
  · refine wp_aload_n dX9_of_240 rfl rfl ?_
    refine wp_iload_n dX9_of_241 rfl rfl ?_
    refine wm_callVI (As := [.int p1]) (rest := []) dX9_of_242 ok_X9_222 (by decide) rfl s_85 ⟨_, rfl⟩ (Nat.le_of_ble_eq_true rfl) ⟨rfl, rfl⟩ rfl (fun t h => o_X9_isCard h) h (fun q7 h => ?_)
    refine wm_if_eq 257 dX9_of_245 rfl rfl h (fun h => ?_) (fun h => ?_)
    · refine wp_ldc dX9_of_257 q1448 rfl ?_
      exact wm_iret dX9_of_259 rfl ⟨rfl, rfl⟩ h hP
    · refine wp_aload_n dX9_of_248 rfl rfl ?_
      refine wm_getR dX9_of_249 s_85 fk_X9_25 rfl r_85_10 rfl ?_
      refine wp_iload_n dX9_of_252 rfl rfl ?_
      refine wm_iald dX9_of_253 s_91 rfl h (fun h => ?_)
      refine wp_goto 259 dX9_of_254 rfl ?_
      exact wm_iret dX9_of_259 rfl ⟨rfl, rfl⟩ h hP
  · refine wp_aload_n dX9_of_260 rfl rfl ?_
    refine wp_iload_n dX9_of_261 rfl rfl ?_
    refine wm_callVI (As := [.int p1]) (rest := []) dX9_of_262 ok_X9_222 (by decide) rfl s_85 ⟨_, rfl⟩ (Nat.le_of_ble_eq_true rfl) ⟨rfl, rfl⟩ rfl (fun t h => o_X9_isCard h) h (fun q8 h => ?_)
    refine wm_if_eq 277 dX9_of_265 rfl rfl h (fun h => ?_) (fun h => ?_)
    · refine wp_ldc dX9_of_277 q1448 rfl ?_
      exact wm_iret dX9_of_279 rfl ⟨rfl, rfl⟩ h hP
    · refine wp_aload_n dX9_of_268 rfl rfl ?_
      refine wm_getR dX9_of_269 s_85 fk_X9_28 rfl r_85_11 rfl ?_
      refine wp_iload_n dX9_of_272 rfl rfl ?_
      refine wm_iald dX9_of_273 s_92 rfl h (fun h => ?_)
      refine wp_goto 279 dX9_of_274 rfl ?_
      exact wm_iret dX9_of_279 rfl ⟨rfl, rfl⟩ h hP
  · refine wp_aload_n dX9_of_280 rfl rfl ?_
    refine wp_iload_n dX9_of_281 rfl rfl ?_
    refine wm_callVI (As := [.int p1]) (rest := []) dX9_of_282 ok_X9_222 (by decide) rfl s_85 ⟨_, rfl⟩ (Nat.le_of_ble_eq_true rfl) ⟨rfl, rfl⟩ rfl (fun t h => o_X9_isCard h) h (fun q9 h => ?_)
    refine wm_if_eq 297 dX9_of_285 rfl rfl h (fun h => ?_) (fun h => ?_)
    · refine wp_ldc dX9_of_297 q1448 rfl ?_
      exact wm_iret dX9_of_299 rfl ⟨rfl, rfl⟩ h hP
    · refine wp_aload_n dX9_of_288 rfl rfl ?_
      refine wm_getR dX9_of_289 s_85 fk_X9_31 rfl r_85_12 rfl ?_
      refine wp_iload_n dX9_of_292 rfl rfl ?_
      refine wm_iald dX9_of_293 s_93 rfl h (fun h => ?_)
      refine wp_goto 299 dX9_of_294 rfl ?_
      exact wm_iret dX9_of_299 rfl ⟨rfl, rfl⟩ h hP
  · refine wp_ldc dX9_of_300 q1448 rfl ?_
    exact wm_iret dX9_of_302 rfl ⟨rfl, rfl⟩ h hP
theorem o_X9_of {g : Gx}  {p1 : Int32} {p2 : Int32} {m : Mem} {t : Int32 × Mem} (h : f_X9_of p1 p2 m = some t) : MxM g 3 mi_X9_of [.ref 85, .int p1, .int p2] m (qI t) := mx_of pn_X9 (Nat.le_of_ble_eq_true rfl) (k_X9_of_E h ⟨rfl, rfl, rfl, rfl, rfl⟩)
noncomputable def f_X9_order  (p1 : Int32) (m : Mem) : Option (Int32 × Mem) := (f_X9_within p1.toInt64 (0 : Int64) (2 : Int64) m).bind (fun q1 => if ¬ q1.1 = 0 then (f_X9_isTable q1.2).bind (fun q2 => if q2.1 = 0 then some ((-5 : Int32), q2.2) else if (gI q2.2 85 8) ≤ (5 : Int32) then (f_X9_plain q2.2).bind (fun q3 => bnd (sI q3 85 63 (-1 : Int32)) (fun m4 => (f_X9_goesOrders 7 (0 : Int32) (0 : Int32) (0 : Int32) m4).bind (fun q5 => (f_X9_bestTold p1 q5).bind (fun q6 => some (q6.1, q6.2))))) else some ((-5 : Int32), q2.2)) else some ((-1 : Int32), q1.2))
theorem k_X9_order_E {g : Gx}  {p1 : Int32} {Q : Qy} {m : Mem} {t : Int32 × Mem} (h : f_X9_order p1 m = some t) (hP : pI Q t) : WpM g 477 mi_X9_order 0 [some (.ref 85), some (.int p1)] [] m (zM g mi_X9_order Q) := by
  refine wp_iload_n dX9_order_0 rfl rfl ?_
  refine wp_i2l dX9_order_1 rfl ?_
  refine wp_lconst (0 : Int64) dX9_order_2 rfl rfl ?_
  refine wp_ldc2 dX9_order_3 q1677 rfl ?_
  refine wm_callSI (As := [.long p1.toInt64, .long (0 : Int64), .long (2 : Int64)]) (rest := []) dX9_order_6 ok_X9_162 (by decide) rfl (Nat.le_of_ble_eq_true rfl) ⟨rfl, rfl⟩ rfl (fun t h => o_X9_within h) h (fun q1 h => ?_)
  refine wm_if_ne 14 dX9_order_9 rfl rfl h (fun h => ?_) (fun h => ?_)
  · refine wp_aload_n dX9_order_14 rfl rfl ?_
    refine wm_callVI (As := []) (rest := []) dX9_order_15 ok_X9_394 (by decide) rfl s_85 ⟨_, rfl⟩ (Nat.le_of_ble_eq_true rfl) ⟨rfl, rfl⟩ rfl (fun t h => o_X9_isTable h) h (fun q2 h => ?_)
    refine wm_if_eq 29 dX9_order_18 rfl rfl h (fun h => ?_) (fun h => ?_)
    · refine wp_bipush (-5 : Int32) dX9_order_29 ib_m5 rfl ?_
      exact wm_iret dX9_order_31 rfl ⟨rfl, rfl⟩ h hP
    · refine wp_aload_n dX9_order_21 rfl rfl ?_
      refine wm_getI dX9_order_22 s_85 fk_X9_166 rfl rfl ?_
      refine wp_iconst (5 : Int32) dX9_order_25 ic_5 rfl ?_
      refine wm_icmp_le 32 dX9_order_26 rfl rfl h (fun h => ?_) (fun h => ?_)
      · refine wp_aload_n dX9_order_32 rfl rfl ?_
        refine wm_callVN (As := []) (rest := []) dX9_order_33 ok_X9_388 (by decide) rfl s_85 ⟨_, rfl⟩ (Nat.le_of_ble_eq_true rfl) ⟨rfl, rfl⟩ rfl (fun t h => o_X9_plain h) h (fun q3 h => ?_)
        refine wp_aload_n dX9_order_36 rfl rfl ?_
        refine wp_iconst (-1 : Int32) dX9_order_37 ic_m1 rfl ?_
        refine wm_putI dX9_order_38 s_85 fk_X9_424 rfl rfl h (fun m4 h => ?_)
        refine wp_aload_n dX9_order_41 rfl rfl ?_
        refine wp_iconst (0 : Int32) dX9_order_42 ic_0 rfl ?_
        refine wp_iconst (0 : Int32) dX9_order_43 ic_0 rfl ?_
        refine wp_iconst (0 : Int32) dX9_order_44 ic_0 rfl ?_
        refine wm_callVN (As := [.int (0 : Int32), .int (0 : Int32), .int (0 : Int32)]) (rest := []) dX9_order_45 ok_X9_441 (by decide) rfl s_85 ⟨_, rfl⟩ (Nat.le_of_ble_eq_true rfl) ⟨rfl, rfl⟩ rfl (fun t h => o_X9_goesOrders 7 h) h (fun q5 h => ?_)
        refine wp_aload_n dX9_order_48 rfl rfl ?_
        refine wp_iload_n dX9_order_49 rfl rfl ?_
        refine wm_callVI (As := [.int p1]) (rest := []) dX9_order_50 ok_X9_438 (by decide) rfl s_85 ⟨_, rfl⟩ (Nat.le_of_ble_eq_true rfl) ⟨rfl, rfl⟩ rfl (fun t h => o_X9_bestTold h) h (fun q6 h => ?_)
        exact wm_iret dX9_order_53 rfl ⟨rfl, rfl⟩ h hP
      · refine wp_bipush (-5 : Int32) dX9_order_29 ib_m5 rfl ?_
        exact wm_iret dX9_order_31 rfl ⟨rfl, rfl⟩ h hP
  · refine wp_iconst (-1 : Int32) dX9_order_12 ic_m1 rfl ?_
    exact wm_iret dX9_order_13 rfl ⟨rfl, rfl⟩ h hP
theorem o_X9_order {g : Gx}  {p1 : Int32} {m : Mem} {t : Int32 × Mem} (h : f_X9_order p1 m = some t) : MxM g 477 mi_X9_order [.ref 85, .int p1] m (qI t) := mx_of pn_X9 (Nat.le_of_ble_eq_true rfl) (k_X9_order_E h ⟨rfl, rfl, rfl, rfl, rfl⟩)
noncomputable def f_X9_person  (p1 : Int32) (p2 : Int32) (m : Mem) : Option (Int32 × Mem) := (f_X9_within p1.toInt64 (0 : Int64) (99 : Int64) m).bind (fun q1 => if q1.1 = 0 then some ((-1 : Int32), q1.2) else (f_X9_within p2.toInt64 (0 : Int64) (9999 : Int64) q1.2).bind (fun q2 => if ¬ q2.1 = 0 then if ¬ (gI q2.2 85 6) = (10 : Int32) then ck (gI q2.2 85 6) 42 (bnd (sI q2.2 86 (ix (gI q2.2 85 6)) (p1 / (10 : Int32))) (fun m3 => ck ((10 : Int32) + (gI m3 85 6)) 42 (bnd (sI m3 86 (ix ((10 : Int32) + (gI m3 85 6))) (p1 - p1 / (10 : Int32) * (10 : Int32))) (fun m4 => ck (gI m4 85 6) 10 (bnd (sI m4 90 (ix (gI m4 85 6)) (p2 / (100 : Int32))) (fun m5 => ck ((20 : Int32) + (gI m5 85 6)) 42 (bnd (sI m5 86 (ix ((20 : Int32) + (gI m5 85 6))) (p2 - p2 / (100 : Int32) * (100 : Int32))) (fun m6 => bnd (sI m6 85 6 ((gI m6 85 6) + (1 : Int32))) (fun m7 => some (((gI m7 85 6) - (1 : Int32)), m7)))))))))) else some ((-3 : Int32), q2.2) else some ((-1 : Int32), q2.2)))
theorem k_X9_person_E {g : Gx}  {p1 : Int32} {p2 : Int32} {Q : Qy} {m : Mem} {t : Int32 × Mem} (h : f_X9_person p1 p2 m = some t) (hP : pI Q t) : WpM g 2 mi_X9_person 0 [some (.ref 85), some (.int p1), some (.int p2)] [] m (zM g mi_X9_person Q) := by
  refine wp_iload_n dX9_person_0 rfl rfl ?_
  refine wp_i2l dX9_person_1 rfl ?_
  refine wp_lconst (0 : Int64) dX9_person_2 rfl rfl ?_
  refine wp_ldc2 dX9_person_3 q1392 rfl ?_
  refine wm_callSI (As := [.long p1.toInt64, .long (0 : Int64), .long (99 : Int64)]) (rest := []) dX9_person_6 ok_X9_162 (by decide) rfl (Nat.le_of_ble_eq_true rfl) ⟨rfl, rfl⟩ rfl (fun t h => o_X9_within h) h (fun q1 h => ?_)
  refine wm_if_eq 24 dX9_person_9 rfl rfl h (fun h => ?_) (fun h => ?_)
  · refine wp_iconst (-1 : Int32) dX9_person_24 ic_m1 rfl ?_
    exact wm_iret dX9_person_25 rfl ⟨rfl, rfl⟩ h hP
  · refine wp_iload_n dX9_person_12 rfl rfl ?_
    refine wp_i2l dX9_person_13 rfl ?_
    refine wp_lconst (0 : Int64) dX9_person_14 rfl rfl ?_
    refine wp_ldc2 dX9_person_15 q1396 rfl ?_
    refine wm_callSI (As := [.long p2.toInt64, .long (0 : Int64), .long (9999 : Int64)]) (rest := []) dX9_person_18 ok_X9_162 (by decide) rfl (Nat.le_of_ble_eq_true rfl) ⟨rfl, rfl⟩ rfl (fun t h => o_X9_within h) h (fun q2 h => ?_)
    refine wm_if_ne 26 dX9_person_21 rfl rfl h (fun h => ?_) (fun h => ?_)
    · refine wp_aload_n dX9_person_26 rfl rfl ?_
      refine wm_getI dX9_person_27 s_85 fk_X9_159 rfl rfl ?_
      refine wp_bipush (10 : Int32) dX9_person_30 ib_10 rfl ?_
      refine wm_icmp_ne 38 dX9_person_32 rfl rfl h (fun h => ?_) (fun h => ?_)
      · refine wp_aload_n dX9_person_38 rfl rfl ?_
        refine wm_getR dX9_person_39 s_85 fk_X9_9 rfl r_85_0 rfl ?_
        refine wp_aload_n dX9_person_42 rfl rfl ?_
        refine wm_getI dX9_person_43 s_85 fk_X9_159 rfl rfl ?_
        refine wp_iload_n dX9_person_46 rfl rfl ?_
        refine wp_bipush (10 : Int32) dX9_person_47 ib_10 rfl ?_
        refine wp_idiv dX9_person_49 (by decide) rfl ?_
        refine wm_iast dX9_person_50 s_86 rfl h (fun m3 h => ?_)
        refine wp_aload_n dX9_person_51 rfl rfl ?_
        refine wm_getR dX9_person_52 s_85 fk_X9_9 rfl r_85_0 rfl ?_
        refine wp_bipush (10 : Int32) dX9_person_55 ib_10 rfl ?_
        refine wp_aload_n dX9_person_57 rfl rfl ?_
        refine wm_getI dX9_person_58 s_85 fk_X9_159 rfl rfl ?_
        refine wp_iadd dX9_person_61 rfl ?_
        refine wp_iload_n dX9_person_62 rfl rfl ?_
        refine wp_bipush (10 : Int32) dX9_person_63 ib_10 rfl ?_
        refine wp_irem dX9_person_65 (by decide) rfl ?_
        refine wm_iast dX9_person_66 s_86 rfl h (fun m4 h => ?_)
        refine wp_aload_n dX9_person_67 rfl rfl ?_
        refine wm_getR dX9_person_68 s_85 fk_X9_22 rfl r_85_7 rfl ?_
        refine wp_aload_n dX9_person_71 rfl rfl ?_
        refine wm_getI dX9_person_72 s_85 fk_X9_159 rfl rfl ?_
        refine wp_iload_n dX9_person_75 rfl rfl ?_
        refine wp_bipush (100 : Int32) dX9_person_76 ib_100 rfl ?_
        refine wp_idiv dX9_person_78 (by decide) rfl ?_
        refine wm_iast dX9_person_79 s_90 rfl h (fun m5 h => ?_)
        refine wp_aload_n dX9_person_80 rfl rfl ?_
        refine wm_getR dX9_person_81 s_85 fk_X9_9 rfl r_85_0 rfl ?_
        refine wp_bipush (20 : Int32) dX9_person_84 ib_20 rfl ?_
        refine wp_aload_n dX9_person_86 rfl rfl ?_
        refine wm_getI dX9_person_87 s_85 fk_X9_159 rfl rfl ?_
        refine wp_iadd dX9_person_90 rfl ?_
        refine wp_iload_n dX9_person_91 rfl rfl ?_
        refine wp_bipush (100 : Int32) dX9_person_92 ib_100 rfl ?_
        refine wp_irem dX9_person_94 (by decide) rfl ?_
        refine wm_iast dX9_person_95 s_86 rfl h (fun m6 h => ?_)
        refine wp_aload_n dX9_person_96 rfl rfl ?_
        refine wp_dup dX9_person_97 rfl rfl ?_
        refine wm_getI dX9_person_98 s_85 fk_X9_159 rfl rfl ?_
        refine wp_iconst (1 : Int32) dX9_person_101 ic_1 rfl ?_
        refine wp_iadd dX9_person_102 rfl ?_
        refine wm_putI dX9_person_103 s_85 fk_X9_159 rfl rfl h (fun m7 h => ?_)
        refine wp_aload_n dX9_person_106 rfl rfl ?_
        refine wm_getI dX9_person_107 s_85 fk_X9_159 rfl rfl ?_
        refine wp_iconst (1 : Int32) dX9_person_110 ic_1 rfl ?_
        refine wp_isub dX9_person_111 rfl ?_
        exact wm_iret dX9_person_112 rfl ⟨rfl, rfl⟩ h hP
      · refine wp_bipush (-3 : Int32) dX9_person_35 ib_m3 rfl ?_
        exact wm_iret dX9_person_37 rfl ⟨rfl, rfl⟩ h hP
    · refine wp_iconst (-1 : Int32) dX9_person_24 ic_m1 rfl ?_
      exact wm_iret dX9_person_25 rfl ⟨rfl, rfl⟩ h hP
theorem o_X9_person {g : Gx}  {p1 : Int32} {p2 : Int32} {m : Mem} {t : Int32 × Mem} (h : f_X9_person p1 p2 m = some t) : MxM g 2 mi_X9_person [.ref 85, .int p1, .int p2] m (qI t) := mx_of pn_X9 (Nat.le_of_ble_eq_true rfl) (k_X9_person_E h ⟨rfl, rfl, rfl, rfl, rfl⟩)
noncomputable def f_X9_put_J37  (v5 : Int32) (m : Mem) : Option (Int32 × Mem) := if ¬ v5 = 0 then some (v5, m) else some ((1 : Int32), m)
theorem k_X9_put_J37 {g : Gx}  {v5 : Int32}  {Q : Qy} {m : Mem} {t : Int32 × Mem} (h : f_X9_put_J37 v5 m = some t) (hP : pI Q t) : WpM g 4 mi_X9_put 37 [none, none, none, none, none, some (.int v5)] [] m (zM g mi_X9_put Q) := by
  refine wp_iload dX9_put_37 rfl rfl ?_
  refine wm_if_ne 46 dX9_put_39 rfl rfl h (fun h => ?_) (fun h => ?_)
  · refine wp_iload dX9_put_46 rfl rfl ?_
    exact wm_iret dX9_put_48 rfl ⟨rfl, rfl⟩ h hP
  · refine wp_iconst (1 : Int32) dX9_put_42 ic_1 rfl ?_
    refine wp_goto 48 dX9_put_43 rfl ?_
    exact wm_iret dX9_put_48 rfl ⟨rfl, rfl⟩ h hP
noncomputable def f_X9_put  (p1 : Int32) (p2 : Int32) (p3 : Int64) (m : Mem) : Option (Int32 × Mem) := (f_X9_refusal p1 p2 m).bind (fun q1 => if ¬ q1.1 = 0 then f_X9_put_J37 q1.1 q1.2 else ck p1 6 ((f_X9_asSort ((gI q1.2 126 (ix p1)) - (50 : Int32)) p3 q1.2).bind (fun q2 => ck (((60 : Int32) * p1) + p2) 360 (bnd (sJ q2.2 128 (ix (((60 : Int32) * p1) + p2)) q2.1) (fun m3 => f_X9_put_J37 q1.1 m3)))))
theorem k_X9_put_E {g : Gx}  {p1 : Int32} {p2 : Int32} {p3 : Int64} {Q : Qy} {m : Mem} {t : Int32 × Mem} (h : f_X9_put p1 p2 p3 m = some t) (hP : pI Q t) : WpM g 4 mi_X9_put 0 [some (.ref 85), some (.int p1), some (.int p2), some (.long p3), none, none] [] m (zM g mi_X9_put Q) := by
  refine wp_aload_n dX9_put_0 rfl rfl ?_
  refine wp_iload_n dX9_put_1 rfl rfl ?_
  refine wp_iload_n dX9_put_2 rfl rfl ?_
  refine wm_callVI (As := [.int p1, .int p2]) (rest := []) dX9_put_3 ok_X9_478 (by decide) rfl s_85 ⟨_, rfl⟩ (Nat.le_of_ble_eq_true rfl) ⟨rfl, rfl⟩ rfl (fun t h => o_X9_refusal h) h (fun q1 h => ?_)
  refine wp_istore (L' := [some (.ref 85), some (.int p1), some (.int p2), some (.long p3), none, some (.int q1.1)]) dX9_put_6 (by decide) rfl rfl rfl ?_
  refine wp_iload dX9_put_8 rfl rfl ?_
  refine wm_if_ne 37 dX9_put_10 rfl rfl h (fun h => ?_) (fun h => ?_)
  · exact wm_mask (L' := [none, none, none, none, none, some (.int q1.1)]) [false, false, false, false, false, true] rfl (k_X9_put_J37  h hP)
  · refine wp_aload_n dX9_put_13 rfl rfl ?_
    refine wm_getR dX9_put_14 s_85 fk_X9_136 rfl r_85_74 rfl ?_
    refine wp_bipush (60 : Int32) dX9_put_17 ib_60 rfl ?_
    refine wp_iload_n dX9_put_19 rfl rfl ?_
    refine wp_imul dX9_put_20 rfl ?_
    refine wp_iload_n dX9_put_21 rfl rfl ?_
    refine wp_iadd dX9_put_22 rfl ?_
    refine wp_aload_n dX9_put_23 rfl rfl ?_
    refine wm_getR dX9_put_24 s_85 fk_X9_130 rfl r_85_72 rfl ?_
    refine wp_iload_n dX9_put_27 rfl rfl ?_
    refine wm_iald dX9_put_28 s_126 rfl h (fun h => ?_)
    refine wp_bipush (50 : Int32) dX9_put_29 ib_50 rfl ?_
    refine wp_isub dX9_put_31 rfl ?_
    refine wp_lload_n dX9_put_32 rfl rfl ?_
    refine wm_callSL (As := [.int ((gI q1.2 126 (ix p1)) - (50 : Int32)), .long p3]) (rest := [.int (((60 : Int32) * p1) + p2), .ref 128]) dX9_put_33 ok_X9_481 (by decide) rfl (Nat.le_of_ble_eq_true rfl) ⟨rfl, rfl⟩ rfl (fun t h => o_X9_asSort h) h (fun q2 h => ?_)
    refine wm_last dX9_put_36 s_128 rfl h (fun m3 h => ?_)
    exact wm_mask (L' := [none, none, none, none, none, some (.int q1.1)]) [false, false, false, false, false, true] rfl (k_X9_put_J37  h hP)
theorem o_X9_put {g : Gx}  {p1 : Int32} {p2 : Int32} {p3 : Int64} {m : Mem} {t : Int32 × Mem} (h : f_X9_put p1 p2 p3 m = some t) : MxM g 4 mi_X9_put [.ref 85, .int p1, .int p2, .long p3] m (qI t) := mx_of pn_X9 (Nat.le_of_ble_eq_true rfl) (k_X9_put_E h ⟨rfl, rfl, rfl, rfl, rfl⟩)
noncomputable def f_X9_redo   (m : Mem) : Option (Int32 × Mem) := if ¬ (gI m 85 5) = (gI m 85 4) then ck (gI m 85 5) 40 (ck (gI m 85 5) 40 (ck (gI m 87 (ix (gI m 85 5))) 42 (bnd (sI m 86 (ix (gI m 87 (ix (gI m 85 5)))) (gI m 89 (ix (gI m 85 5)))) (fun m1 => bnd (sI m1 85 5 ((gI m1 85 5) + (1 : Int32))) (fun m2 => some (((gI m2 85 4) - (gI m2 85 5)), m2)))))) else some ((-5 : Int32), m)
theorem k_X9_redo_E {g : Gx}   {Q : Qy} {m : Mem} {t : Int32 × Mem} (h : f_X9_redo m = some t) (hP : pI Q t) : WpM g 1 mi_X9_redo 0 [some (.ref 85)] [] m (zM g mi_X9_redo Q) := by
  refine wp_aload_n dX9_redo_0 rfl rfl ?_
  refine wm_getI dX9_redo_1 s_85 fk_X9_153 rfl rfl ?_
  refine wp_aload_n dX9_redo_4 rfl rfl ?_
  refine wm_getI dX9_redo_5 s_85 fk_X9_156 rfl rfl ?_
  refine wm_icmp_ne 14 dX9_redo_8 rfl rfl h (fun h => ?_) (fun h => ?_)
  · refine wp_aload_n dX9_redo_14 rfl rfl ?_
    refine wm_getR dX9_redo_15 s_85 fk_X9_9 rfl r_85_0 rfl ?_
    refine wp_aload_n dX9_redo_18 rfl rfl ?_
    refine wm_getR dX9_redo_19 s_85 fk_X9_13 rfl r_85_1 rfl ?_
    refine wp_aload_n dX9_redo_22 rfl rfl ?_
    refine wm_getI dX9_redo_23 s_85 fk_X9_153 rfl rfl ?_
    refine wm_iald dX9_redo_26 s_87 rfl h (fun h => ?_)
    refine wp_aload_n dX9_redo_27 rfl rfl ?_
    refine wm_getR dX9_redo_28 s_85 fk_X9_19 rfl r_85_3 rfl ?_
    refine wp_aload_n dX9_redo_31 rfl rfl ?_
    refine wm_getI dX9_redo_32 s_85 fk_X9_153 rfl rfl ?_
    refine wm_iald dX9_redo_35 s_89 rfl h (fun h => ?_)
    refine wm_iast dX9_redo_36 s_86 rfl h (fun m1 h => ?_)
    refine wp_aload_n dX9_redo_37 rfl rfl ?_
    refine wp_dup dX9_redo_38 rfl rfl ?_
    refine wm_getI dX9_redo_39 s_85 fk_X9_153 rfl rfl ?_
    refine wp_iconst (1 : Int32) dX9_redo_42 ic_1 rfl ?_
    refine wp_iadd dX9_redo_43 rfl ?_
    refine wm_putI dX9_redo_44 s_85 fk_X9_153 rfl rfl h (fun m2 h => ?_)
    refine wp_aload_n dX9_redo_47 rfl rfl ?_
    refine wm_getI dX9_redo_48 s_85 fk_X9_156 rfl rfl ?_
    refine wp_aload_n dX9_redo_51 rfl rfl ?_
    refine wm_getI dX9_redo_52 s_85 fk_X9_153 rfl rfl ?_
    refine wp_isub dX9_redo_55 rfl ?_
    exact wm_iret dX9_redo_56 rfl ⟨rfl, rfl⟩ h hP
  · refine wp_bipush (-5 : Int32) dX9_redo_11 ib_m5 rfl ?_
    exact wm_iret dX9_redo_13 rfl ⟨rfl, rfl⟩ h hP
theorem o_X9_redo {g : Gx}   {m : Mem} {t : Int32 × Mem} (h : f_X9_redo m = some t) : MxM g 1 mi_X9_redo [.ref 85] m (qI t) := mx_of pn_X9 (Nat.le_of_ble_eq_true rfl) (k_X9_redo_E h ⟨rfl, rfl, rfl, rfl, rfl⟩)
abbrev A_X9_row_57 (g : Gx)  (Q : Qy) (s : Int32 × Int32 × Mem) : Prop := WpM g 3 mi_X9_row 57 [some (.ref 85), some (.int s.1), none, none, some (.int s.2.1)] [] s.2.2 (zM g mi_X9_row Q)
abbrev P_X9_row_57 (g : Gx)  (Q : Qy) : ((Int32 × Int32 × Mem) ⊕ (Int32 × Mem)) → Prop := pS (A_X9_row_57 g Q) (pI Q)
noncomputable def f_X9_row_L57  (s : Int32 × Int32 × Mem) : Option ((Int32 × Int32 × Mem) ⊕ (Int32 × Mem)) := if (((60 : Int32) * s.1) + (60 : Int32)) ≤ s.2.1 then up (some ((1 : Int32), s.2.2)) else ck s.2.1 360 (bnd (sJ s.2.2 128 (ix s.2.1) (0 : Int64)) (fun m6 => bnd (s.2.1 + (1 : Int32)) (fun y7 => some (Sum.inl (s.1, y7, m6)))))
theorem k_X9_row_L57 {g : Gx}  {Q : Qy} {s : Int32 × Int32 × Mem} {t : (Int32 × Int32 × Mem) ⊕ (Int32 × Mem)} (h : f_X9_row_L57 s = some t) (hP : P_X9_row_57 g Q t) : A_X9_row_57 g Q s := by
  refine wp_iload dX9_row_57 rfl rfl ?_
  refine wp_bipush (60 : Int32) dX9_row_59 ib_60 rfl ?_
  refine wp_iload_n dX9_row_61 rfl rfl ?_
  refine wp_imul dX9_row_62 rfl ?_
  refine wp_bipush (60 : Int32) dX9_row_63 ib_60 rfl ?_
  refine wp_iadd dX9_row_65 rfl ?_
  refine wm_icmp_ge 83 dX9_row_66 rfl rfl h (fun h => ?_) (fun h => ?_)
  · refine wm_up h hP (fun r h hP => ?_)
    refine wp_iconst (1 : Int32) dX9_row_83 ic_1 rfl ?_
    exact wm_iret dX9_row_84 rfl ⟨rfl, rfl⟩ h hP
  · refine wp_aload_n dX9_row_69 rfl rfl ?_
    refine wm_getR dX9_row_70 s_85 fk_X9_136 rfl r_85_74 rfl ?_
    refine wp_iload dX9_row_73 rfl rfl ?_
    refine wp_lconst (0 : Int64) dX9_row_75 rfl rfl ?_
    refine wm_last dX9_row_76 s_128 rfl h (fun m6 h => ?_)
    refine wm_inc dX9_row_77 rfl ii_1 (by decide) rfl rfl h (fun y7 h => ?_)
    refine wm_list (L' := [some (.ref 85), some (.int s.1), none, none, some (.int y7)]) rfl ?_
    refine wp_goto 57 dX9_row_80 rfl ?_
    have hB := wm_back h hP
    exact wm_mask (L' := [some (.ref 85), some (.int s.1), none, none, some (.int y7)]) [true, true, false, false, true] rfl (hB)
noncomputable def f_X9_row  (p1 : Int32) (p2 : Int32) (p3 : Int32) (m : Mem) : Option (Int32 × Mem) := (f_X9_isShelf p1 m).bind (fun q1 => if q1.1 = 0 then some ((-1 : Int32), q1.2) else (f_X9_within p2.toInt64 (0 : Int64) (4 : Int64) q1.2).bind (fun q2 => if q2.1 = 0 then some ((-1 : Int32), q2.2) else if p3 ≤ (60 : Int32) then if 0 ≤ p3 then ck p1 6 (bnd (sI q2.2 126 (ix p1) ((50 : Int32) + p2)) (fun m3 => ck p1 6 (bnd (sI m3 127 (ix p1) p3) (fun m4 => bnd ((60 : Int32) * p1) (fun y5 => wh (f_X9_row_L57) (p1, y5, m4)))))) else some ((-14 : Int32), q2.2) else some ((-1 : Int32), q2.2)))
theorem k_X9_row_E {g : Gx}  {p1 : Int32} {p2 : Int32} {p3 : Int32} {Q : Qy} {m : Mem} {t : Int32 × Mem} (h : f_X9_row p1 p2 p3 m = some t) (hP : pI Q t) : WpM g 3 mi_X9_row 0 [some (.ref 85), some (.int p1), some (.int p2), some (.int p3), none] [] m (zM g mi_X9_row Q) := by
  refine wp_iload_n dX9_row_0 rfl rfl ?_
  refine wm_callSI (As := [.int p1]) (rest := []) dX9_row_1 ok_X9_198 (by decide) rfl (Nat.le_of_ble_eq_true rfl) ⟨rfl, rfl⟩ rfl (fun t h => o_X9_isShelf h) h (fun q1 h => ?_)
  refine wm_if_eq 25 dX9_row_4 rfl rfl h (fun h => ?_) (fun h => ?_)
  · refine wp_iconst (-1 : Int32) dX9_row_25 ic_m1 rfl ?_
    exact wm_iret dX9_row_26 rfl ⟨rfl, rfl⟩ h hP
  · refine wp_iload_n dX9_row_7 rfl rfl ?_
    refine wp_i2l dX9_row_8 rfl ?_
    refine wp_lconst (0 : Int64) dX9_row_9 rfl rfl ?_
    refine wp_ldc2 dX9_row_10 q1755 rfl ?_
    refine wm_callSI (As := [.long p2.toInt64, .long (0 : Int64), .long (4 : Int64)]) (rest := []) dX9_row_13 ok_X9_162 (by decide) rfl (Nat.le_of_ble_eq_true rfl) ⟨rfl, rfl⟩ rfl (fun t h => o_X9_within h) h (fun q2 h => ?_)
    refine wm_if_eq 25 dX9_row_16 rfl rfl h (fun h => ?_) (fun h => ?_)
    · refine wp_iconst (-1 : Int32) dX9_row_25 ic_m1 rfl ?_
      exact wm_iret dX9_row_26 rfl ⟨rfl, rfl⟩ h hP
    · refine wp_iload_n dX9_row_19 rfl rfl ?_
      refine wp_bipush (60 : Int32) dX9_row_20 ib_60 rfl ?_
      refine wm_icmp_le 27 dX9_row_22 rfl rfl h (fun h => ?_) (fun h => ?_)
      · refine wp_iload_n dX9_row_27 rfl rfl ?_
        refine wm_if_ge 34 dX9_row_28 rfl rfl h (fun h => ?_) (fun h => ?_)
        · refine wp_aload_n dX9_row_34 rfl rfl ?_
          refine wm_getR dX9_row_35 s_85 fk_X9_130 rfl r_85_72 rfl ?_
          refine wp_iload_n dX9_row_38 rfl rfl ?_
          refine wp_bipush (50 : Int32) dX9_row_39 ib_50 rfl ?_
          refine wp_iload_n dX9_row_41 rfl rfl ?_
          refine wp_iadd dX9_row_42 rfl ?_
          refine wm_iast dX9_row_43 s_126 rfl h (fun m3 h => ?_)
          refine wp_aload_n dX9_row_44 rfl rfl ?_
          refine wm_getR dX9_row_45 s_85 fk_X9_133 rfl r_85_73 rfl ?_
          refine wp_iload_n dX9_row_48 rfl rfl ?_
          refine wp_iload_n dX9_row_49 rfl rfl ?_
          refine wm_iast dX9_row_50 s_127 rfl h (fun m4 h => ?_)
          refine wp_bipush (60 : Int32) dX9_row_51 ib_60 rfl ?_
          refine wp_iload_n dX9_row_53 rfl rfl ?_
          refine wp_imul dX9_row_54 rfl ?_
          refine wm_nm h (fun y5 h => ?_)
          refine wp_istore (L' := [some (.ref 85), some (.int p1), some (.int p2), some (.int p3), some (.int y5)]) dX9_row_55 (by decide) rfl rfl rfl ?_
          have hB := wh_ok (A := A_X9_row_57 g Q) (B := pI Q) (fun s t h hP => k_X9_row_L57  h hP) h hP
          exact wm_mask (L' := [some (.ref 85), some (.int p1), none, none, some (.int y5)]) [true, true, false, false, true] rfl (hB)
        · refine wp_bipush (-14 : Int32) dX9_row_31 ib_m14 rfl ?_
          exact wm_iret dX9_row_33 rfl ⟨rfl, rfl⟩ h hP
      · refine wp_iconst (-1 : Int32) dX9_row_25 ic_m1 rfl ?_
        exact wm_iret dX9_row_26 rfl ⟨rfl, rfl⟩ h hP
theorem o_X9_row {g : Gx}  {p1 : Int32} {p2 : Int32} {p3 : Int32} {m : Mem} {t : Int32 × Mem} (h : f_X9_row p1 p2 p3 m = some t) : MxM g 3 mi_X9_row [.ref 85, .int p1, .int p2, .int p3] m (qI t) := mx_of pn_X9 (Nat.le_of_ble_eq_true rfl) (k_X9_row_E h ⟨rfl, rfl, rfl, rfl, rfl⟩)
abbrev A_X9_rule_35 (g : Gx)  (Q : Qy) (s : Int32 × Int32 × Mem) : Prop := WpM g 68 mi_X9_rule 35 [some (.ref 85), some (.int s.1), some (.int s.2.1)] [] s.2.2 (zM g mi_X9_rule Q)
abbrev P_X9_rule_35 (g : Gx)  (Q : Qy) : ((Int32 × Int32 × Mem) ⊕ (Int32 × Mem)) → Prop := pS (A_X9_rule_35 g Q) (pI Q)
noncomputable def f_X9_rule_L35  (s : Int32 × Int32 × Mem) : Option ((Int32 × Int32 × Mem) ⊕ (Int32 × Mem)) := if (6 : Int32) ≤ s.2.1 then up ((f_X9_bestTold s.1 s.2.2).bind (fun q5 => some (q5.1, q5.2))) else bnd (sI s.2.2 85 26 s.2.1) (fun m6 => (f_X9_looksAt s.2.1 m6).bind (fun q7 => bnd (s.2.1 + (1 : Int32)) (fun y8 => some (Sum.inl (s.1, y8, q7)))))
theorem k_X9_rule_L35 {g : Gx}  {Q : Qy} {s : Int32 × Int32 × Mem} {t : (Int32 × Int32 × Mem) ⊕ (Int32 × Mem)} (h : f_X9_rule_L35 s = some t) (hP : P_X9_rule_35 g Q t) : A_X9_rule_35 g Q s := by
  refine wp_iload_n dX9_rule_35 rfl rfl ?_
  refine wp_bipush (6 : Int32) dX9_rule_36 ib_6 rfl ?_
  refine wm_icmp_ge 57 dX9_rule_38 rfl rfl h (fun h => ?_) (fun h => ?_)
  · refine wm_up h hP (fun r h hP => ?_)
    refine wp_aload_n dX9_rule_57 rfl rfl ?_
    refine wp_iload_n dX9_rule_58 rfl rfl ?_
    refine wm_callVI (As := [.int s.1]) (rest := []) dX9_rule_59 ok_X9_438 (by decide) rfl s_85 ⟨_, rfl⟩ (Nat.le_of_ble_eq_true rfl) ⟨rfl, rfl⟩ rfl (fun t h => o_X9_bestTold h) h (fun q5 h => ?_)
    exact wm_iret dX9_rule_62 rfl ⟨rfl, rfl⟩ h hP
  · refine wp_aload_n dX9_rule_41 rfl rfl ?_
    refine wp_iload_n dX9_rule_42 rfl rfl ?_
    refine wm_putI dX9_rule_43 s_85 fk_X9_280 rfl rfl h (fun m6 h => ?_)
    refine wp_aload_n dX9_rule_46 rfl rfl ?_
    refine wp_iload_n dX9_rule_47 rfl rfl ?_
    refine wm_callVN (As := [.int s.2.1]) (rest := []) dX9_rule_48 ok_X9_435 (by decide) rfl s_85 ⟨_, rfl⟩ (Nat.le_of_ble_eq_true rfl) ⟨rfl, rfl⟩ rfl (fun t h => o_X9_looksAt h) h (fun q7 h => ?_)
    refine wm_inc dX9_rule_51 rfl ii_1 (by decide) rfl rfl h (fun y8 h => ?_)
    refine wm_list (L' := [some (.ref 85), some (.int s.1), some (.int y8)]) rfl ?_
    refine wp_goto 35 dX9_rule_54 rfl ?_
    have hB := wm_back h hP
    exact wm_mask (L' := [some (.ref 85), some (.int s.1), some (.int y8)]) [true, true, true] rfl (hB)
noncomputable def f_X9_rule  (p1 : Int32) (m : Mem) : Option (Int32 × Mem) := (f_X9_within p1.toInt64 (0 : Int64) (2 : Int64) m).bind (fun q1 => if ¬ q1.1 = 0 then (f_X9_isTable q1.2).bind (fun q2 => if ¬ q2.1 = 0 then (f_X9_plain q2.2).bind (fun q3 => bnd (sI q3 85 63 (-1 : Int32)) (fun m4 => wh (f_X9_rule_L35) (p1, (0 : Int32), m4))) else some ((-5 : Int32), q2.2)) else some ((-1 : Int32), q1.2))
theorem k_X9_rule_E {g : Gx}  {p1 : Int32} {Q : Qy} {m : Mem} {t : Int32 × Mem} (h : f_X9_rule p1 m = some t) (hP : pI Q t) : WpM g 68 mi_X9_rule 0 [some (.ref 85), some (.int p1), none] [] m (zM g mi_X9_rule Q) := by
  refine wp_iload_n dX9_rule_0 rfl rfl ?_
  refine wp_i2l dX9_rule_1 rfl ?_
  refine wp_lconst (0 : Int64) dX9_rule_2 rfl rfl ?_
  refine wp_ldc2 dX9_rule_3 q1677 rfl ?_
  refine wm_callSI (As := [.long p1.toInt64, .long (0 : Int64), .long (2 : Int64)]) (rest := []) dX9_rule_6 ok_X9_162 (by decide) rfl (Nat.le_of_ble_eq_true rfl) ⟨rfl, rfl⟩ rfl (fun t h => o_X9_within h) h (fun q1 h => ?_)
  refine wm_if_ne 14 dX9_rule_9 rfl rfl h (fun h => ?_) (fun h => ?_)
  · refine wp_aload_n dX9_rule_14 rfl rfl ?_
    refine wm_callVI (As := []) (rest := []) dX9_rule_15 ok_X9_394 (by decide) rfl s_85 ⟨_, rfl⟩ (Nat.le_of_ble_eq_true rfl) ⟨rfl, rfl⟩ rfl (fun t h => o_X9_isTable h) h (fun q2 h => ?_)
    refine wm_if_ne 24 dX9_rule_18 rfl rfl h (fun h => ?_) (fun h => ?_)
    · refine wp_aload_n dX9_rule_24 rfl rfl ?_
      refine wm_callVN (As := []) (rest := []) dX9_rule_25 ok_X9_388 (by decide) rfl s_85 ⟨_, rfl⟩ (Nat.le_of_ble_eq_true rfl) ⟨rfl, rfl⟩ rfl (fun t h => o_X9_plain h) h (fun q3 h => ?_)
      refine wp_aload_n dX9_rule_28 rfl rfl ?_
      refine wp_iconst (-1 : Int32) dX9_rule_29 ic_m1 rfl ?_
      refine wm_putI dX9_rule_30 s_85 fk_X9_424 rfl rfl h (fun m4 h => ?_)
      refine wp_iconst (0 : Int32) dX9_rule_33 ic_0 rfl ?_
      refine wp_istore_n (L' := [some (.ref 85), some (.int p1), some (.int (0 : Int32))]) dX9_rule_34 (by decide) rfl rfl rfl ?_
      have hB := wh_ok (A := A_X9_rule_35 g Q) (B := pI Q) (fun s t h hP => k_X9_rule_L35  h hP) h hP
      exact wm_mask (L' := [some (.ref 85), some (.int p1), some (.int (0 : Int32))]) [true, true, true] rfl (hB)
    · refine wp_bipush (-5 : Int32) dX9_rule_21 ib_m5 rfl ?_
      exact wm_iret dX9_rule_23 rfl ⟨rfl, rfl⟩ h hP
  · refine wp_iconst (-1 : Int32) dX9_rule_12 ic_m1 rfl ?_
    exact wm_iret dX9_rule_13 rfl ⟨rfl, rfl⟩ h hP
theorem o_X9_rule {g : Gx}  {p1 : Int32} {m : Mem} {t : Int32 × Mem} (h : f_X9_rule p1 m = some t) : MxM g 68 mi_X9_rule [.ref 85, .int p1] m (qI t) := mx_of pn_X9 (Nat.le_of_ble_eq_true rfl) (k_X9_rule_E h ⟨rfl, rfl, rfl, rfl, rfl⟩)
noncomputable def f_X9_saying  (p1 : Int32) (p2 : Int32) (m : Mem) : Option (Int32 × Mem) := (f_X9_within p2.toInt64 (0 : Int64) (6 : Int64) m).bind (fun q1 => if ¬ q1.1 = 0 then if 0 ≤ (gI q1.2 85 46) then (f_X9_within p1.toInt64 (0 : Int64) ((gI q1.2 85 46) - (1 : Int32)).toInt64 q1.2).bind (fun q2 => if ¬ q2.1 = 0 then sw p2 [((0 : Int32), ck p1 200 (some ((gI q2.2 112 (ix p1)), q2.2))), ((1 : Int32), ck p1 200 (some ((gI q2.2 113 (ix p1)), q2.2))), ((2 : Int32), ck p1 200 (some ((gI q2.2 114 (ix p1)), q2.2))), ((3 : Int32), ck p1 200 (some ((gI q2.2 115 (ix p1)), q2.2))), ((4 : Int32), ck p1 200 (some ((gI q2.2 116 (ix p1)), q2.2))), ((5 : Int32), ck p1 200 (some ((gI q2.2 117 (ix p1)), q2.2))), ((6 : Int32), ck p1 200 (some ((gI q2.2 118 (ix p1)), q2.2)))] (some ((-1 : Int32), q2.2)) else some ((-1 : Int32), q2.2)) else some ((-5 : Int32), q1.2) else some ((-1 : Int32), q1.2))
theorem k_X9_saying_E {g : Gx}  {p1 : Int32} {p2 : Int32} {Q : Qy} {m : Mem} {t : Int32 × Mem} (h : f_X9_saying p1 p2 m = some t) (hP : pI Q t) : WpM g 2 mi_X9_saying 0 [some (.ref 85), some (.int p1), some (.int p2)] [] m (zM g mi_X9_saying Q) := by
  refine wp_iload_n dX9_saying_0 rfl rfl ?_
  refine wp_i2l dX9_saying_1 rfl ?_
  refine wp_lconst (0 : Int64) dX9_saying_2 rfl rfl ?_
  refine wp_ldc2 dX9_saying_3 q1659 rfl ?_
  refine wm_callSI (As := [.long p2.toInt64, .long (0 : Int64), .long (6 : Int64)]) (rest := []) dX9_saying_6 ok_X9_162 (by decide) rfl (Nat.le_of_ble_eq_true rfl) ⟨rfl, rfl⟩ rfl (fun t h => o_X9_within h) h (fun q1 h => ?_)
  refine wm_if_ne 14 dX9_saying_9 rfl rfl h (fun h => ?_) (fun h => ?_)
  · refine wp_aload_n dX9_saying_14 rfl rfl ?_
    refine wm_getI dX9_saying_15 s_85 fk_X9_150 rfl rfl ?_
    refine wm_if_ge 24 dX9_saying_18 rfl rfl h (fun h => ?_) (fun h => ?_)
    · refine wp_iload_n dX9_saying_24 rfl rfl ?_
      refine wp_i2l dX9_saying_25 rfl ?_
      refine wp_lconst (0 : Int64) dX9_saying_26 rfl rfl ?_
      refine wp_aload_n dX9_saying_27 rfl rfl ?_
      refine wm_getI dX9_saying_28 s_85 fk_X9_150 rfl rfl ?_
      refine wp_iconst (1 : Int32) dX9_saying_31 ic_1 rfl ?_
      refine wp_isub dX9_saying_32 rfl ?_
      refine wp_i2l dX9_saying_33 rfl ?_
      refine wm_callSI (As := [.long p1.toInt64, .long (0 : Int64), .long ((gI q1.2 85 46) - (1 : Int32)).toInt64]) (rest := []) dX9_saying_34 ok_X9_162 (by decide) rfl (Nat.le_of_ble_eq_true rfl) ⟨rfl, rfl⟩ rfl (fun t h => o_X9_within h) h (fun q2 h => ?_)
      refine wm_if_ne 42 dX9_saying_37 rfl rfl h (fun h => ?_) (fun h => ?_)
      · refine wp_iload_n dX9_saying_42 rfl rfl ?_
        refine wm_tsw [((0 : Int32), 84), ((1 : Int32), 91), ((2 : Int32), 98), ((3 : Int32), 105), ((4 : Int32), 112), ((5 : Int32), 119), ((6 : Int32), 126)] 133 dX9_saying_43 rfl (by decide) (by decide +kernel) (by decide +kernel) (by decide +kernel) h rfl ⟨fun h => ?_, fun h => ?_, fun h => ?_, fun h => ?_, fun h => ?_, fun h => ?_, fun h => ?_, trivial⟩ (fun h => ?_)
        · refine wp_aload_n dX9_saying_84 rfl rfl ?_
          refine wm_getR dX9_saying_85 s_85 fk_X9_88 rfl r_85_51 rfl ?_
          refine wp_iload_n dX9_saying_88 rfl rfl ?_
          refine wm_iald dX9_saying_89 s_112 rfl h (fun h => ?_)
          exact wm_iret dX9_saying_90 rfl ⟨rfl, rfl⟩ h hP
        · refine wp_aload_n dX9_saying_91 rfl rfl ?_
          refine wm_getR dX9_saying_92 s_85 fk_X9_91 rfl r_85_52 rfl ?_
          refine wp_iload_n dX9_saying_95 rfl rfl ?_
          refine wm_iald dX9_saying_96 s_113 rfl h (fun h => ?_)
          exact wm_iret dX9_saying_97 rfl ⟨rfl, rfl⟩ h hP
        · refine wp_aload_n dX9_saying_98 rfl rfl ?_
          refine wm_getR dX9_saying_99 s_85 fk_X9_94 rfl r_85_53 rfl ?_
          refine wp_iload_n dX9_saying_102 rfl rfl ?_
          refine wm_iald dX9_saying_103 s_114 rfl h (fun h => ?_)
          exact wm_iret dX9_saying_104 rfl ⟨rfl, rfl⟩ h hP
        · refine wp_aload_n dX9_saying_105 rfl rfl ?_
          refine wm_getR dX9_saying_106 s_85 fk_X9_97 rfl r_85_54 rfl ?_
          refine wp_iload_n dX9_saying_109 rfl rfl ?_
          refine wm_iald dX9_saying_110 s_115 rfl h (fun h => ?_)
          exact wm_iret dX9_saying_111 rfl ⟨rfl, rfl⟩ h hP
        · refine wp_aload_n dX9_saying_112 rfl rfl ?_
          refine wm_getR dX9_saying_113 s_85 fk_X9_100 rfl r_85_55 rfl ?_
          refine wp_iload_n dX9_saying_116 rfl rfl ?_
          refine wm_iald dX9_saying_117 s_116 rfl h (fun h => ?_)
          exact wm_iret dX9_saying_118 rfl ⟨rfl, rfl⟩ h hP
        · refine wp_aload_n dX9_saying_119 rfl rfl ?_
          refine wm_getR dX9_saying_120 s_85 fk_X9_103 rfl r_85_56 rfl ?_
          refine wp_iload_n dX9_saying_123 rfl rfl ?_
          refine wm_iald dX9_saying_124 s_117 rfl h (fun h => ?_)
          exact wm_iret dX9_saying_125 rfl ⟨rfl, rfl⟩ h hP
        · refine wp_aload_n dX9_saying_126 rfl rfl ?_
          refine wm_getR dX9_saying_127 s_85 fk_X9_106 rfl r_85_57 rfl ?_
          refine wp_iload_n dX9_saying_130 rfl rfl ?_
          refine wm_iald dX9_saying_131 s_118 rfl h (fun h => ?_)
          exact wm_iret dX9_saying_132 rfl ⟨rfl, rfl⟩ h hP
        · refine wp_iconst (-1 : Int32) dX9_saying_133 ic_m1 rfl ?_
          exact wm_iret dX9_saying_134 rfl ⟨rfl, rfl⟩ h hP
      · refine wp_iconst (-1 : Int32) dX9_saying_40 ic_m1 rfl ?_
        exact wm_iret dX9_saying_41 rfl ⟨rfl, rfl⟩ h hP
    · refine wp_bipush (-5 : Int32) dX9_saying_21 ib_m5 rfl ?_
      exact wm_iret dX9_saying_23 rfl ⟨rfl, rfl⟩ h hP
  · refine wp_iconst (-1 : Int32) dX9_saying_12 ic_m1 rfl ?_
    exact wm_iret dX9_saying_13 rfl ⟨rfl, rfl⟩ h hP
theorem o_X9_saying {g : Gx}  {p1 : Int32} {p2 : Int32} {m : Mem} {t : Int32 × Mem} (h : f_X9_saying p1 p2 m = some t) : MxM g 2 mi_X9_saying [.ref 85, .int p1, .int p2] m (qI t) := mx_of pn_X9 (Nat.le_of_ble_eq_true rfl) (k_X9_saying_E h ⟨rfl, rfl, rfl, rfl, rfl⟩)
noncomputable def f_X9_set  (p1 : Int32) (p2 : Int32) (m : Mem) : Option (Int32 × Mem) := sw p1 [((0 : Int32), (f_X9_within p2.toInt64 (0 : Int64) (5 : Int64) m).bind (fun q1 => if q1.1 = 0 then some ((-1 : Int32), q1.2) else bnd (gI q1.2 85 13) (fun y2 => bnd (sI q1.2 85 13 p2) (fun m3 => some (y2, m3))))), ((1 : Int32), (f_X9_within p2.toInt64 (0 : Int64) (1 : Int64) m).bind (fun q4 => if q4.1 = 0 then some ((-1 : Int32), q4.2) else bnd (gI q4.2 85 14) (fun y5 => bnd (sI q4.2 85 14 p2) (fun m6 => some (y5, m6))))), ((2 : Int32), (f_X9_within p2.toInt64 (1 : Int64) (9 : Int64) m).bind (fun q7 => if q7.1 = 0 then some ((-1 : Int32), q7.2) else bnd (gI q7.2 85 15) (fun y8 => bnd (sI q7.2 85 15 p2) (fun m9 => some (y8, m9)))))] (some ((-1 : Int32), m))
theorem k_X9_set_E {g : Gx}  {p1 : Int32} {p2 : Int32} {Q : Qy} {m : Mem} {t : Int32 × Mem} (h : f_X9_set p1 p2 m = some t) (hP : pI Q t) : WpM g 2 mi_X9_set 0 [some (.ref 85), some (.int p1), some (.int p2), none] [] m (zM g mi_X9_set Q) := by
  refine wp_iconst (-1 : Int32) dX9_set_0 ic_m1 rfl ?_
  refine wp_istore_n (L' := [some (.ref 85), some (.int p1), some (.int p2), some (.int (-1 : Int32))]) dX9_set_1 (by decide) rfl rfl rfl ?_
  refine wp_iload_n dX9_set_2 rfl rfl ?_
  refine wm_tsw [((0 : Int32), 28), ((1 : Int32), 52), ((2 : Int32), 74)] 98 dX9_set_3 rfl (by decide) (by decide +kernel) (by decide +kernel) (by decide +kernel) h rfl ⟨fun h => ?_, fun h => ?_, fun h => ?_, trivial⟩ (fun h => ?_)
  · refine wp_iload_n dX9_set_28 rfl rfl ?_
    refine wp_i2l dX9_set_29 rfl ?_
    refine wp_lconst (0 : Int64) dX9_set_30 rfl rfl ?_
    refine wp_ldc2 dX9_set_31 q1430 rfl ?_
    refine wm_callSI (As := [.long p2.toInt64, .long (0 : Int64), .long (5 : Int64)]) (rest := []) dX9_set_34 ok_X9_162 (by decide) rfl (Nat.le_of_ble_eq_true rfl) ⟨rfl, rfl⟩ rfl (fun t h => o_X9_within h) h (fun q1 h => ?_)
    refine wm_if_eq 50 dX9_set_37 rfl rfl h (fun h => ?_) (fun h => ?_)
    · refine wp_iload_n dX9_set_50 rfl rfl ?_
      exact wm_iret dX9_set_51 rfl ⟨rfl, rfl⟩ h hP
    · refine wp_aload_n dX9_set_40 rfl rfl ?_
      refine wm_getI dX9_set_41 s_85 fk_X9_205 rfl rfl ?_
      refine wm_nm h (fun y2 h => ?_)
      refine wp_istore_n (L' := [some (.ref 85), some (.int p1), some (.int p2), some (.int y2)]) dX9_set_44 (by decide) rfl rfl rfl ?_
      refine wp_aload_n dX9_set_45 rfl rfl ?_
      refine wp_iload_n dX9_set_46 rfl rfl ?_
      refine wm_putI dX9_set_47 s_85 fk_X9_205 rfl rfl h (fun m3 h => ?_)
      refine wp_iload_n dX9_set_50 rfl rfl ?_
      exact wm_iret dX9_set_51 rfl ⟨rfl, rfl⟩ h hP
  · refine wp_iload_n dX9_set_52 rfl rfl ?_
    refine wp_i2l dX9_set_53 rfl ?_
    refine wp_lconst (0 : Int64) dX9_set_54 rfl rfl ?_
    refine wp_lconst (1 : Int64) dX9_set_55 rfl rfl ?_
    refine wm_callSI (As := [.long p2.toInt64, .long (0 : Int64), .long (1 : Int64)]) (rest := []) dX9_set_56 ok_X9_162 (by decide) rfl (Nat.le_of_ble_eq_true rfl) ⟨rfl, rfl⟩ rfl (fun t h => o_X9_within h) h (fun q4 h => ?_)
    refine wm_if_eq 72 dX9_set_59 rfl rfl h (fun h => ?_) (fun h => ?_)
    · refine wp_iload_n dX9_set_72 rfl rfl ?_
      exact wm_iret dX9_set_73 rfl ⟨rfl, rfl⟩ h hP
    · refine wp_aload_n dX9_set_62 rfl rfl ?_
      refine wm_getI dX9_set_63 s_85 fk_X9_208 rfl rfl ?_
      refine wm_nm h (fun y5 h => ?_)
      refine wp_istore_n (L' := [some (.ref 85), some (.int p1), some (.int p2), some (.int y5)]) dX9_set_66 (by decide) rfl rfl rfl ?_
      refine wp_aload_n dX9_set_67 rfl rfl ?_
      refine wp_iload_n dX9_set_68 rfl rfl ?_
      refine wm_putI dX9_set_69 s_85 fk_X9_208 rfl rfl h (fun m6 h => ?_)
      refine wp_iload_n dX9_set_72 rfl rfl ?_
      exact wm_iret dX9_set_73 rfl ⟨rfl, rfl⟩ h hP
  · refine wp_iload_n dX9_set_74 rfl rfl ?_
    refine wp_i2l dX9_set_75 rfl ?_
    refine wp_lconst (1 : Int64) dX9_set_76 rfl rfl ?_
    refine wp_ldc2 dX9_set_77 q1408 rfl ?_
    refine wm_callSI (As := [.long p2.toInt64, .long (1 : Int64), .long (9 : Int64)]) (rest := []) dX9_set_80 ok_X9_162 (by decide) rfl (Nat.le_of_ble_eq_true rfl) ⟨rfl, rfl⟩ rfl (fun t h => o_X9_within h) h (fun q7 h => ?_)
    refine wm_if_eq 96 dX9_set_83 rfl rfl h (fun h => ?_) (fun h => ?_)
    · refine wp_iload_n dX9_set_96 rfl rfl ?_
      exact wm_iret dX9_set_97 rfl ⟨rfl, rfl⟩ h hP
    · refine wp_aload_n dX9_set_86 rfl rfl ?_
      refine wm_getI dX9_set_87 s_85 fk_X9_147 rfl rfl ?_
      refine wm_nm h (fun y8 h => ?_)
      refine wp_istore_n (L' := [some (.ref 85), some (.int p1), some (.int p2), some (.int y8)]) dX9_set_90 (by decide) rfl rfl rfl ?_
      refine wp_aload_n dX9_set_91 rfl rfl ?_
      refine wp_iload_n dX9_set_92 rfl rfl ?_
      refine wm_putI dX9_set_93 s_85 fk_X9_147 rfl rfl h (fun m9 h => ?_)
      refine wp_iload_n dX9_set_96 rfl rfl ?_
      exact wm_iret dX9_set_97 rfl ⟨rfl, rfl⟩ h hP
  · refine wp_iconst (-1 : Int32) dX9_set_98 ic_m1 rfl ?_
    exact wm_iret dX9_set_99 rfl ⟨rfl, rfl⟩ h hP
theorem o_X9_set {g : Gx}  {p1 : Int32} {p2 : Int32} {m : Mem} {t : Int32 × Mem} (h : f_X9_set p1 p2 m = some t) : MxM g 2 mi_X9_set [.ref 85, .int p1, .int p2] m (qI t) := mx_of pn_X9 (Nat.le_of_ble_eq_true rfl) (k_X9_set_E h ⟨rfl, rfl, rfl, rfl, rfl⟩)
