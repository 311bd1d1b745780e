noncomputable def f_X9_speaks_J203  (v1 : Int32) (v2 : Int32) (v4 : Int32) (v6 : Int32) (t0 : Int32) (t1 : Int32) (m : Mem) : Option Mem := ck t1 200 (bnd (sI m 109 (ix t1) t0) (fun m10 => ck (gI m10 85 30) 200 (bnd (sI m10 110 (ix (gI m10 85 30)) v6) (fun m11 => bnd (sI m11 85 30 ((gI m11 85 30) + (1 : Int32))) (fun m12 => ck v1 10 (ck v1 10 (bnd (sI m12 97 (ix v1) ((gI m12 97 (ix v1)) + (1 : Int32))) (fun m13 => bnd (sI m13 85 31 v1) (fun m14 => bnd (sI m14 85 29 ((gI m14 85 29) + v4)) (fun m15 => ck v2 6 (ck v2 6 (bnd (sI m15 102 (ix v2) ((gI m15 102 (ix v2)) + v4)) (fun m16 => some m16)))))))))))))
theorem k_X9_speaks_J203 {g : Gx}  {v1 : Int32} {v2 : Int32} {v4 : Int32} {v6 : Int32} {t0 : Int32} {t1 : Int32}  {Q : Qy} {m : Mem} {t : Mem} (h : f_X9_speaks_J203 v1 v2 v4 v6 t0 t1 m = some t) (hP : pV Q t) : WpM g 3 mi_X9_speaks 203 [some (.ref 85), some (.int v1), some (.int v2), none, some (.int v4), none, some (.int v6)] [.int t0, .int t1, .ref 109] m (zM g mi_X9_speaks Q) := by
  refine wm_iast dX9_speaks_203 s_109 rfl h (fun m10 h => ?_)
  refine wp_aload_n dX9_speaks_204 rfl rfl ?_
  refine wm_getR dX9_speaks_205 s_85 fk_X9_82 rfl r_85_45 rfl ?_
  refine wp_aload_n dX9_speaks_208 rfl rfl ?_
  refine wm_getI dX9_speaks_209 s_85 fk_X9_321 rfl rfl ?_
  refine wp_iload dX9_speaks_212 rfl rfl ?_
  refine wm_iast dX9_speaks_214 s_110 rfl h (fun m11 h => ?_)
  refine wp_aload_n dX9_speaks_215 rfl rfl ?_
  refine wp_dup dX9_speaks_216 rfl rfl ?_
  refine wm_getI dX9_speaks_217 s_85 fk_X9_321 rfl rfl ?_
  refine wp_iconst (1 : Int32) dX9_speaks_220 ic_1 rfl ?_
  refine wp_iadd dX9_speaks_221 rfl ?_
  refine wm_putI dX9_speaks_222 s_85 fk_X9_321 rfl rfl h (fun m12 h => ?_)
  refine wp_aload_n dX9_speaks_225 rfl rfl ?_
  refine wm_getR dX9_speaks_226 s_85 fk_X9_43 rfl r_85_32 rfl ?_
  refine wp_iload_n dX9_speaks_229 rfl rfl ?_
  refine wp_dup2 dX9_speaks_230 rfl rfl rfl ?_
  refine wm_iald dX9_speaks_231 s_97 rfl h (fun h => ?_)
  refine wp_iconst (1 : Int32) dX9_speaks_232 ic_1 rfl ?_
  refine wp_iadd dX9_speaks_233 rfl ?_
  refine wm_iast dX9_speaks_234 s_97 rfl h (fun m13 h => ?_)
  refine wp_aload_n dX9_speaks_235 rfl rfl ?_
  refine wp_iload_n dX9_speaks_236 rfl rfl ?_
  refine wm_putI dX9_speaks_237 s_85 fk_X9_305 rfl rfl h (fun m14 h => ?_)
  refine wp_aload_n dX9_speaks_240 rfl rfl ?_
  refine wp_dup dX9_speaks_241 rfl rfl ?_
  refine wm_getI dX9_speaks_242 s_85 fk_X9_289 rfl rfl ?_
  refine wp_iload dX9_speaks_245 rfl rfl ?_
  refine wp_iadd dX9_speaks_247 rfl ?_
  refine wm_putI dX9_speaks_248 s_85 fk_X9_289 rfl rfl h (fun m15 h => ?_)
  refine wp_aload_n dX9_speaks_251 rfl rfl ?_
  refine wm_getR dX9_speaks_252 s_85 fk_X9_58 rfl r_85_37 rfl ?_
  refine wp_iload_n dX9_speaks_255 rfl rfl ?_
  refine wp_dup2 dX9_speaks_256 rfl rfl rfl ?_
  refine wm_iald dX9_speaks_257 s_102 rfl h (fun h => ?_)
  refine wp_iload dX9_speaks_258 rfl rfl ?_
  refine wp_iadd dX9_speaks_260 rfl ?_
  refine wm_iast dX9_speaks_261 s_102 rfl h (fun m16 h => ?_)
  exact wm_vret dX9_speaks_262 rfl ⟨rfl, rfl⟩ h hP
noncomputable def f_X9_speaks_J103  (v1 : Int32) (v2 : Int32) (v4 : Int32) (v5 : Int32) (v6 : Int32) (m : Mem) : Option Mem := ck v1 10 (bnd (sI m 99 (ix v1) v6) (fun m3 => ck (gI m3 85 30) 200 (bnd (sI m3 104 (ix (gI m3 85 30)) v1) (fun m4 => ck (gI m4 85 30) 200 (bnd (sI m4 105 (ix (gI m4 85 30)) v2) (fun m5 => ck (gI m5 85 30) 200 (bnd (sI m5 106 (ix (gI m5 85 30)) (gI m5 85 29)) (fun m6 => ck (gI m6 85 30) 200 (bnd (sI m6 107 (ix (gI m6 85 30)) v4) (fun m7 => (f_X9_saysNew v1 v2 v5 m7).bind (fun q8 => ck (gI m7 85 30) 200 (bnd (sI q8.2 108 (ix (gI m7 85 30)) q8.1) (fun m9 => ck (gI m9 85 30) 200 (if ¬ (gI m9 108 (ix (gI m9 85 30))) = 0 then f_X9_speaks_J203 v1 v2 v4 v6 (-2 : Int32) (gI m9 85 30) m9 else (f_X9_saysAgain v1 v2 m9).bind (fun q17 => f_X9_speaks_J203 v1 v2 v4 v6 q17.1 (gI m9 85 30) q17.2)))))))))))))))
theorem k_X9_speaks_J103 {g : Gx}  {v1 : Int32} {v2 : Int32} {v4 : Int32} {v5 : Int32} {v6 : Int32}  {Q : Qy} {m : Mem} {t : Mem} (h : f_X9_speaks_J103 v1 v2 v4 v5 v6 m = some t) (hP : pV Q t) : WpM g 3 mi_X9_speaks 103 [some (.ref 85), some (.int v1), some (.int v2), none, some (.int v4), some (.int v5), some (.int v6)] [] m (zM g mi_X9_speaks Q) := by
  refine wp_aload_n dX9_speaks_103 rfl rfl ?_
  refine wm_getR dX9_speaks_104 s_85 fk_X9_49 rfl r_85_34 rfl ?_
  refine wp_iload_n dX9_speaks_107 rfl rfl ?_
  refine wp_iload dX9_speaks_108 rfl rfl ?_
  refine wm_iast dX9_speaks_110 s_99 rfl h (fun m3 h => ?_)
  refine wp_aload_n dX9_speaks_111 rfl rfl ?_
  refine wm_getR dX9_speaks_112 s_85 fk_X9_64 rfl r_85_39 rfl ?_
  refine wp_aload_n dX9_speaks_115 rfl rfl ?_
  refine wm_getI dX9_speaks_116 s_85 fk_X9_321 rfl rfl ?_
  refine wp_iload_n dX9_speaks_119 rfl rfl ?_
  refine wm_iast dX9_speaks_120 s_104 rfl h (fun m4 h => ?_)
  refine wp_aload_n dX9_speaks_121 rfl rfl ?_
  refine wm_getR dX9_speaks_122 s_85 fk_X9_67 rfl r_85_40 rfl ?_
  refine wp_aload_n dX9_speaks_125 rfl rfl ?_
  refine wm_getI dX9_speaks_126 s_85 fk_X9_321 rfl rfl ?_
  refine wp_iload_n dX9_speaks_129 rfl rfl ?_
  refine wm_iast dX9_speaks_130 s_105 rfl h (fun m5 h => ?_)
  refine wp_aload_n dX9_speaks_131 rfl rfl ?_
  refine wm_getR dX9_speaks_132 s_85 fk_X9_70 rfl r_85_41 rfl ?_
  refine wp_aload_n dX9_speaks_135 rfl rfl ?_
  refine wm_getI dX9_speaks_136 s_85 fk_X9_321 rfl rfl ?_
  refine wp_aload_n dX9_speaks_139 rfl rfl ?_
  refine wm_getI dX9_speaks_140 s_85 fk_X9_289 rfl rfl ?_
  refine wm_iast dX9_speaks_143 s_106 rfl h (fun m6 h => ?_)
  refine wp_aload_n dX9_speaks_144 rfl rfl ?_
  refine wm_getR dX9_speaks_145 s_85 fk_X9_73 rfl r_85_42 rfl ?_
  refine wp_aload_n dX9_speaks_148 rfl rfl ?_
  refine wm_getI dX9_speaks_149 s_85 fk_X9_321 rfl rfl ?_
  refine wp_iload dX9_speaks_152 rfl rfl ?_
  refine wm_iast dX9_speaks_154 s_107 rfl h (fun m7 h => ?_)
  refine wp_aload_n dX9_speaks_155 rfl rfl ?_
  refine wm_getR dX9_speaks_156 s_85 fk_X9_76 rfl r_85_43 rfl ?_
  refine wp_aload_n dX9_speaks_159 rfl rfl ?_
  refine wm_getI dX9_speaks_160 s_85 fk_X9_321 rfl rfl ?_
  refine wp_aload_n dX9_speaks_163 rfl rfl ?_
  refine wp_iload_n dX9_speaks_164 rfl rfl ?_
  refine wp_iload_n dX9_speaks_165 rfl rfl ?_
  refine wp_iload dX9_speaks_166 rfl rfl ?_
  refine wm_callVI (As := [.int v1, .int v2, .int v5]) (rest := [.int (gI m7 85 30), .ref 108]) dX9_speaks_168 ok_X9_330 (by decide) rfl s_85 ⟨_, rfl⟩ (Nat.le_of_ble_eq_true rfl) ⟨rfl, rfl⟩ rfl (fun t h => o_X9_saysNew h) h (fun q8 h => ?_)
  refine wm_iast dX9_speaks_171 s_108 rfl h (fun m9 h => ?_)
  refine wp_aload_n dX9_speaks_172 rfl rfl ?_
  refine wm_getR dX9_speaks_173 s_85 fk_X9_79 rfl r_85_44 rfl ?_
  refine wp_aload_n dX9_speaks_176 rfl rfl ?_
  refine wm_getI dX9_speaks_177 s_85 fk_X9_321 rfl rfl ?_
  refine wp_aload_n dX9_speaks_180 rfl rfl ?_
  refine wm_getR dX9_speaks_181 s_85 fk_X9_76 rfl r_85_43 rfl ?_
  refine wp_aload_n dX9_speaks_184 rfl rfl ?_
  refine wm_getI dX9_speaks_185 s_85 fk_X9_321 rfl rfl ?_
  refine wm_iald dX9_speaks_188 s_108 rfl h (fun h => ?_)
  refine wm_if_ne 201 dX9_speaks_189 rfl rfl h (fun h => ?_) (fun h => ?_)
  · refine wp_bipush (-2 : Int32) dX9_speaks_201 ib_m2 rfl ?_
    exact wm_mask (L' := [some (.ref 85), some (.int v1), some (.int v2), none, some (.int v4), none, some (.int v6)]) [true, true, true, false, true, false, true] rfl (k_X9_speaks_J203  h hP)
  · refine wp_aload_n dX9_speaks_192 rfl rfl ?_
    refine wp_iload_n dX9_speaks_193 rfl rfl ?_
    refine wp_iload_n dX9_speaks_194 rfl rfl ?_
    refine wm_callVI (As := [.int v1, .int v2]) (rest := [.int (gI m9 85 30), .ref 109]) dX9_speaks_195 ok_X9_334 (by decide) rfl s_85 ⟨_, rfl⟩ (Nat.le_of_ble_eq_true rfl) ⟨rfl, rfl⟩ rfl (fun t h => o_X9_saysAgain h) h (fun q17 h => ?_)
    refine wp_goto 203 dX9_speaks_198 rfl ?_
    exact wm_mask (L' := [some (.ref 85), some (.int v1), some (.int v2), none, some (.int v4), none, some (.int v6)]) [true, true, true, false, true, false, true] rfl (k_X9_speaks_J203  h hP)
noncomputable def f_X9_speaks_J101  (v1 : Int32) (v2 : Int32) (v4 : Int32) (v6 : Int32) (t0 : Int32) (m : Mem) : Option Mem := f_X9_speaks_J103 v1 v2 v4 t0 v6 m
theorem k_X9_speaks_J101 {g : Gx}  {v1 : Int32} {v2 : Int32} {v4 : Int32} {v6 : Int32} {t0 : Int32}  {Q : Qy} {m : Mem} {t : Mem} (h : f_X9_speaks_J101 v1 v2 v4 v6 t0 m = some t) (hP : pV Q t) : WpM g 3 mi_X9_speaks 101 [some (.ref 85), some (.int v1), some (.int v2), none, some (.int v4), none, some (.int v6)] [.int t0] m (zM g mi_X9_speaks Q) := by
  refine wp_istore (L' := [some (.ref 85), some (.int v1), some (.int v2), none, some (.int v4), some (.int t0), some (.int v6)]) dX9_speaks_101 (by decide) rfl rfl rfl ?_
  exact wm_mask (L' := [some (.ref 85), some (.int v1), some (.int v2), none, some (.int v4), some (.int t0), some (.int v6)]) [true, true, true, false, true, true, true] rfl (k_X9_speaks_J103  h hP)
noncomputable def f_X9_speaks_J72  (v1 : Int32) (v2 : Int32) (v4 : Int32) (t0 : Int32) (m : Mem) : Option Mem := (f_X9_stopper v1 m).bind (fun q2 => if q2.1 < 0 then f_X9_speaks_J103 v1 v2 v4 t0 q2.1 q2.2 else if t0 ≤ (1 : Int32) then f_X9_speaks_J101 v1 v2 (1 : Int32) q2.1 t0 q2.2 else f_X9_speaks_J101 v1 v2 (1 : Int32) q2.1 (1 : Int32) q2.2)
theorem k_X9_speaks_J72 {g : Gx}  {v1 : Int32} {v2 : Int32} {v4 : Int32} {t0 : Int32}  {Q : Qy} {m : Mem} {t : Mem} (h : f_X9_speaks_J72 v1 v2 v4 t0 m = some t) (hP : pV Q t) : WpM g 3 mi_X9_speaks 72 [some (.ref 85), some (.int v1), some (.int v2), none, some (.int v4), none, none] [.int t0] m (zM g mi_X9_speaks Q) := by
  refine wp_istore (L' := [some (.ref 85), some (.int v1), some (.int v2), none, some (.int v4), some (.int t0), none]) dX9_speaks_72 (by decide) rfl rfl rfl ?_
  refine wp_aload_n dX9_speaks_74 rfl rfl ?_
  refine wp_iload_n dX9_speaks_75 rfl rfl ?_
  refine wm_callVI (As := [.int v1]) (rest := []) dX9_speaks_76 ok_X9_327 (by decide) rfl s_85 ⟨_, rfl⟩ (Nat.le_of_ble_eq_true rfl) ⟨rfl, rfl⟩ rfl (fun t h => o_X9_stopper h) h (fun q2 h => ?_)
  refine wp_istore (L' := [some (.ref 85), some (.int v1), some (.int v2), none, some (.int v4), some (.int t0), some (.int q2.1)]) dX9_speaks_79 (by decide) rfl rfl rfl ?_
  refine wp_iload dX9_speaks_81 rfl rfl ?_
  refine wm_if_lt 103 dX9_speaks_83 rfl rfl h (fun h => ?_) (fun h => ?_)
  · exact wm_mask (L' := [some (.ref 85), some (.int v1), some (.int v2), none, some (.int v4), some (.int t0), some (.int q2.1)]) [true, true, true, false, true, true, true] rfl (k_X9_speaks_J103  h hP)
  · refine wp_iconst (1 : Int32) dX9_speaks_86 ic_1 rfl ?_
    refine wp_istore (L' := [some (.ref 85), some (.int v1), some (.int v2), none, some (.int (1 : Int32)), some (.int t0), some (.int q2.1)]) dX9_speaks_87 (by decide) rfl rfl rfl ?_
    refine wp_iload dX9_speaks_89 rfl rfl ?_
    refine wp_iconst (1 : Int32) dX9_speaks_91 ic_1 rfl ?_
    refine wm_icmp_le 99 dX9_speaks_92 rfl rfl h (fun h => ?_) (fun h => ?_)
    · refine wp_iload dX9_speaks_99 rfl rfl ?_
      exact wm_mask (L' := [some (.ref 85), some (.int v1), some (.int v2), none, some (.int (1 : Int32)), none, some (.int q2.1)]) [true, true, true, false, true, false, true] rfl (k_X9_speaks_J101  h hP)
    · refine wp_iconst (1 : Int32) dX9_speaks_95 ic_1 rfl ?_
      refine wp_goto 101 dX9_speaks_96 rfl ?_
      exact wm_mask (L' := [some (.ref 85), some (.int v1), some (.int v2), none, some (.int (1 : Int32)), none, some (.int q2.1)]) [true, true, true, false, true, false, true] rfl (k_X9_speaks_J101  h hP)
noncomputable def f_X9_speaks_J50  (v1 : Int32) (v2 : Int32) (v3 : Int32) (t0 : Int32) (m : Mem) : Option Mem := if ((gI m 85 27) - (1 : Int32)) ≤ v3 then f_X9_speaks_J72 v1 v2 t0 ((gI m 85 27) - (1 : Int32)) m else f_X9_speaks_J72 v1 v2 t0 v3 m
theorem k_X9_speaks_J50 {g : Gx}  {v1 : Int32} {v2 : Int32} {v3 : Int32} {t0 : Int32}  {Q : Qy} {m : Mem} {t : Mem} (h : f_X9_speaks_J50 v1 v2 v3 t0 m = some t) (hP : pV Q t) : WpM g 3 mi_X9_speaks 50 [some (.ref 85), some (.int v1), some (.int v2), some (.int v3), none, none, none] [.int t0] m (zM g mi_X9_speaks Q) := by
  refine wp_istore (L' := [some (.ref 85), some (.int v1), some (.int v2), some (.int v3), some (.int t0), none, none]) dX9_speaks_50 (by decide) rfl rfl rfl ?_
  refine wp_iload_n dX9_speaks_52 rfl rfl ?_
  refine wp_aload_n dX9_speaks_53 rfl rfl ?_
  refine wm_getI dX9_speaks_54 s_85 fk_X9_283 rfl rfl ?_
  refine wp_iconst (1 : Int32) dX9_speaks_57 ic_1 rfl ?_
  refine wp_isub dX9_speaks_58 rfl ?_
  refine wm_icmp_ge 66 dX9_speaks_59 rfl rfl h (fun h => ?_) (fun h => ?_)
  · refine wp_aload_n dX9_speaks_66 rfl rfl ?_
    refine wm_getI dX9_speaks_67 s_85 fk_X9_283 rfl rfl ?_
    refine wp_iconst (1 : Int32) dX9_speaks_70 ic_1 rfl ?_
    refine wp_isub dX9_speaks_71 rfl ?_
    exact wm_mask (L' := [some (.ref 85), some (.int v1), some (.int v2), none, some (.int t0), none, none]) [true, true, true, false, true, false, false] rfl (k_X9_speaks_J72  h hP)
  · refine wp_iload_n dX9_speaks_62 rfl rfl ?_
    refine wp_goto 72 dX9_speaks_63 rfl ?_
    exact wm_mask (L' := [some (.ref 85), some (.int v1), some (.int v2), none, some (.int t0), none, none]) [true, true, true, false, true, false, false] rfl (k_X9_speaks_J72  h hP)
noncomputable def f_X9_speaks_J27  (v1 : Int32) (v2 : Int32) (v3 : Int32) (t0 : Int32) (m : Mem) : Option Mem := if ¬ (gI m 85 14) = (1 : Int32) then f_X9_speaks_J50 v1 v2 v3 t0 m else f_X9_speaks_J50 v1 v2 v3 ((((2 : Int32) * t0) + (2 : Int32)) / (3 : Int32)) m
theorem k_X9_speaks_J27 {g : Gx}  {v1 : Int32} {v2 : Int32} {v3 : Int32} {t0 : Int32}  {Q : Qy} {m : Mem} {t : Mem} (h : f_X9_speaks_J27 v1 v2 v3 t0 m = some t) (hP : pV Q t) : WpM g 3 mi_X9_speaks 27 [some (.ref 85), some (.int v1), some (.int v2), some (.int v3), none, none, none] [.int t0] m (zM g mi_X9_speaks Q) := by
  refine wp_istore (L' := [some (.ref 85), some (.int v1), some (.int v2), some (.int v3), some (.int t0), none, none]) dX9_speaks_27 (by decide) rfl rfl rfl ?_
  refine wp_aload_n dX9_speaks_29 rfl rfl ?_
  refine wm_getI dX9_speaks_30 s_85 fk_X9_208 rfl rfl ?_
  refine wp_iconst (1 : Int32) dX9_speaks_33 ic_1 rfl ?_
  refine wm_icmp_ne 48 dX9_speaks_34 rfl rfl h (fun h => ?_) (fun h => ?_)
  · refine wp_iload dX9_speaks_48 rfl rfl ?_
    exact wm_mask (L' := [some (.ref 85), some (.int v1), some (.int v2), some (.int v3), none, none, none]) [true, true, true, true, false, false, false] rfl (k_X9_speaks_J50  h hP)
  · refine wp_iconst (2 : Int32) dX9_speaks_37 ic_2 rfl ?_
    refine wp_iload dX9_speaks_38 rfl rfl ?_
    refine wp_imul dX9_speaks_40 rfl ?_
    refine wp_iconst (2 : Int32) dX9_speaks_41 ic_2 rfl ?_
    refine wp_iadd dX9_speaks_42 rfl ?_
    refine wp_iconst (3 : Int32) dX9_speaks_43 ic_3 rfl ?_
    refine wp_idiv dX9_speaks_44 (by decide) rfl ?_
    refine wp_goto 50 dX9_speaks_45 rfl ?_
    exact wm_mask (L' := [some (.ref 85), some (.int v1), some (.int v2), some (.int v3), none, none, none]) [true, true, true, true, false, false, false] rfl (k_X9_speaks_J50  h hP)
noncomputable def f_X9_speaks  (p1 : Int32) (p2 : Int32) (m : Mem) : Option Mem := (f_X9_unsaid p1 p2 m).bind (fun q1 => if ((1 : Int32) + q1.1) ≤ (gI q1.2 85 27) then f_X9_speaks_J27 p1 p2 q1.1 ((1 : Int32) + q1.1) q1.2 else f_X9_speaks_J27 p1 p2 q1.1 (gI q1.2 85 27) q1.2)
theorem k_X9_speaks_E {g : Gx}  {p1 : Int32} {p2 : Int32} {Q : Qy} {m : Mem} {t : Mem} (h : f_X9_speaks p1 p2 m = some t) (hP : pV Q t) : WpM g 3 mi_X9_speaks 0 [some (.ref 85), some (.int p1), some (.int p2), none, none, none, none] [] m (zM g mi_X9_speaks Q) := by
  refine wp_aload_n dX9_speaks_0 rfl rfl ?_
  refine wp_iload_n dX9_speaks_1 rfl rfl ?_
  refine wp_iload_n dX9_speaks_2 rfl rfl ?_
  refine wm_callVI (As := [.int p1, .int p2]) (rest := []) dX9_speaks_3 ok_X9_324 (by decide) rfl s_85 ⟨_, rfl⟩ (Nat.le_of_ble_eq_true rfl) ⟨rfl, rfl⟩ rfl (fun t h => o_X9_unsaid h) h (fun q1 h => ?_)
  refine wp_istore_n (L' := [some (.ref 85), some (.int p1), some (.int p2), some (.int q1.1), none, none, none]) dX9_speaks_6 (by decide) rfl rfl rfl ?_
  refine wp_iconst (1 : Int32) dX9_speaks_7 ic_1 rfl ?_
  refine wp_iload_n dX9_speaks_8 rfl rfl ?_
  refine wp_iadd dX9_speaks_9 rfl ?_
  refine wp_aload_n dX9_speaks_10 rfl rfl ?_
  refine wm_getI dX9_speaks_11 s_85 fk_X9_283 rfl rfl ?_
  refine wm_icmp_le 24 dX9_speaks_14 rfl rfl h (fun h => ?_) (fun h => ?_)
  · refine wp_iconst (1 : Int32) dX9_speaks_24 ic_1 rfl ?_
    refine wp_iload_n dX9_speaks_25 rfl rfl ?_
    refine wp_iadd dX9_speaks_26 rfl ?_
    exact wm_mask (L' := [some (.ref 85), some (.int p1), some (.int p2), some (.int q1.1), none, none, none]) [true, true, true, true, false, false, false] rfl (k_X9_speaks_J27  h hP)
  · refine wp_aload_n dX9_speaks_17 rfl rfl ?_
    refine wm_getI dX9_speaks_18 s_85 fk_X9_283 rfl rfl ?_
    refine wp_goto 27 dX9_speaks_21 rfl ?_
    exact wm_mask (L' := [some (.ref 85), some (.int p1), some (.int p2), some (.int q1.1), none, none, none]) [true, true, true, true, false, false, false] rfl (k_X9_speaks_J27  h hP)
theorem o_X9_speaks {g : Gx}  {p1 : Int32} {p2 : Int32} {m : Mem} {t : Mem} (h : f_X9_speaks p1 p2 m = some t) : MxM g 3 mi_X9_speaks [.ref 85, .int p1, .int p2] m (qV t) := mx_of pn_X9 (Nat.le_of_ble_eq_true rfl) (k_X9_speaks_E h ⟨rfl, rfl, rfl, rfl, rfl⟩)
abbrev A_X9_oneThing_15 (g : Gx)  (Q : Qy) (s : Int32 × Int32 × Mem) : Prop := WpM g 65 mi_X9_oneThing 15 [some (.ref 85), some (.int s.1), some (.int s.2.1), none] [] s.2.2 (zM g mi_X9_oneThing Q)
abbrev P_X9_oneThing_15 (g : Gx)  (Q : Qy) : ((Int32 × Int32 × Mem) ⊕ Mem) → Prop := pS (A_X9_oneThing_15 g Q) (pV Q)
abbrev A_X9_oneThing_38 (g : Gx)  (Q : Qy) (s : Int32 × Int32 × Mem) : Prop := WpM g 65 mi_X9_oneThing 38 [some (.ref 85), some (.int s.1), some (.int s.2.1), none] [] s.2.2 (zM g mi_X9_oneThing Q)
abbrev P_X9_oneThing_38 (g : Gx)  (Q : Qy) : ((Int32 × Int32 × Mem) ⊕ Mem) → Prop := pS (A_X9_oneThing_38 g Q) (pV Q)
abbrev A_X9_oneThing_65 (g : Gx)  (Q : Qy) (s : Int32 × Int32 × Mem) : Prop := WpM g 65 mi_X9_oneThing 65 [some (.ref 85), some (.int s.1), none, some (.int s.2.1)] [] s.2.2 (zM g mi_X9_oneThing Q)
abbrev P_X9_oneThing_65 (g : Gx)  (Q : Qy) : ((Int32 × Int32 × Mem) ⊕ ((Int32 × Int32 × Mem) ⊕ Mem)) → Prop := pS (A_X9_oneThing_65 g Q) (P_X9_oneThing_38 g Q)
noncomputable def f_X9_oneThing_J148  (v1 : Int32) (v3 : Int32) (t0 : Int32) (m : Mem) : Option ((Int32 × Int32 × Mem) ⊕ Mem) := if t0 = 0 then some (Sum.inl (v1, t0, m)) else (f_X9_speaks v3 v1 m).bind (fun q2 => some (Sum.inl (v1, t0, q2)))
theorem k_X9_oneThing_J148 {g : Gx}  {v1 : Int32} {v3 : Int32} {t0 : Int32}  {Q : Qy} {m : Mem} {t : (Int32 × Int32 × Mem) ⊕ Mem} (h : f_X9_oneThing_J148 v1 v3 t0 m = some t) (hP : P_X9_oneThing_38 g Q t) : WpM g 65 mi_X9_oneThing 148 [some (.ref 85), some (.int v1), none, some (.int v3)] [.int t0] m (zM g mi_X9_oneThing Q) := by
  refine wp_istore_n (L' := [some (.ref 85), some (.int v1), some (.int t0), some (.int v3)]) dX9_oneThing_148 (by decide) rfl rfl rfl ?_
  refine wp_iload_n dX9_oneThing_149 rfl rfl ?_
  refine wm_if_eq 159 dX9_oneThing_150 rfl rfl h (fun h => ?_) (fun h => ?_)
  · refine wp_goto 38 dX9_oneThing_159 rfl ?_
    have hB := wm_back h hP
    exact wm_mask (L' := [some (.ref 85), some (.int v1), some (.int t0), none]) [true, true, true, false] rfl (hB)
  · refine wp_aload_n dX9_oneThing_153 rfl rfl ?_
    refine wp_iload_n dX9_oneThing_154 rfl rfl ?_
    refine wp_iload_n dX9_oneThing_155 rfl rfl ?_
    refine wm_callVN (As := [.int v3, .int v1]) (rest := []) dX9_oneThing_156 ok_X9_348 (by decide) rfl s_85 ⟨_, rfl⟩ (Nat.le_of_ble_eq_true rfl) ⟨rfl, rfl⟩ rfl (fun t h => o_X9_speaks h) h (fun q2 h => ?_)
    refine wp_goto 38 dX9_oneThing_159 rfl ?_
    have hB := wm_back h hP
    exact wm_mask (L' := [some (.ref 85), some (.int v1), some (.int t0), none]) [true, true, true, false] rfl (hB)
noncomputable def f_X9_oneThing_L65  (s : Int32 × Int32 × Mem) : Option ((Int32 × Int32 × Mem) ⊕ ((Int32 × Int32 × Mem) ⊕ Mem)) := if (gI s.2.2 85 6) ≤ s.2.1 then up ((f_X9_nextSpeaker s.2.2).bind (fun q1 => if q1.1 < 0 then f_X9_oneThing_J148 s.1 q1.1 (0 : Int32) q1.2 else f_X9_oneThing_J148 s.1 q1.1 (1 : Int32) q1.2)) else (f_X9_isThere s.2.1 s.2.2).bind (fun q3 => if q3.1 = 0 then ck s.2.1 10 (bnd (sI q3.2 98 (ix s.2.1) (0 : Int32)) (fun m4 => bnd (s.2.1 + (1 : Int32)) (fun y5 => some (Sum.inl (s.1, y5, m4))))) else (f_X9_unsaid s.2.1 s.1 q3.2).bind (fun q6 => ck s.2.1 10 (ck s.1 6 (if ¬ s.2.1 = (gI q6.2 85 31) then (f_X9_wishOf s.2.1 s.1 q6.1 (gI q6.2 97 (ix s.2.1)) (gI q6.2 102 (ix s.1)) (0 : Int32) q6.2).bind (fun q7 => ck s.2.1 10 (bnd (sI q7.2 98 (ix s.2.1) q7.1) (fun m8 => bnd (s.2.1 + (1 : Int32)) (fun y9 => some (Sum.inl (s.1, y9, m8)))))) else (f_X9_wishOf s.2.1 s.1 q6.1 (gI q6.2 97 (ix s.2.1)) (gI q6.2 102 (ix s.1)) (1 : Int32) q6.2).bind (fun q10 => ck s.2.1 10 (bnd (sI q10.2 98 (ix s.2.1) q10.1) (fun m11 => bnd (s.2.1 + (1 : Int32)) (fun y12 => some (Sum.inl (s.1, y12, m11))))))))))
theorem k_X9_oneThing_L65 {g : Gx}  {Q : Qy} {s : Int32 × Int32 × Mem} {t : (Int32 × Int32 × Mem) ⊕ ((Int32 × Int32 × Mem) ⊕ Mem)} (h : f_X9_oneThing_L65 s = some t) (hP : P_X9_oneThing_65 g Q t) : A_X9_oneThing_65 g Q s := by
  refine wp_iload_n dX9_oneThing_65 rfl rfl ?_
  refine wp_aload_n dX9_oneThing_66 rfl rfl ?_
  refine wm_getI dX9_oneThing_67 s_85 fk_X9_159 rfl rfl ?_
  refine wm_icmp_ge 134 dX9_oneThing_70 rfl rfl h (fun h => ?_) (fun h => ?_)
  · refine wm_up h hP (fun r h hP => ?_)
    refine wp_aload_n dX9_oneThing_134 rfl rfl ?_
    refine wm_callVI (As := []) (rest := []) dX9_oneThing_135 ok_X9_345 (by decide) rfl s_85 ⟨_, rfl⟩ (Nat.le_of_ble_eq_true rfl) ⟨rfl, rfl⟩ rfl (fun t h => o_X9_nextSpeaker h) h (fun q1 h => ?_)
    refine wp_istore_n (L' := [some (.ref 85), some (.int s.1), none, some (.int q1.1)]) dX9_oneThing_138 (by decide) rfl rfl rfl ?_
    refine wp_iload_n dX9_oneThing_139 rfl rfl ?_
    refine wm_if_lt 147 dX9_oneThing_140 rfl rfl h (fun h => ?_) (fun h => ?_)
    · refine wp_iconst (0 : Int32) dX9_oneThing_147 ic_0 rfl ?_
      exact wm_mask (L' := [some (.ref 85), some (.int s.1), none, some (.int q1.1)]) [true, true, false, true] rfl (k_X9_oneThing_J148  h hP)
    · refine wp_iconst (1 : Int32) dX9_oneThing_143 ic_1 rfl ?_
      refine wp_goto 148 dX9_oneThing_144 rfl ?_
      exact wm_mask (L' := [some (.ref 85), some (.int s.1), none, some (.int q1.1)]) [true, true, false, true] rfl (k_X9_oneThing_J148  h hP)
  · refine wp_aload_n dX9_oneThing_73 rfl rfl ?_
    refine wm_getR dX9_oneThing_74 s_85 fk_X9_46 rfl r_85_33 rfl ?_
    refine wp_iload_n dX9_oneThing_77 rfl rfl ?_
    refine wp_aload_n dX9_oneThing_78 rfl rfl ?_
    refine wp_iload_n dX9_oneThing_79 rfl rfl ?_
    refine wm_callVI (As := [.int s.2.1]) (rest := [.int s.2.1, .ref 98]) dX9_oneThing_80 ok_X9_299 (by decide) rfl s_85 ⟨_, rfl⟩ (Nat.le_of_ble_eq_true rfl) ⟨rfl, rfl⟩ rfl (fun t h => o_X9_isThere h) h (fun q3 h => ?_)
    refine wm_if_eq 126 dX9_oneThing_83 rfl rfl h (fun h => ?_) (fun h => ?_)
    · refine wp_iconst (0 : Int32) dX9_oneThing_126 ic_0 rfl ?_
      refine wm_iast dX9_oneThing_127 s_98 rfl h (fun m4 h => ?_)
      refine wm_inc dX9_oneThing_128 rfl ii_1 (by decide) rfl rfl h (fun y5 h => ?_)
      refine wm_list (L' := [some (.ref 85), some (.int s.1), none, some (.int y5)]) rfl ?_
      refine wp_goto 65 dX9_oneThing_131 rfl ?_
      have hB := wm_back h hP
      exact wm_mask (L' := [some (.ref 85), some (.int s.1), none, some (.int y5)]) [true, true, false, true] rfl (hB)
    · refine wp_aload_n dX9_oneThing_86 rfl rfl ?_
      refine wp_iload_n dX9_oneThing_87 rfl rfl ?_
      refine wp_iload_n dX9_oneThing_88 rfl rfl ?_
      refine wp_aload_n dX9_oneThing_89 rfl rfl ?_
      refine wp_iload_n dX9_oneThing_90 rfl rfl ?_
      refine wp_iload_n dX9_oneThing_91 rfl rfl ?_
      refine wm_callVI (As := [.int s.2.1, .int s.1]) (rest := [.int s.1, .int s.2.1, .ref 85, .int s.2.1, .ref 98]) dX9_oneThing_92 ok_X9_324 (by decide) rfl s_85 ⟨_, rfl⟩ (Nat.le_of_ble_eq_true rfl) ⟨rfl, rfl⟩ rfl (fun t h => o_X9_unsaid h) h (fun q6 h => ?_)
      refine wp_aload_n dX9_oneThing_95 rfl rfl ?_
      refine wm_getR dX9_oneThing_96 s_85 fk_X9_43 rfl r_85_32 rfl ?_
      refine wp_iload_n dX9_oneThing_99 rfl rfl ?_
      refine wm_iald dX9_oneThing_100 s_97 rfl h (fun h => ?_)
      refine wp_aload_n dX9_oneThing_101 rfl rfl ?_
      refine wm_getR dX9_oneThing_102 s_85 fk_X9_58 rfl r_85_37 rfl ?_
      refine wp_iload_n dX9_oneThing_105 rfl rfl ?_
      refine wm_iald dX9_oneThing_106 s_102 rfl h (fun h => ?_)
      refine wp_iload_n dX9_oneThing_107 rfl rfl ?_
      refine wp_aload_n dX9_oneThing_108 rfl rfl ?_
      refine wm_getI dX9_oneThing_109 s_85 fk_X9_305 rfl rfl ?_
      refine wm_icmp_ne 119 dX9_oneThing_112 rfl rfl h (fun h => ?_) (fun h => ?_)
      · refine wp_iconst (0 : Int32) dX9_oneThing_119 ic_0 rfl ?_
        refine wm_callVI (As := [.int s.2.1, .int s.1, .int q6.1, .int (gI q6.2 97 (ix s.2.1)), .int (gI q6.2 102 (ix s.1)), .int (0 : Int32)]) (rest := [.int s.2.1, .ref 98]) dX9_oneThing_120 ok_X9_341 (by decide) rfl s_85 ⟨_, rfl⟩ (Nat.le_of_ble_eq_true rfl) ⟨rfl, rfl⟩ rfl (fun t h => o_X9_wishOf h) h (fun q7 h => ?_)
        refine wp_goto 127 dX9_oneThing_123 rfl ?_
        refine wm_iast dX9_oneThing_127 s_98 rfl h (fun m8 h => ?_)
        refine wm_inc dX9_oneThing_128 rfl ii_1 (by decide) rfl rfl h (fun y9 h => ?_)
        refine wm_list (L' := [some (.ref 85), some (.int s.1), none, some (.int y9)]) rfl ?_
        refine wp_goto 65 dX9_oneThing_131 rfl ?_
        have hB := wm_back h hP
        exact wm_mask (L' := [some (.ref 85), some (.int s.1), none, some (.int y9)]) [true, true, false, true] rfl (hB)
      · refine wp_iconst (1 : Int32) dX9_oneThing_115 ic_1 rfl ?_
        refine wp_goto 120 dX9_oneThing_116 rfl ?_
        refine wm_callVI (As := [.int s.2.1, .int s.1, .int q6.1, .int (gI q6.2 97 (ix s.2.1)), .int (gI q6.2 102 (ix s.1)), .int (1 : Int32)]) (rest := [.int s.2.1, .ref 98]) dX9_oneThing_120 ok_X9_341 (by decide) rfl s_85 ⟨_, rfl⟩ (Nat.le_of_ble_eq_true rfl) ⟨rfl, rfl⟩ rfl (fun t h => o_X9_wishOf h) h (fun q10 h => ?_)
        refine wp_goto 127 dX9_oneThing_123 rfl ?_
        refine wm_iast dX9_oneThing_127 s_98 rfl h (fun m11 h => ?_)
        refine wm_inc dX9_oneThing_128 rfl ii_1 (by decide) rfl rfl h (fun y12 h => ?_)
        refine wm_list (L' := [some (.ref 85), some (.int s.1), none, some (.int y12)]) rfl ?_
        refine wp_goto 65 dX9_oneThing_131 rfl ?_
        have hB := wm_back h hP
        exact wm_mask (L' := [some (.ref 85), some (.int s.1), none, some (.int y12)]) [true, true, false, true] rfl (hB)
noncomputable def f_X9_oneThing_L38  (s : Int32 × Int32 × Mem) : Option ((Int32 × Int32 × Mem) ⊕ Mem) := if s.2.1 = 0 then up (some s.2.2) else ck s.1 6 (if (60 : Int32) ≤ (gI s.2.2 102 (ix s.1)) then up (some s.2.2) else if (200 : Int32) ≤ (gI s.2.2 85 30) then up (some s.2.2) else wh (f_X9_oneThing_L65) (s.1, (0 : Int32), s.2.2))
theorem k_X9_oneThing_L38 {g : Gx}  {Q : Qy} {s : Int32 × Int32 × Mem} {t : (Int32 × Int32 × Mem) ⊕ Mem} (h : f_X9_oneThing_L38 s = some t) (hP : P_X9_oneThing_38 g Q t) : A_X9_oneThing_38 g Q s := by
  refine wp_iload_n dX9_oneThing_38 rfl rfl ?_
  refine wm_if_eq 162 dX9_oneThing_39 rfl rfl h (fun h => ?_) (fun h => ?_)
  · refine wm_up h hP (fun r h hP => ?_)
    exact wm_vret dX9_oneThing_162 rfl ⟨rfl, rfl⟩ h hP
  · refine wp_aload_n dX9_oneThing_42 rfl rfl ?_
    refine wm_getR dX9_oneThing_43 s_85 fk_X9_58 rfl r_85_37 rfl ?_
    refine wp_iload_n dX9_oneThing_46 rfl rfl ?_
    refine wm_iald dX9_oneThing_47 s_102 rfl h (fun h => ?_)
    refine wp_bipush (60 : Int32) dX9_oneThing_48 ib_60 rfl ?_
    refine wm_icmp_ge 162 dX9_oneThing_50 rfl rfl h (fun h => ?_) (fun h => ?_)
    · refine wm_up h hP (fun r h hP => ?_)
      exact wm_vret dX9_oneThing_162 rfl ⟨rfl, rfl⟩ h hP
    · refine wp_aload_n dX9_oneThing_53 rfl rfl ?_
      refine wm_getI dX9_oneThing_54 s_85 fk_X9_321 rfl rfl ?_
      refine wp_sipush (200 : Int32) dX9_oneThing_57 is_200 rfl ?_
      refine wm_icmp_ge 162 dX9_oneThing_60 rfl rfl h (fun h => ?_) (fun h => ?_)
      · refine wm_up h hP (fun r h hP => ?_)
        exact wm_vret dX9_oneThing_162 rfl ⟨rfl, rfl⟩ h hP
      · refine wp_iconst (0 : Int32) dX9_oneThing_63 ic_0 rfl ?_
        refine wp_istore_n (L' := [some (.ref 85), some (.int s.1), some (.int s.2.1), some (.int (0 : Int32))]) dX9_oneThing_64 (by decide) rfl rfl rfl ?_
        have hB := wh_ok (A := A_X9_oneThing_65 g Q) (B := P_X9_oneThing_38 g Q) (fun s t h hP => k_X9_oneThing_L65  h hP) h hP
        exact wm_mask (L' := [some (.ref 85), some (.int s.1), none, some (.int (0 : Int32))]) [true, true, false, true] rfl (hB)
noncomputable def f_X9_oneThing_L15  (s : Int32 × Int32 × Mem) : Option ((Int32 × Int32 × Mem) ⊕ Mem) := if (gI s.2.2 85 6) ≤ s.2.1 then up (wh (f_X9_oneThing_L38) (s.1, (1 : Int32), s.2.2)) else ck s.2.1 10 (bnd (sI s.2.2 97 (ix s.2.1) (0 : Int32)) (fun m13 => bnd (s.2.1 + (1 : Int32)) (fun y14 => some (Sum.inl (s.1, y14, m13)))))
theorem k_X9_oneThing_L15 {g : Gx}  {Q : Qy} {s : Int32 × Int32 × Mem} {t : (Int32 × Int32 × Mem) ⊕ Mem} (h : f_X9_oneThing_L15 s = some t) (hP : P_X9_oneThing_15 g Q t) : A_X9_oneThing_15 g Q s := by
  refine wp_iload_n dX9_oneThing_15 rfl rfl ?_
  refine wp_aload_n dX9_oneThing_16 rfl rfl ?_
  refine wm_getI dX9_oneThing_17 s_85 fk_X9_159 rfl rfl ?_
  refine wm_icmp_ge 36 dX9_oneThing_20 rfl rfl h (fun h => ?_) (fun h => ?_)
  · refine wm_up h hP (fun r h hP => ?_)
    refine wp_iconst (1 : Int32) dX9_oneThing_36 ic_1 rfl ?_
    refine wp_istore_n (L' := [some (.ref 85), some (.int s.1), some (.int (1 : Int32)), none]) dX9_oneThing_37 (by decide) rfl rfl rfl ?_
    have hB := wh_ok (A := A_X9_oneThing_38 g Q) (B := pV Q) (fun s t h hP => k_X9_oneThing_L38  h hP) h hP
    exact wm_mask (L' := [some (.ref 85), some (.int s.1), some (.int (1 : Int32)), none]) [true, true, true, false] rfl (hB)
  · refine wp_aload_n dX9_oneThing_23 rfl rfl ?_
    refine wm_getR dX9_oneThing_24 s_85 fk_X9_43 rfl r_85_32 rfl ?_
    refine wp_iload_n dX9_oneThing_27 rfl rfl ?_
    refine wp_iconst (0 : Int32) dX9_oneThing_28 ic_0 rfl ?_
    refine wm_iast dX9_oneThing_29 s_97 rfl h (fun m13 h => ?_)
    refine wm_inc dX9_oneThing_30 rfl ii_1 (by decide) rfl rfl h (fun y14 h => ?_)
    refine wm_list (L' := [some (.ref 85), some (.int s.1), some (.int y14), none]) rfl ?_
    refine wp_goto 15 dX9_oneThing_33 rfl ?_
    have hB := wm_back h hP
    exact wm_mask (L' := [some (.ref 85), some (.int s.1), some (.int y14), none]) [true, true, true, false] rfl (hB)
noncomputable def f_X9_oneThing  (p1 : Int32) (m : Mem) : Option Mem := if ¬ (gI m 85 26) = (5 : Int32) then wh (f_X9_oneThing_L15) (p1, (0 : Int32), m) else (f_X9_putsPaper p1 m).bind (fun q15 => wh (f_X9_oneThing_L15) (p1, (0 : Int32), q15))
theorem k_X9_oneThing_E {g : Gx}  {p1 : Int32} {Q : Qy} {m : Mem} {t : Mem} (h : f_X9_oneThing p1 m = some t) (hP : pV Q t) : WpM g 65 mi_X9_oneThing 0 [some (.ref 85), some (.int p1), none, none] [] m (zM g mi_X9_oneThing Q) := by
  refine wp_aload_n dX9_oneThing_0 rfl rfl ?_
  refine wm_getI dX9_oneThing_1 s_85 fk_X9_280 rfl rfl ?_
  refine wp_iconst (5 : Int32) dX9_oneThing_4 ic_5 rfl ?_
  refine wm_icmp_ne 13 dX9_oneThing_5 rfl rfl h (fun h => ?_) (fun h => ?_)
  · refine wp_iconst (0 : Int32) dX9_oneThing_13 ic_0 rfl ?_
    refine wp_istore_n (L' := [some (.ref 85), some (.int p1), some (.int (0 : Int32)), none]) dX9_oneThing_14 (by decide) rfl rfl rfl ?_
    have hB := wh_ok (A := A_X9_oneThing_15 g Q) (B := pV Q) (fun s t h hP => k_X9_oneThing_L15  h hP) h hP
    exact wm_mask (L' := [some (.ref 85), some (.int p1), some (.int (0 : Int32)), none]) [true, true, true, false] rfl (hB)
  · refine wp_aload_n dX9_oneThing_8 rfl rfl ?_
    refine wp_iload_n dX9_oneThing_9 rfl rfl ?_
    refine wm_callVN (As := [.int p1]) (rest := []) dX9_oneThing_10 ok_X9_337 (by decide) rfl s_85 ⟨_, rfl⟩ (Nat.le_of_ble_eq_true rfl) ⟨rfl, rfl⟩ rfl (fun t h => o_X9_putsPaper h) h (fun q15 h => ?_)
    refine wp_iconst (0 : Int32) dX9_oneThing_13 ic_0 rfl ?_
    refine wp_istore_n (L' := [some (.ref 85), some (.int p1), some (.int (0 : Int32)), none]) dX9_oneThing_14 (by decide) rfl rfl rfl ?_
    have hB := wh_ok (A := A_X9_oneThing_15 g Q) (B := pV Q) (fun s t h hP => k_X9_oneThing_L15  h hP) h hP
    exact wm_mask (L' := [some (.ref 85), some (.int p1), some (.int (0 : Int32)), none]) [true, true, true, false] rfl (hB)
theorem o_X9_oneThing {g : Gx}  {p1 : Int32} {m : Mem} {t : Mem} (h : f_X9_oneThing p1 m = some t) : MxM g 65 mi_X9_oneThing [.ref 85, .int p1] m (qV t) := mx_of pn_X9 (Nat.le_of_ble_eq_true rfl) (k_X9_oneThing_E h ⟨rfl, rfl, rfl, rfl, rfl⟩)
abbrev A_X9_meets_17 (g : Gx)  (Q : Qy) (s : Int32 × Mem) : Prop := WpM g 66 mi_X9_meets 17 [some (.ref 85), some (.int s.1)] [] s.2 (zM g mi_X9_meets Q)
abbrev P_X9_meets_17 (g : Gx)  (Q : Qy) : ((Int32 × Mem) ⊕ Mem) → Prop := pS (A_X9_meets_17 g Q) (pV Q)
abbrev A_X9_meets_41 (g : Gx)  (Q : Qy) (s : Int32 × Mem) : Prop := WpM g 66 mi_X9_meets 41 [some (.ref 85), some (.int s.1)] [] s.2 (zM g mi_X9_meets Q)
abbrev P_X9_meets_41 (g : Gx)  (Q : Qy) : ((Int32 × Mem) ⊕ Mem) → Prop := pS (A_X9_meets_41 g Q) (pV Q)
abbrev A_X9_meets_73 (g : Gx)  (Q : Qy) (s : Int32 × Mem) : Prop := WpM g 66 mi_X9_meets 73 [some (.ref 85), some (.int s.1)] [] s.2 (zM g mi_X9_meets Q)
abbrev P_X9_meets_73 (g : Gx)  (Q : Qy) : ((Int32 × Mem) ⊕ Mem) → Prop := pS (A_X9_meets_73 g Q) (pV Q)
abbrev A_X9_meets_96 (g : Gx)  (Q : Qy) (s : Int32 × Mem) : Prop := WpM g 66 mi_X9_meets 96 [some (.ref 85), some (.int s.1)] [] s.2 (zM g mi_X9_meets Q)
abbrev P_X9_meets_96 (g : Gx)  (Q : Qy) : ((Int32 × Mem) ⊕ Mem) → Prop := pS (A_X9_meets_96 g Q) (pV Q)
noncomputable def f_X9_meets_L96  (s : Int32 × Mem) : Option ((Int32 × Mem) ⊕ Mem) := if (gI s.2 85 8) ≤ s.1 then up (some s.2) else ck s.1 6 ((f_X9_oneThing (gI s.2 103 (ix s.1)) s.2).bind (fun q4 => bnd (s.1 + (1 : Int32)) (fun y5 => some (Sum.inl (y5, q4)))))
theorem k_X9_meets_L96 {g : Gx}  {Q : Qy} {s : Int32 × Mem} {t : (Int32 × Mem) ⊕ Mem} (h : f_X9_meets_L96 s = some t) (hP : P_X9_meets_96 g Q t) : A_X9_meets_96 g Q s := by
  refine wp_iload_n dX9_meets_96 rfl rfl ?_
  refine wp_aload_n dX9_meets_97 rfl rfl ?_
  refine wm_getI dX9_meets_98 s_85 fk_X9_166 rfl rfl ?_
  refine wm_icmp_ge 120 dX9_meets_101 rfl rfl h (fun h => ?_) (fun h => ?_)
  · refine wm_up h hP (fun r h hP => ?_)
    exact wm_vret dX9_meets_120 rfl ⟨rfl, rfl⟩ h hP
  · refine wp_aload_n dX9_meets_104 rfl rfl ?_
    refine wp_aload_n dX9_meets_105 rfl rfl ?_
    refine wm_getR dX9_meets_106 s_85 fk_X9_61 rfl r_85_38 rfl ?_
    refine wp_iload_n dX9_meets_109 rfl rfl ?_
    refine wm_iald dX9_meets_110 s_103 rfl h (fun h => ?_)
    refine wm_callVN (As := [.int (gI s.2 103 (ix s.1))]) (rest := []) dX9_meets_111 ok_X9_352 (by decide) rfl s_85 ⟨_, rfl⟩ (Nat.le_of_ble_eq_true rfl) ⟨rfl, rfl⟩ rfl (fun t h => o_X9_oneThing h) h (fun q4 h => ?_)
    refine wm_inc dX9_meets_114 rfl ii_1 (by decide) rfl rfl h (fun y5 h => ?_)
    refine wm_list (L' := [some (.ref 85), some (.int y5)]) rfl ?_
    refine wp_goto 96 dX9_meets_117 rfl ?_
    have hB := wm_back h hP
    exact wm_mask (L' := [some (.ref 85), some (.int y5)]) [true, true] rfl (hB)
noncomputable def f_X9_meets_L73  (s : Int32 × Mem) : Option ((Int32 × Mem) ⊕ Mem) := if (gI s.2 85 8) ≤ s.1 then up (wh (f_X9_meets_L96) ((0 : Int32), s.2)) else ck s.1 6 (bnd (sI s.2 102 (ix s.1) (0 : Int32)) (fun m6 => bnd (s.1 + (1 : Int32)) (fun y7 => some (Sum.inl (y7, m6)))))
theorem k_X9_meets_L73 {g : Gx}  {Q : Qy} {s : Int32 × Mem} {t : (Int32 × Mem) ⊕ Mem} (h : f_X9_meets_L73 s = some t) (hP : P_X9_meets_73 g Q t) : A_X9_meets_73 g Q s := by
  refine wp_iload_n dX9_meets_73 rfl rfl ?_
  refine wp_aload_n dX9_meets_74 rfl rfl ?_
  refine wm_getI dX9_meets_75 s_85 fk_X9_166 rfl rfl ?_
  refine wm_icmp_ge 94 dX9_meets_78 rfl rfl h (fun h => ?_) (fun h => ?_)
  · refine wm_up h hP (fun r h hP => ?_)
    refine wp_iconst (0 : Int32) dX9_meets_94 ic_0 rfl ?_
    refine wp_istore_n (L' := [some (.ref 85), some (.int (0 : Int32))]) dX9_meets_95 (by decide) rfl rfl rfl ?_
    have hB := wh_ok (A := A_X9_meets_96 g Q) (B := pV Q) (fun s t h hP => k_X9_meets_L96  h hP) h hP
    exact wm_mask (L' := [some (.ref 85), some (.int (0 : Int32))]) [true, true] rfl (hB)
  · refine wp_aload_n dX9_meets_81 rfl rfl ?_
    refine wm_getR dX9_meets_82 s_85 fk_X9_58 rfl r_85_37 rfl ?_
    refine wp_iload_n dX9_meets_85 rfl rfl ?_
    refine wp_iconst (0 : Int32) dX9_meets_86 ic_0 rfl ?_
    refine wm_iast dX9_meets_87 s_102 rfl h (fun m6 h => ?_)
    refine wm_inc dX9_meets_88 rfl ii_1 (by decide) rfl rfl h (fun y7 h => ?_)
    refine wm_list (L' := [some (.ref 85), some (.int y7)]) rfl ?_
    refine wp_goto 73 dX9_meets_91 rfl ?_
    have hB := wm_back h hP
    exact wm_mask (L' := [some (.ref 85), some (.int y7)]) [true, true] rfl (hB)
noncomputable def f_X9_meets_L41  (s : Int32 × Mem) : Option ((Int32 × Mem) ⊕ Mem) := if (gI s.2 85 9) ≤ s.1 then up (wh (f_X9_meets_L73) ((0 : Int32), s.2)) else ck s.1 20 (bnd (sI s.2 100 (ix s.1) (-2 : Int32)) (fun m8 => ck s.1 20 (bnd (sI m8 101 (ix s.1) (-2 : Int32)) (fun m9 => bnd (s.1 + (1 : Int32)) (fun y10 => some (Sum.inl (y10, m9)))))))
theorem k_X9_meets_L41 {g : Gx}  {Q : Qy} {s : Int32 × Mem} {t : (Int32 × Mem) ⊕ Mem} (h : f_X9_meets_L41 s = some t) (hP : P_X9_meets_41 g Q t) : A_X9_meets_41 g Q s := by
  refine wp_iload_n dX9_meets_41 rfl rfl ?_
  refine wp_aload_n dX9_meets_42 rfl rfl ?_
  refine wm_getI dX9_meets_43 s_85 fk_X9_169 rfl rfl ?_
  refine wm_icmp_ge 71 dX9_meets_46 rfl rfl h (fun h => ?_) (fun h => ?_)
  · refine wm_up h hP (fun r h hP => ?_)
    refine wp_iconst (0 : Int32) dX9_meets_71 ic_0 rfl ?_
    refine wp_istore_n (L' := [some (.ref 85), some (.int (0 : Int32))]) dX9_meets_72 (by decide) rfl rfl rfl ?_
    have hB := wh_ok (A := A_X9_meets_73 g Q) (B := pV Q) (fun s t h hP => k_X9_meets_L73  h hP) h hP
    exact wm_mask (L' := [some (.ref 85), some (.int (0 : Int32))]) [true, true] rfl (hB)
  · refine wp_aload_n dX9_meets_49 rfl rfl ?_
    refine wm_getR dX9_meets_50 s_85 fk_X9_52 rfl r_85_35 rfl ?_
    refine wp_iload_n dX9_meets_53 rfl rfl ?_
    refine wp_bipush (-2 : Int32) dX9_meets_54 ib_m2 rfl ?_
    refine wm_iast dX9_meets_56 s_100 rfl h (fun m8 h => ?_)
    refine wp_aload_n dX9_meets_57 rfl rfl ?_
    refine wm_getR dX9_meets_58 s_85 fk_X9_55 rfl r_85_36 rfl ?_
    refine wp_iload_n dX9_meets_61 rfl rfl ?_
    refine wp_bipush (-2 : Int32) dX9_meets_62 ib_m2 rfl ?_
    refine wm_iast dX9_meets_64 s_101 rfl h (fun m9 h => ?_)
    refine wm_inc dX9_meets_65 rfl ii_1 (by decide) rfl rfl h (fun y10 h => ?_)
    refine wm_list (L' := [some (.ref 85), some (.int y10)]) rfl ?_
    refine wp_goto 41 dX9_meets_68 rfl ?_
    have hB := wm_back h hP
    exact wm_mask (L' := [some (.ref 85), some (.int y10)]) [true, true] rfl (hB)
noncomputable def f_X9_meets_L17  (s : Int32 × Mem) : Option ((Int32 × Mem) ⊕ Mem) := if (gI s.2 85 6) ≤ s.1 then up (wh (f_X9_meets_L41) ((0 : Int32), s.2)) else ck s.1 10 (bnd (sI s.2 99 (ix s.1) (-2 : Int32)) (fun m11 => bnd (s.1 + (1 : Int32)) (fun y12 => some (Sum.inl (y12, m11)))))
theorem k_X9_meets_L17 {g : Gx}  {Q : Qy} {s : Int32 × Mem} {t : (Int32 × Mem) ⊕ Mem} (h : f_X9_meets_L17 s = some t) (hP : P_X9_meets_17 g Q t) : A_X9_meets_17 g Q s := by
  refine wp_iload_n dX9_meets_17 rfl rfl ?_
  refine wp_aload_n dX9_meets_18 rfl rfl ?_
  refine wm_getI dX9_meets_19 s_85 fk_X9_159 rfl rfl ?_
  refine wm_icmp_ge 39 dX9_meets_22 rfl rfl h (fun h => ?_) (fun h => ?_)
  · refine wm_up h hP (fun r h hP => ?_)
    refine wp_iconst (0 : Int32) dX9_meets_39 ic_0 rfl ?_
    refine wp_istore_n (L' := [some (.ref 85), some (.int (0 : Int32))]) dX9_meets_40 (by decide) rfl rfl rfl ?_
    have hB := wh_ok (A := A_X9_meets_41 g Q) (B := pV Q) (fun s t h hP => k_X9_meets_L41  h hP) h hP
    exact wm_mask (L' := [some (.ref 85), some (.int (0 : Int32))]) [true, true] rfl (hB)
  · refine wp_aload_n dX9_meets_25 rfl rfl ?_
    refine wm_getR dX9_meets_26 s_85 fk_X9_49 rfl r_85_34 rfl ?_
    refine wp_iload_n dX9_meets_29 rfl rfl ?_
    refine wp_bipush (-2 : Int32) dX9_meets_30 ib_m2 rfl ?_
    refine wm_iast dX9_meets_32 s_99 rfl h (fun m11 h => ?_)
    refine wm_inc dX9_meets_33 rfl ii_1 (by decide) rfl rfl h (fun y12 h => ?_)
    refine wm_list (L' := [some (.ref 85), some (.int y12)]) rfl ?_
    refine wp_goto 17 dX9_meets_36 rfl ?_
    have hB := wm_back h hP
    exact wm_mask (L' := [some (.ref 85), some (.int y12)]) [true, true] rfl (hB)
noncomputable def f_X9_meets   (m : Mem) : Option Mem := bnd (sI m 85 29 (0 : Int32)) (fun m1 => bnd (sI m1 85 30 (0 : Int32)) (fun m2 => bnd (sI m2 85 31 (-1 : Int32)) (fun m3 => wh (f_X9_meets_L17) ((0 : Int32), m3))))
theorem k_X9_meets_E {g : Gx}   {Q : Qy} {m : Mem} {t : Mem} (h : f_X9_meets m = some t) (hP : pV Q t) : WpM g 66 mi_X9_meets 0 [some (.ref 85), none] [] m (zM g mi_X9_meets Q) := by
  refine wp_aload_n dX9_meets_0 rfl rfl ?_
  refine wp_iconst (0 : Int32) dX9_meets_1 ic_0 rfl ?_
  refine wm_putI dX9_meets_2 s_85 fk_X9_289 rfl rfl h (fun m1 h => ?_)
  refine wp_aload_n dX9_meets_5 rfl rfl ?_
  refine wp_iconst (0 : Int32) dX9_meets_6 ic_0 rfl ?_
  refine wm_putI dX9_meets_7 s_85 fk_X9_321 rfl rfl h (fun m2 h => ?_)
  refine wp_aload_n dX9_meets_10 rfl rfl ?_
  refine wp_iconst (-1 : Int32) dX9_meets_11 ic_m1 rfl ?_
  refine wm_putI dX9_meets_12 s_85 fk_X9_305 rfl rfl h (fun m3 h => ?_)
  refine wp_iconst (0 : Int32) dX9_meets_15 ic_0 rfl ?_
  refine wp_istore_n (L' := [some (.ref 85), some (.int (0 : Int32))]) dX9_meets_16 (by decide) rfl rfl rfl ?_
  have hB := wh_ok (A := A_X9_meets_17 g Q) (B := pV Q) (fun s t h hP => k_X9_meets_L17  h hP) h hP
  exact wm_mask (L' := [some (.ref 85), some (.int (0 : Int32))]) [true, true] rfl (hB)
theorem o_X9_meets {g : Gx}   {m : Mem} {t : Mem} (h : f_X9_meets m = some t) : MxM g 66 mi_X9_meets [.ref 85] m (qV t) := mx_of pn_X9 (Nat.le_of_ble_eq_true rfl) (k_X9_meets_E h ⟨rfl, rfl, rfl, rfl, rfl⟩)
abbrev A_X9_film_53 (g : Gx)  (Q : Qy) (s : Int32 × Int32 × Int32 × Mem) : Prop := WpM g 67 mi_X9_film 53 [some (.ref 85), some (.int s.1), some (.int s.2.1), some (.int s.2.2.1), none, none] [] s.2.2.2 (zM g mi_X9_film Q)
abbrev P_X9_film_53 (g : Gx)  (Q : Qy) : ((Int32 × Int32 × Int32 × Mem) ⊕ (Int32 × Mem)) → Prop := pS (A_X9_film_53 g Q) (pI Q)
abbrev A_X9_film_91 (g : Gx)  (Q : Qy) (s : Int32 × Int32 × Int32 × Int32 × Int32 × Mem) : Prop := WpM g 67 mi_X9_film 91 [some (.ref 85), some (.int s.1), some (.int s.2.1), some (.int s.2.2.1), some (.int s.2.2.2.1), some (.int s.2.2.2.2.1)] [] s.2.2.2.2.2 (zM g mi_X9_film Q)
abbrev P_X9_film_91 (g : Gx)  (Q : Qy) : ((Int32 × Int32 × Int32 × Int32 × Int32 × Mem) ⊕ ((Int32 × Int32 × Int32 × Mem) ⊕ (Int32 × Mem))) → Prop := pS (A_X9_film_91 g Q) (P_X9_film_53 g Q)
noncomputable def f_X9_film_J144  (v1 : Int32) (v2 : Int32) (v3 : Int32) (v4 : Int32) (m : Mem) : Option ((Int32 × Int32 × Int32 × Mem) ⊕ (Int32 × Mem)) := if v4 = 0 then bnd (v2 ||| (0 : Int32)) (fun y6 => bnd (v3 + (1 : Int32)) (fun y7 => some (Sum.inl (v1, y6, y7, m)))) else bnd (v2 ||| ((1 : Int32) <<< (v3 &&& 31))) (fun y8 => bnd (v3 + (1 : Int32)) (fun y9 => some (Sum.inl (v1, y8, y9, m))))
theorem k_X9_film_J144 {g : Gx}  {v1 : Int32} {v2 : Int32} {v3 : Int32} {v4 : Int32}  {Q : Qy} {m : Mem} {t : (Int32 × Int32 × Int32 × Mem) ⊕ (Int32 × Mem)} (h : f_X9_film_J144 v1 v2 v3 v4 m = some t) (hP : P_X9_film_53 g Q t) : WpM g 67 mi_X9_film 144 [some (.ref 85), some (.int v1), some (.int v2), some (.int v3), some (.int v4), none] [] m (zM g mi_X9_film Q) := by
  refine wp_iload_n dX9_film_144 rfl rfl ?_
  refine wp_iload dX9_film_145 rfl rfl ?_
  refine wm_if_eq 156 dX9_film_147 rfl rfl h (fun h => ?_) (fun h => ?_)
  · refine wp_iconst (0 : Int32) dX9_film_156 ic_0 rfl ?_
    refine wp_ior dX9_film_157 rfl ?_
    refine wm_nm h (fun y6 h => ?_)
    refine wp_istore_n (L' := [some (.ref 85), some (.int v1), some (.int y6), some (.int v3), some (.int v4), none]) dX9_film_158 (by decide) rfl rfl rfl ?_
    refine wm_inc dX9_film_159 rfl ii_1 (by decide) rfl rfl h (fun y7 h => ?_)
    refine wm_list (L' := [some (.ref 85), some (.int v1), some (.int y6), some (.int y7), some (.int v4), none]) rfl ?_
    refine wp_goto 53 dX9_film_162 rfl ?_
    have hB := wm_back h hP
    exact wm_mask (L' := [some (.ref 85), some (.int v1), some (.int y6), some (.int y7), none, none]) [true, true, true, true, false, false] rfl (hB)
  · refine wp_iconst (1 : Int32) dX9_film_150 ic_1 rfl ?_
    refine wp_iload_n dX9_film_151 rfl rfl ?_
    refine wp_ishl dX9_film_152 rfl ?_
    refine wp_goto 157 dX9_film_153 rfl ?_
    refine wp_ior dX9_film_157 rfl ?_
    refine wm_nm h (fun y8 h => ?_)
    refine wp_istore_n (L' := [some (.ref 85), some (.int v1), some (.int y8), some (.int v3), some (.int v4), none]) dX9_film_158 (by decide) rfl rfl rfl ?_
    refine wm_inc dX9_film_159 rfl ii_1 (by decide) rfl rfl h (fun y9 h => ?_)
    refine wm_list (L' := [some (.ref 85), some (.int v1), some (.int y8), some (.int y9), some (.int v4), none]) rfl ?_
    refine wp_goto 53 dX9_film_162 rfl ?_
    have hB := wm_back h hP
    exact wm_mask (L' := [some (.ref 85), some (.int v1), some (.int y8), some (.int y9), none, none]) [true, true, true, true, false, false] rfl (hB)
noncomputable def f_X9_film_L91  (s : Int32 × Int32 × Int32 × Int32 × Int32 × Mem) : Option ((Int32 × Int32 × Int32 × Int32 × Int32 × Mem) ⊕ ((Int32 × Int32 × Int32 × Mem) ⊕ (Int32 × Mem))) := ck s.1 6 (if (gI s.2.2.2.2.2 127 (ix s.1)) ≤ s.2.2.2.2.1 then up (f_X9_film_J144 s.1 s.2.1 s.2.2.1 s.2.2.2.1 s.2.2.2.2.2) else if s.2.2.2.1 = 0 then up (f_X9_film_J144 s.1 s.2.1 s.2.2.1 s.2.2.2.1 s.2.2.2.2.2) else ck s.2.2.2.2.1 200 (ck (((60 : Int32) * s.1) + s.2.2.2.2.1) 360 (if ¬ (lg_cmp (gI s.2.2.2.2.2 104 (ix s.2.2.2.2.1)).toInt64 (gJ s.2.2.2.2.2 128 (ix (((60 : Int32) * s.1) + s.2.2.2.2.1)))) = 0 then bnd (s.2.2.2.2.1 + (1 : Int32)) (fun y10 => some (Sum.inl (s.1, s.2.1, s.2.2.1, (0 : Int32), y10, s.2.2.2.2.2))) else bnd (s.2.2.2.2.1 + (1 : Int32)) (fun y11 => some (Sum.inl (s.1, s.2.1, s.2.2.1, (1 : Int32), y11, s.2.2.2.2.2))))))
theorem k_X9_film_L91 {g : Gx}  {Q : Qy} {s : Int32 × Int32 × Int32 × Int32 × Int32 × Mem} {t : (Int32 × Int32 × Int32 × Int32 × Int32 × Mem) ⊕ ((Int32 × Int32 × Int32 × Mem) ⊕ (Int32 × Mem))} (h : f_X9_film_L91 s = some t) (hP : P_X9_film_91 g Q t) : A_X9_film_91 g Q s := by
  refine wp_iload dX9_film_91 rfl rfl ?_
  refine wp_aload_n dX9_film_93 rfl rfl ?_
  refine wm_getR dX9_film_94 s_85 fk_X9_133 rfl r_85_73 rfl ?_
  refine wp_iload_n dX9_film_97 rfl rfl ?_
  refine wm_iald dX9_film_98 s_127 rfl h (fun h => ?_)
  refine wm_icmp_ge 144 dX9_film_99 rfl rfl h (fun h => ?_) (fun h => ?_)
  · refine wm_up h hP (fun r h hP => ?_)
    exact wm_mask (L' := [some (.ref 85), some (.int s.1), some (.int s.2.1), some (.int s.2.2.1), some (.int s.2.2.2.1), none]) [true, true, true, true, true, false] rfl (k_X9_film_J144  h hP)
  · refine wp_iload dX9_film_102 rfl rfl ?_
    refine wm_if_eq 144 dX9_film_104 rfl rfl h (fun h => ?_) (fun h => ?_)
    · refine wm_up h hP (fun r h hP => ?_)
      exact wm_mask (L' := [some (.ref 85), some (.int s.1), some (.int s.2.1), some (.int s.2.2.1), some (.int s.2.2.2.1), none]) [true, true, true, true, true, false] rfl (k_X9_film_J144  h hP)
    · refine wp_aload_n dX9_film_107 rfl rfl ?_
      refine wm_getR dX9_film_108 s_85 fk_X9_64 rfl r_85_39 rfl ?_
      refine wp_iload dX9_film_111 rfl rfl ?_
      refine wm_iald dX9_film_113 s_104 rfl h (fun h => ?_)
      refine wp_i2l dX9_film_114 rfl ?_
      refine wp_aload_n dX9_film_115 rfl rfl ?_
      refine wm_getR dX9_film_116 s_85 fk_X9_136 rfl r_85_74 rfl ?_
      refine wp_bipush (60 : Int32) dX9_film_119 ib_60 rfl ?_
      refine wp_iload_n dX9_film_121 rfl rfl ?_
      refine wp_imul dX9_film_122 rfl ?_
      refine wp_iload dX9_film_123 rfl rfl ?_
      refine wp_iadd dX9_film_125 rfl ?_
      refine wm_lald dX9_film_126 s_128 rfl h (fun h => ?_)
      refine wp_lcmp dX9_film_127 rfl ?_
      refine wm_if_ne 135 dX9_film_128 rfl rfl h (fun h => ?_) (fun h => ?_)
      · refine wp_iconst (0 : Int32) dX9_film_135 ic_0 rfl ?_
        refine wp_istore (L' := [some (.ref 85), some (.int s.1), some (.int s.2.1), some (.int s.2.2.1), some (.int (0 : Int32)), some (.int s.2.2.2.2.1)]) dX9_film_136 (by decide) rfl rfl rfl ?_
        refine wm_inc dX9_film_138 rfl ii_1 (by decide) rfl rfl h (fun y10 h => ?_)
        refine wm_list (L' := [some (.ref 85), some (.int s.1), some (.int s.2.1), some (.int s.2.2.1), some (.int (0 : Int32)), some (.int y10)]) rfl ?_
        refine wp_goto 91 dX9_film_141 rfl ?_
        have hB := wm_back h hP
        exact wm_mask (L' := [some (.ref 85), some (.int s.1), some (.int s.2.1), some (.int s.2.2.1), some (.int (0 : Int32)), some (.int y10)]) [true, true, true, true, true, true] rfl (hB)
      · refine wp_iconst (1 : Int32) dX9_film_131 ic_1 rfl ?_
        refine wp_goto 136 dX9_film_132 rfl ?_
        refine wp_istore (L' := [some (.ref 85), some (.int s.1), some (.int s.2.1), some (.int s.2.2.1), some (.int (1 : Int32)), some (.int s.2.2.2.2.1)]) dX9_film_136 (by decide) rfl rfl rfl ?_
        refine wm_inc dX9_film_138 rfl ii_1 (by decide) rfl rfl h (fun y11 h => ?_)
        refine wm_list (L' := [some (.ref 85), some (.int s.1), some (.int s.2.1), some (.int s.2.2.1), some (.int (1 : Int32)), some (.int y11)]) rfl ?_
        refine wp_goto 91 dX9_film_141 rfl ?_
        have hB := wm_back h hP
        exact wm_mask (L' := [some (.ref 85), some (.int s.1), some (.int s.2.1), some (.int s.2.2.1), some (.int (1 : Int32)), some (.int y11)]) [true, true, true, true, true, true] rfl (hB)
noncomputable def f_X9_film_L53  (s : Int32 × Int32 × Int32 × Mem) : Option ((Int32 × Int32 × Int32 × Mem) ⊕ (Int32 × Mem)) := if (6 : Int32) ≤ s.2.2.1 then up (some (s.2.1, s.2.2.2)) else bnd (sI s.2.2.2 85 26 s.2.2.1) (fun m4 => (f_X9_meets m4).bind (fun q5 => ck s.1 6 (if (gI q5 85 30) < (gI q5 127 (ix s.1)) then wh (f_X9_film_L91) (s.1, s.2.1, s.2.2.1, (0 : Int32), (0 : Int32), q5) else wh (f_X9_film_L91) (s.1, s.2.1, s.2.2.1, (1 : Int32), (0 : Int32), q5))))
theorem k_X9_film_L53 {g : Gx}  {Q : Qy} {s : Int32 × Int32 × Int32 × Mem} {t : (Int32 × Int32 × Int32 × Mem) ⊕ (Int32 × Mem)} (h : f_X9_film_L53 s = some t) (hP : P_X9_film_53 g Q t) : A_X9_film_53 g Q s := by
  refine wp_iload_n dX9_film_53 rfl rfl ?_
  refine wp_bipush (6 : Int32) dX9_film_54 ib_6 rfl ?_
  refine wm_icmp_ge 165 dX9_film_56 rfl rfl h (fun h => ?_) (fun h => ?_)
  · refine wm_up h hP (fun r h hP => ?_)
    refine wp_iload_n dX9_film_165 rfl rfl ?_
    exact wm_iret dX9_film_166 rfl ⟨rfl, rfl⟩ h hP
  · refine wp_aload_n dX9_film_59 rfl rfl ?_
    refine wp_iload_n dX9_film_60 rfl rfl ?_
    refine wm_putI dX9_film_61 s_85 fk_X9_280 rfl rfl h (fun m4 h => ?_)
    refine wp_aload_n dX9_film_64 rfl rfl ?_
    refine wm_callVN (As := []) (rest := []) dX9_film_65 ok_X9_398 (by decide) rfl s_85 ⟨_, rfl⟩ (Nat.le_of_ble_eq_true rfl) ⟨rfl, rfl⟩ rfl (fun t h => o_X9_meets h) h (fun q5 h => ?_)
    refine wp_aload_n dX9_film_68 rfl rfl ?_
    refine wm_getI dX9_film_69 s_85 fk_X9_321 rfl rfl ?_
    refine wp_aload_n dX9_film_72 rfl rfl ?_
    refine wm_getR dX9_film_73 s_85 fk_X9_133 rfl r_85_73 rfl ?_
    refine wp_iload_n dX9_film_76 rfl rfl ?_
    refine wm_iald dX9_film_77 s_127 rfl h (fun h => ?_)
    refine wm_icmp_lt 85 dX9_film_78 rfl rfl h (fun h => ?_) (fun h => ?_)
    · refine wp_iconst (0 : Int32) dX9_film_85 ic_0 rfl ?_
      refine wp_istore (L' := [some (.ref 85), some (.int s.1), some (.int s.2.1), some (.int s.2.2.1), some (.int (0 : Int32)), none]) dX9_film_86 (by decide) rfl rfl rfl ?_
      refine wp_iconst (0 : Int32) dX9_film_88 ic_0 rfl ?_
      refine wp_istore (L' := [some (.ref 85), some (.int s.1), some (.int s.2.1), some (.int s.2.2.1), some (.int (0 : Int32)), some (.int (0 : Int32))]) dX9_film_89 (by decide) rfl rfl rfl ?_
      have hB := wh_ok (A := A_X9_film_91 g Q) (B := P_X9_film_53 g Q) (fun s t h hP => k_X9_film_L91  h hP) h hP
      exact wm_mask (L' := [some (.ref 85), some (.int s.1), some (.int s.2.1), some (.int s.2.2.1), some (.int (0 : Int32)), some (.int (0 : Int32))]) [true, true, true, true, true, true] rfl (hB)
    · refine wp_iconst (1 : Int32) dX9_film_81 ic_1 rfl ?_
      refine wp_goto 86 dX9_film_82 rfl ?_
      refine wp_istore (L' := [some (.ref 85), some (.int s.1), some (.int s.2.1), some (.int s.2.2.1), some (.int (1 : Int32)), none]) dX9_film_86 (by decide) rfl rfl rfl ?_
      refine wp_iconst (0 : Int32) dX9_film_88 ic_0 rfl ?_
      refine wp_istore (L' := [some (.ref 85), some (.int s.1), some (.int s.2.1), some (.int s.2.2.1), some (.int (1 : Int32)), some (.int (0 : Int32))]) dX9_film_89 (by decide) rfl rfl rfl ?_
      have hB := wh_ok (A := A_X9_film_91 g Q) (B := P_X9_film_53 g Q) (fun s t h hP => k_X9_film_L91  h hP) h hP
      exact wm_mask (L' := [some (.ref 85), some (.int s.1), some (.int s.2.1), some (.int s.2.2.1), some (.int (1 : Int32)), some (.int (0 : Int32))]) [true, true, true, true, true, true] rfl (hB)
noncomputable def f_X9_film  (p1 : Int32) (m : Mem) : Option (Int32 × Mem) := (f_X9_isShelf p1 m).bind (fun q1 => if ¬ q1.1 = 0 then ck p1 6 (if 0 ≤ (gI q1.2 126 (ix p1)) then ck p1 6 (if (gI q1.2 126 (ix p1)) = (50 : Int32) then (f_X9_isTable q1.2).bind (fun q2 => if ¬ q2.1 = 0 then (f_X9_plain q2.2).bind (fun q3 => wh (f_X9_film_L53) (p1, (0 : Int32), (0 : Int32), q3)) else some ((-5 : Int32), q2.2)) else some ((-12 : Int32), q1.2)) else some ((-11 : Int32), q1.2)) else some ((-1 : Int32), q1.2))
theorem k_X9_film_E {g : Gx}  {p1 : Int32} {Q : Qy} {m : Mem} {t : Int32 × Mem} (h : f_X9_film p1 m = some t) (hP : pI Q t) : WpM g 67 mi_X9_film 0 [some (.ref 85), some (.int p1), none, none, none, none] [] m (zM g mi_X9_film Q) := by
  refine wp_iload_n dX9_film_0 rfl rfl ?_
  refine wm_callSI (As := [.int p1]) (rest := []) dX9_film_1 ok_X9_198 (by decide) rfl (Nat.le_of_ble_eq_true rfl) ⟨rfl, rfl⟩ rfl (fun t h => o_X9_isShelf h) h (fun q1 h => ?_)
  refine wm_if_ne 9 dX9_film_4 rfl rfl h (fun h => ?_) (fun h => ?_)
  · refine wp_aload_n dX9_film_9 rfl rfl ?_
    refine wm_getR dX9_film_10 s_85 fk_X9_130 rfl r_85_72 rfl ?_
    refine wp_iload_n dX9_film_13 rfl rfl ?_
    refine wm_iald dX9_film_14 s_126 rfl h (fun h => ?_)
    refine wm_if_ge 21 dX9_film_15 rfl rfl h (fun h => ?_) (fun h => ?_)
    · refine wp_aload_n dX9_film_21 rfl rfl ?_
      refine wm_getR dX9_film_22 s_85 fk_X9_130 rfl r_85_72 rfl ?_
      refine wp_iload_n dX9_film_25 rfl rfl ?_
      refine wm_iald dX9_film_26 s_126 rfl h (fun h => ?_)
      refine wp_bipush (50 : Int32) dX9_film_27 ib_50 rfl ?_
      refine wm_icmp_eq 35 dX9_film_29 rfl rfl h (fun h => ?_) (fun h => ?_)
      · refine wp_aload_n dX9_film_35 rfl rfl ?_
        refine wm_callVI (As := []) (rest := []) dX9_film_36 ok_X9_394 (by decide) rfl s_85 ⟨_, rfl⟩ (Nat.le_of_ble_eq_true rfl) ⟨rfl, rfl⟩ rfl (fun t h => o_X9_isTable h) h (fun q2 h => ?_)
        refine wm_if_ne 45 dX9_film_39 rfl rfl h (fun h => ?_) (fun h => ?_)
        · refine wp_aload_n dX9_film_45 rfl rfl ?_
          refine wm_callVN (As := []) (rest := []) dX9_film_46 ok_X9_388 (by decide) rfl s_85 ⟨_, rfl⟩ (Nat.le_of_ble_eq_true rfl) ⟨rfl, rfl⟩ rfl (fun t h => o_X9_plain h) h (fun q3 h => ?_)
          refine wp_iconst (0 : Int32) dX9_film_49 ic_0 rfl ?_
          refine wp_istore_n (L' := [some (.ref 85), some (.int p1), some (.int (0 : Int32)), none, none, none]) dX9_film_50 (by decide) rfl rfl rfl ?_
          refine wp_iconst (0 : Int32) dX9_film_51 ic_0 rfl ?_
          refine wp_istore_n (L' := [some (.ref 85), some (.int p1), some (.int (0 : Int32)), some (.int (0 : Int32)), none, none]) dX9_film_52 (by decide) rfl rfl rfl ?_
          have hB := wh_ok (A := A_X9_film_53 g Q) (B := pI Q) (fun s t h hP => k_X9_film_L53  h hP) h hP
          exact wm_mask (L' := [some (.ref 85), some (.int p1), some (.int (0 : Int32)), some (.int (0 : Int32)), none, none]) [true, true, true, true, false, false] rfl (hB)
        · refine wp_bipush (-5 : Int32) dX9_film_42 ib_m5 rfl ?_
          exact wm_iret dX9_film_44 rfl ⟨rfl, rfl⟩ h hP
      · refine wp_bipush (-12 : Int32) dX9_film_32 ib_m12 rfl ?_
        exact wm_iret dX9_film_34 rfl ⟨rfl, rfl⟩ h hP
    · refine wp_bipush (-11 : Int32) dX9_film_18 ib_m11 rfl ?_
      exact wm_iret dX9_film_20 rfl ⟨rfl, rfl⟩ h hP
  · refine wp_iconst (-1 : Int32) dX9_film_7 ic_m1 rfl ?_
    exact wm_iret dX9_film_8 rfl ⟨rfl, rfl⟩ h hP
theorem o_X9_film {g : Gx}  {p1 : Int32} {m : Mem} {t : Int32 × Mem} (h : f_X9_film p1 m = some t) : MxM g 67 mi_X9_film [.ref 85, .int p1] m (qI t) := mx_of pn_X9 (Nat.le_of_ble_eq_true rfl) (k_X9_film_E h ⟨rfl, rfl, rfl, rfl, rfl⟩)
noncomputable def f_X9_first  (p1 : Int32) (p2 : Int32) (m : Mem) : Option (Int32 × Mem) := if (gI m 85 46) < 0 then some ((-2000000000 : Int32), m) else (f_X9_within p1.toInt64 (0 : Int64) ((gI m 85 49) - (1 : Int32)).toInt64 m).bind (fun q1 => if q1.1 = 0 then some ((-2000000000 : Int32), q1.2) else (f_X9_within p2.toInt64 (0 : Int64) (1 : Int64) q1.2).bind (fun q2 => if ¬ q2.1 = 0 then if ¬ p2 = 0 then ck p1 20 (some ((gI q2.2 122 (ix p1)), q2.2)) else ck p1 20 (some ((gI q2.2 121 (ix p1)), q2.2)) else some ((-2000000000 : Int32), q2.2)))
theorem k_X9_first_E {g : Gx}  {p1 : Int32} {p2 : Int32} {Q : Qy} {m : Mem} {t : Int32 × Mem} (h : f_X9_first p1 p2 m = some t) (hP : pI Q t) : WpM g 2 mi_X9_first 0 [some (.ref 85), some (.int p1), some (.int p2)] [] m (zM g mi_X9_first Q) := by
  refine wp_aload_n dX9_first_0 rfl rfl ?_
  refine wm_getI dX9_first_1 s_85 fk_X9_150 rfl rfl ?_
  refine wm_if_lt 33 dX9_first_4 rfl rfl h (fun h => ?_) (fun h => ?_)
  · refine wp_ldc dX9_first_33 q1448 rfl ?_
    exact wm_iret dX9_first_35 rfl ⟨rfl, rfl⟩ h hP
  · refine wp_iload_n dX9_first_7 rfl rfl ?_
    refine wp_i2l dX9_first_8 rfl ?_
    refine wp_lconst (0 : Int64) dX9_first_9 rfl rfl ?_
    refine wp_aload_n dX9_first_10 rfl rfl ?_
    refine wm_getI dX9_first_11 s_85 fk_X9_385 rfl rfl ?_
    refine wp_iconst (1 : Int32) dX9_first_14 ic_1 rfl ?_
    refine wp_isub dX9_first_15 rfl ?_
    refine wp_i2l dX9_first_16 rfl ?_
    refine wm_callSI (As := [.long p1.toInt64, .long (0 : Int64), .long ((gI m 85 49) - (1 : Int32)).toInt64]) (rest := []) dX9_first_17 ok_X9_162 (by decide) rfl (Nat.le_of_ble_eq_true rfl) ⟨rfl, rfl⟩ rfl (fun t h => o_X9_within h) h (fun q1 h => ?_)
    refine wm_if_eq 33 dX9_first_20 rfl rfl h (fun h => ?_) (fun h => ?_)
    · refine wp_ldc dX9_first_33 q1448 rfl ?_
      exact wm_iret dX9_first_35 rfl ⟨rfl, rfl⟩ h hP
    · refine wp_iload_n dX9_first_23 rfl rfl ?_
      refine wp_i2l dX9_first_24 rfl ?_
      refine wp_lconst (0 : Int64) dX9_first_25 rfl rfl ?_
      refine wp_lconst (1 : Int64) dX9_first_26 rfl rfl ?_
      refine wm_callSI (As := [.long p2.toInt64, .long (0 : Int64), .long (1 : Int64)]) (rest := []) dX9_first_27 ok_X9_162 (by decide) rfl (Nat.le_of_ble_eq_true rfl) ⟨rfl, rfl⟩ rfl (fun t h => o_X9_within h) h (fun q2 h => ?_)
      refine wm_if_ne 36 dX9_first_30 rfl rfl h (fun h => ?_) (fun h => ?_)
      · refine wp_iload_n dX9_first_36 rfl rfl ?_
        refine wm_if_ne 49 dX9_first_37 rfl rfl h (fun h => ?_) (fun h => ?_)
        · refine wp_aload_n dX9_first_49 rfl rfl ?_
          refine wm_getR dX9_first_50 s_85 fk_X9_118 rfl r_85_61 rfl ?_
          refine wp_iload_n dX9_first_53 rfl rfl ?_
          refine wm_iald dX9_first_54 s_122 rfl h (fun h => ?_)
          exact wm_iret dX9_first_55 rfl ⟨rfl, rfl⟩ h hP
        · refine wp_aload_n dX9_first_40 rfl rfl ?_
          refine wm_getR dX9_first_41 s_85 fk_X9_115 rfl r_85_60 rfl ?_
          refine wp_iload_n dX9_first_44 rfl rfl ?_
          refine wm_iald dX9_first_45 s_121 rfl h (fun h => ?_)
          refine wp_goto 55 dX9_first_46 rfl ?_
          exact wm_iret dX9_first_55 rfl ⟨rfl, rfl⟩ h hP
      · refine wp_ldc dX9_first_33 q1448 rfl ?_
        exact wm_iret dX9_first_35 rfl ⟨rfl, rfl⟩ h hP
theorem o_X9_first {g : Gx}  {p1 : Int32} {p2 : Int32} {m : Mem} {t : Int32 × Mem} (h : f_X9_first p1 p2 m = some t) : MxM g 2 mi_X9_first [.ref 85, .int p1, .int p2] m (qI t) := mx_of pn_X9 (Nat.le_of_ble_eq_true rfl) (k_X9_first_E h ⟨rfl, rfl, rfl, rfl, rfl⟩)
noncomputable def f_X9_isKnown  (p1 : Int32) (m : Mem) : Option (Int32 × Mem) := ck p1 20 (if ((gI m 93 (ix p1)) &&& (((1 : Int32) <<< ((gI m 85 6) &&& 31)) - (1 : Int32))) = 0 then bz (0 : Int32) (some ((0 : Int32), m)) else bz (1 : Int32) (some ((1 : Int32), m)))
theorem k_X9_isKnown_E {g : Gx}  {p1 : Int32} {Q : Qy} {m : Mem} {t : Int32 × Mem} (h : f_X9_isKnown p1 m = some t) (hP : pI Q t) : WpM g 1 mi_X9_isKnown 0 [some (.ref 85), some (.int p1)] [] m (zM g mi_X9_isKnown Q) := by
  refine wp_aload_n dX9_isKnown_0 rfl rfl ?_
  refine wm_getR dX9_isKnown_1 s_85 fk_X9_31 rfl r_85_12 rfl ?_
  refine wp_iload_n dX9_isKnown_4 rfl rfl ?_
  refine wm_iald dX9_isKnown_5 s_93 rfl h (fun h => ?_)
  refine wp_iconst (1 : Int32) dX9_isKnown_6 ic_1 rfl ?_
  refine wp_aload_n dX9_isKnown_7 rfl rfl ?_
  refine wm_getI dX9_isKnown_8 s_85 fk_X9_159 rfl rfl ?_
  refine wp_ishl dX9_isKnown_11 rfl ?_
  refine wp_iconst (1 : Int32) dX9_isKnown_12 ic_1 rfl ?_
  refine wp_isub dX9_isKnown_13 rfl ?_
  refine wp_iand dX9_isKnown_14 rfl ?_
  refine wm_if_eq 22 dX9_isKnown_15 rfl rfl h (fun h => ?_) (fun h => ?_)
  · refine wp_iconst (0 : Int32) dX9_isKnown_22 ic_0 rfl ?_
    exact wm_zret dX9_isKnown_23 rfl ⟨rfl, rfl⟩ h hP
  · refine wp_iconst (1 : Int32) dX9_isKnown_18 ic_1 rfl ?_
    refine wp_goto 23 dX9_isKnown_19 rfl ?_
    exact wm_zret dX9_isKnown_23 rfl ⟨rfl, rfl⟩ h hP
theorem o_X9_isKnown {g : Gx}  {p1 : Int32} {m : Mem} {t : Int32 × Mem} (h : f_X9_isKnown p1 m = some t) : MxM g 1 mi_X9_isKnown [.ref 85, .int p1] m (qI t) := mx_of pn_X9 (Nat.le_of_ble_eq_true rfl) (k_X9_isKnown_E h ⟨rfl, rfl, rfl, rfl, rfl⟩)
abbrev A_X9_shouldBe_4 (g : Gx)  (Q : Qy) (s : Int32 × Int32 × Mem) : Prop := WpM g 2 mi_X9_shouldBe 4 [some (.ref 85), some (.int s.1), some (.int s.2.1), none, none] [] s.2.2 (zM g mi_X9_shouldBe Q)
abbrev P_X9_shouldBe_4 (g : Gx)  (Q : Qy) : ((Int32 × Int32 × Mem) ⊕ (Int32 × Mem)) → Prop := pS (A_X9_shouldBe_4 g Q) (pI Q)
abbrev A_X9_shouldBe_25 (g : Gx)  (Q : Qy) (s : Int32 × Int32 × Int32 × Int32 × Mem) : Prop := WpM g 2 mi_X9_shouldBe 25 [some (.ref 85), some (.int s.1), some (.int s.2.1), some (.int s.2.2.1), some (.int s.2.2.2.1)] [] s.2.2.2.2 (zM g mi_X9_shouldBe Q)
abbrev P_X9_shouldBe_25 (g : Gx)  (Q : Qy) : ((Int32 × Int32 × Int32 × Int32 × Mem) ⊕ ((Int32 × Int32 × Mem) ⊕ (Int32 × Mem))) → Prop := pS (A_X9_shouldBe_25 g Q) (P_X9_shouldBe_4 g Q)
noncomputable def f_X9_shouldBe_L25  (s : Int32 × Int32 × Int32 × Int32 × Mem) : Option ((Int32 × Int32 × Int32 × Int32 × Mem) ⊕ ((Int32 × Int32 × Mem) ⊕ (Int32 × Mem))) := if (gI s.2.2.2.2 85 9) ≤ s.2.2.2.1 then up (if s.2.2.1 ≤ 0 then bnd (s.1 ||| (0 : Int32)) (fun y2 => bnd (s.2.1 + (1 : Int32)) (fun y3 => some (Sum.inl (y2, y3, s.2.2.2.2)))) else bnd (s.1 ||| ((1 : Int32) <<< (s.2.1 &&& 31))) (fun y4 => bnd (s.2.1 + (1 : Int32)) (fun y5 => some (Sum.inl (y4, y5, s.2.2.2.2))))) else ck s.2.2.2.1 20 (if ¬ (gI s.2.2.2.2 91 (ix s.2.2.2.1)) = s.2.1 then bnd (s.2.2.1 + (0 : Int32)) (fun y6 => bnd (s.2.2.2.1 + (1 : Int32)) (fun y7 => some (Sum.inl (s.1, s.2.1, y6, y7, s.2.2.2.2)))) else (f_X9_isKnown s.2.2.2.1 s.2.2.2.2).bind (fun q8 => if q8.1 = 0 then bnd (s.2.2.1 + (0 : Int32)) (fun y9 => bnd (s.2.2.2.1 + (1 : Int32)) (fun y10 => some (Sum.inl (s.1, s.2.1, y9, y10, q8.2)))) else ck s.2.2.2.1 20 (bnd (s.2.2.1 + (gI q8.2 92 (ix s.2.2.2.1))) (fun y11 => bnd (s.2.2.2.1 + (1 : Int32)) (fun y12 => some (Sum.inl (s.1, s.2.1, y11, y12, q8.2)))))))
theorem k_X9_shouldBe_L25 {g : Gx}  {Q : Qy} {s : Int32 × Int32 × Int32 × Int32 × Mem} {t : (Int32 × Int32 × Int32 × Int32 × Mem) ⊕ ((Int32 × Int32 × Mem) ⊕ (Int32 × Mem))} (h : f_X9_shouldBe_L25 s = some t) (hP : P_X9_shouldBe_25 g Q t) : A_X9_shouldBe_25 g Q s := by
  refine wp_iload dX9_shouldBe_25 rfl rfl ?_
  refine wp_aload_n dX9_shouldBe_27 rfl rfl ?_
  refine wm_getI dX9_shouldBe_28 s_85 fk_X9_169 rfl rfl ?_
  refine wm_icmp_ge 74 dX9_shouldBe_31 rfl rfl h (fun h => ?_) (fun h => ?_)
  · refine wm_up h hP (fun r h hP => ?_)
    refine wp_iload_n dX9_shouldBe_74 rfl rfl ?_
    refine wp_iload_n dX9_shouldBe_75 rfl rfl ?_
    refine wm_if_le 85 dX9_shouldBe_76 rfl rfl h (fun h => ?_) (fun h => ?_)
    · refine wp_iconst (0 : Int32) dX9_shouldBe_85 ic_0 rfl ?_
      refine wp_ior dX9_shouldBe_86 rfl ?_
      refine wm_nm h (fun y2 h => ?_)
      refine wp_istore_n (L' := [some (.ref 85), some (.int y2), some (.int s.2.1), some (.int s.2.2.1), some (.int s.2.2.2.1)]) dX9_shouldBe_87 (by decide) rfl rfl rfl ?_
      refine wm_inc dX9_shouldBe_88 rfl ii_1 (by decide) rfl rfl h (fun y3 h => ?_)
      refine wm_list (L' := [some (.ref 85), some (.int y2), some (.int y3), some (.int s.2.2.1), some (.int s.2.2.2.1)]) rfl ?_
      refine wp_goto 4 dX9_shouldBe_91 rfl ?_
      have hB := wm_back h hP
      exact wm_mask (L' := [some (.ref 85), some (.int y2), some (.int y3), none, none]) [true, true, true, false, false] rfl (hB)
    · refine wp_iconst (1 : Int32) dX9_shouldBe_79 ic_1 rfl ?_
      refine wp_iload_n dX9_shouldBe_80 rfl rfl ?_
      refine wp_ishl dX9_shouldBe_81 rfl ?_
      refine wp_goto 86 dX9_shouldBe_82 rfl ?_
      refine wp_ior dX9_shouldBe_86 rfl ?_
      refine wm_nm h (fun y4 h => ?_)
      refine wp_istore_n (L' := [some (.ref 85), some (.int y4), some (.int s.2.1), some (.int s.2.2.1), some (.int s.2.2.2.1)]) dX9_shouldBe_87 (by decide) rfl rfl rfl ?_
      refine wm_inc dX9_shouldBe_88 rfl ii_1 (by decide) rfl rfl h (fun y5 h => ?_)
      refine wm_list (L' := [some (.ref 85), some (.int y4), some (.int y5), some (.int s.2.2.1), some (.int s.2.2.2.1)]) rfl ?_
      refine wp_goto 4 dX9_shouldBe_91 rfl ?_
      have hB := wm_back h hP
      exact wm_mask (L' := [some (.ref 85), some (.int y4), some (.int y5), none, none]) [true, true, true, false, false] rfl (hB)
  · refine wp_iload_n dX9_shouldBe_34 rfl rfl ?_
    refine wp_aload_n dX9_shouldBe_35 rfl rfl ?_
    refine wm_getR dX9_shouldBe_36 s_85 fk_X9_25 rfl r_85_10 rfl ?_
    refine wp_iload dX9_shouldBe_39 rfl rfl ?_
    refine wm_iald dX9_shouldBe_41 s_91 rfl h (fun h => ?_)
    refine wp_iload_n dX9_shouldBe_42 rfl rfl ?_
    refine wm_icmp_ne 65 dX9_shouldBe_43 rfl rfl h (fun h => ?_) (fun h => ?_)
    · refine wp_iconst (0 : Int32) dX9_shouldBe_65 ic_0 rfl ?_
      refine wp_iadd dX9_shouldBe_66 rfl ?_
      refine wm_nm h (fun y6 h => ?_)
      refine wp_istore_n (L' := [some (.ref 85), some (.int s.1), some (.int s.2.1), some (.int y6), some (.int s.2.2.2.1)]) dX9_shouldBe_67 (by decide) rfl rfl rfl ?_
      refine wm_inc dX9_shouldBe_68 rfl ii_1 (by decide) rfl rfl h (fun y7 h => ?_)
      refine wm_list (L' := [some (.ref 85), some (.int s.1), some (.int s.2.1), some (.int y6), some (.int y7)]) rfl ?_
      refine wp_goto 25 dX9_shouldBe_71 rfl ?_
      have hB := wm_back h hP
      exact wm_mask (L' := [some (.ref 85), some (.int s.1), some (.int s.2.1), some (.int y6), some (.int y7)]) [true, true, true, true, true] rfl (hB)
    · refine wp_aload_n dX9_shouldBe_46 rfl rfl ?_
      refine wp_iload dX9_shouldBe_47 rfl rfl ?_
      refine wm_callVI (As := [.int s.2.2.2.1]) (rest := [.int s.2.2.1]) dX9_shouldBe_49 ok_X9_358 (by decide) rfl s_85 ⟨_, rfl⟩ (Nat.le_of_ble_eq_true rfl) ⟨rfl, rfl⟩ rfl (fun t h => o_X9_isKnown h) h (fun q8 h => ?_)
      refine wm_if_eq 65 dX9_shouldBe_52 rfl rfl h (fun h => ?_) (fun h => ?_)
      · refine wp_iconst (0 : Int32) dX9_shouldBe_65 ic_0 rfl ?_
        refine wp_iadd dX9_shouldBe_66 rfl ?_
        refine wm_nm h (fun y9 h => ?_)
        refine wp_istore_n (L' := [some (.ref 85), some (.int s.1), some (.int s.2.1), some (.int y9), some (.int s.2.2.2.1)]) dX9_shouldBe_67 (by decide) rfl rfl rfl ?_
        refine wm_inc dX9_shouldBe_68 rfl ii_1 (by decide) rfl rfl h (fun y10 h => ?_)
        refine wm_list (L' := [some (.ref 85), some (.int s.1), some (.int s.2.1), some (.int y9), some (.int y10)]) rfl ?_
        refine wp_goto 25 dX9_shouldBe_71 rfl ?_
        have hB := wm_back h hP
        exact wm_mask (L' := [some (.ref 85), some (.int s.1), some (.int s.2.1), some (.int y9), some (.int y10)]) [true, true, true, true, true] rfl (hB)
      · refine wp_aload_n dX9_shouldBe_55 rfl rfl ?_
        refine wm_getR dX9_shouldBe_56 s_85 fk_X9_28 rfl r_85_11 rfl ?_
        refine wp_iload dX9_shouldBe_59 rfl rfl ?_
        refine wm_iald dX9_shouldBe_61 s_92 rfl h (fun h => ?_)
        refine wp_goto 66 dX9_shouldBe_62 rfl ?_
        refine wp_iadd dX9_shouldBe_66 rfl ?_
        refine wm_nm h (fun y11 h => ?_)
        refine wp_istore_n (L' := [some (.ref 85), some (.int s.1), some (.int s.2.1), some (.int y11), some (.int s.2.2.2.1)]) dX9_shouldBe_67 (by decide) rfl rfl rfl ?_
        refine wm_inc dX9_shouldBe_68 rfl ii_1 (by decide) rfl rfl h (fun y12 h => ?_)
        refine wm_list (L' := [some (.ref 85), some (.int s.1), some (.int s.2.1), some (.int y11), some (.int y12)]) rfl ?_
        refine wp_goto 25 dX9_shouldBe_71 rfl ?_
        have hB := wm_back h hP
        exact wm_mask (L' := [some (.ref 85), some (.int s.1), some (.int s.2.1), some (.int y11), some (.int y12)]) [true, true, true, true, true] rfl (hB)
noncomputable def f_X9_shouldBe_L4  (s : Int32 × Int32 × Mem) : Option ((Int32 × Int32 × Mem) ⊕ (Int32 × Mem)) := if (gI s.2.2 85 8) ≤ s.2.1 then up (some (s.1, s.2.2)) else ck ((30 : Int32) + s.2.1) 42 (bnd (gI s.2.2 86 (ix ((30 : Int32) + s.2.1))) (fun y1 => wh (f_X9_shouldBe_L25) (s.1, s.2.1, y1, (0 : Int32), s.2.2)))
theorem k_X9_shouldBe_L4 {g : Gx}  {Q : Qy} {s : Int32 × Int32 × Mem} {t : (Int32 × Int32 × Mem) ⊕ (Int32 × Mem)} (h : f_X9_shouldBe_L4 s = some t) (hP : P_X9_shouldBe_4 g Q t) : A_X9_shouldBe_4 g Q s := by
  refine wp_iload_n dX9_shouldBe_4 rfl rfl ?_
  refine wp_aload_n dX9_shouldBe_5 rfl rfl ?_
  refine wm_getI dX9_shouldBe_6 s_85 fk_X9_166 rfl rfl ?_
  refine wm_icmp_ge 94 dX9_shouldBe_9 rfl rfl h (fun h => ?_) (fun h => ?_)
  · refine wm_up h hP (fun r h hP => ?_)
    refine wp_iload_n dX9_shouldBe_94 rfl rfl ?_
    exact wm_iret dX9_shouldBe_95 rfl ⟨rfl, rfl⟩ h hP
  · refine wp_aload_n dX9_shouldBe_12 rfl rfl ?_
    refine wm_getR dX9_shouldBe_13 s_85 fk_X9_9 rfl r_85_0 rfl ?_
    refine wp_bipush (30 : Int32) dX9_shouldBe_16 ib_30 rfl ?_
    refine wp_iload_n dX9_shouldBe_18 rfl rfl ?_
    refine wp_iadd dX9_shouldBe_19 rfl ?_
    refine wm_iald dX9_shouldBe_20 s_86 rfl h (fun h => ?_)
    refine wm_nm h (fun y1 h => ?_)
    refine wp_istore_n (L' := [some (.ref 85), some (.int s.1), some (.int s.2.1), some (.int y1), none]) dX9_shouldBe_21 (by decide) rfl rfl rfl ?_
    refine wp_iconst (0 : Int32) dX9_shouldBe_22 ic_0 rfl ?_
    refine wp_istore (L' := [some (.ref 85), some (.int s.1), some (.int s.2.1), some (.int y1), some (.int (0 : Int32))]) dX9_shouldBe_23 (by decide) rfl rfl rfl ?_
    have hB := wh_ok (A := A_X9_shouldBe_25 g Q) (B := P_X9_shouldBe_4 g Q) (fun s t h hP => k_X9_shouldBe_L25  h hP) h hP
    exact wm_mask (L' := [some (.ref 85), some (.int s.1), some (.int s.2.1), some (.int y1), some (.int (0 : Int32))]) [true, true, true, true, true] rfl (hB)
noncomputable def f_X9_shouldBe   (m : Mem) : Option (Int32 × Mem) := wh (f_X9_shouldBe_L4) ((0 : Int32), (0 : Int32), m)
theorem k_X9_shouldBe_E {g : Gx}   {Q : Qy} {m : Mem} {t : Int32 × Mem} (h : f_X9_shouldBe m = some t) (hP : pI Q t) : WpM g 2 mi_X9_shouldBe 0 [some (.ref 85), none, none, none, none] [] m (zM g mi_X9_shouldBe Q) := by
  refine wp_iconst (0 : Int32) dX9_shouldBe_0 ic_0 rfl ?_
  refine wp_istore_n (L' := [some (.ref 85), some (.int (0 : Int32)), none, none, none]) dX9_shouldBe_1 (by decide) rfl rfl rfl ?_
  refine wp_iconst (0 : Int32) dX9_shouldBe_2 ic_0 rfl ?_
  refine wp_istore_n (L' := [some (.ref 85), some (.int (0 : Int32)), some (.int (0 : Int32)), none, none]) dX9_shouldBe_3 (by decide) rfl rfl rfl ?_
  have hB := wh_ok (A := A_X9_shouldBe_4 g Q) (B := pI Q) (fun s t h hP => k_X9_shouldBe_L4  h hP) h hP
  exact wm_mask (L' := [some (.ref 85), some (.int (0 : Int32)), some (.int (0 : Int32)), none, none]) [true, true, true, false, false] rfl (hB)
theorem o_X9_shouldBe {g : Gx}   {m : Mem} {t : Int32 × Mem} (h : f_X9_shouldBe m = some t) : MxM g 2 mi_X9_shouldBe [.ref 85] m (qI t) := mx_of pn_X9 (Nat.le_of_ble_eq_true rfl) (k_X9_shouldBe_E h ⟨rfl, rfl, rfl, rfl, rfl⟩)
noncomputable def f_X9_wrongMany   (m : Mem) : Option (Int32 × Mem) := (f_X9_decided m).bind (fun q1 => (f_X9_shouldBe q1.2).bind (fun q2 => (f_X9_bitsOf (q1.1 ^^^ q2.1) q2.2).bind (fun q3 => some (q3.1, q3.2))))
theorem k_X9_wrongMany_E {g : Gx}   {Q : Qy} {m : Mem} {t : Int32 × Mem} (h : f_X9_wrongMany m = some t) (hP : pI Q t) : WpM g 4 mi_X9_wrongMany 0 [some (.ref 85)] [] m (zM g mi_X9_wrongMany Q) := by
  refine wp_aload_n dX9_wrongMany_0 rfl rfl ?_
  refine wm_callVI (As := []) (rest := []) dX9_wrongMany_1 ok_X9_361 (by decide) rfl s_85 ⟨_, rfl⟩ (Nat.le_of_ble_eq_true rfl) ⟨rfl, rfl⟩ rfl (fun t h => o_X9_decided h) h (fun q1 h => ?_)
  refine wp_aload_n dX9_wrongMany_4 rfl rfl ?_
  refine wm_callVI (As := []) (rest := [.int q1.1]) dX9_wrongMany_5 ok_X9_364 (by decide) rfl s_85 ⟨_, rfl⟩ (Nat.le_of_ble_eq_true rfl) ⟨rfl, rfl⟩ rfl (fun t h => o_X9_shouldBe h) h (fun q2 h => ?_)
  refine wp_ixor dX9_wrongMany_8 rfl ?_
  refine wm_callSI (As := [.int (q1.1 ^^^ q2.1)]) (rest := []) dX9_wrongMany_9 ok_X9_367 (by decide) rfl (Nat.le_of_ble_eq_true rfl) ⟨rfl, rfl⟩ rfl (fun t h => o_X9_bitsOf h) h (fun q3 h => ?_)
  exact wm_iret dX9_wrongMany_12 rfl ⟨rfl, rfl⟩ h hP
theorem o_X9_wrongMany {g : Gx}   {m : Mem} {t : Int32 × Mem} (h : f_X9_wrongMany m = some t) : MxM g 4 mi_X9_wrongMany [.ref 85] m (qI t) := mx_of pn_X9 (Nat.le_of_ble_eq_true rfl) (k_X9_wrongMany_E h ⟨rfl, rfl, rfl, rfl, rfl⟩)
noncomputable def f_X9_looksAt_J45  (v1 : Int32) (v2 : Int32) (v3 : Int32) (m : Mem) : Option Mem := bnd (sI m 85 63 v1) (fun m4 => bnd (sI m4 85 64 v2) (fun m5 => bnd (sI m5 85 65 v3) (fun m6 => some m6)))
theorem k_X9_looksAt_J45 {g : Gx}  {v1 : Int32} {v2 : Int32} {v3 : Int32}  {Q : Qy} {m : Mem} {t : Mem} (h : f_X9_looksAt_J45 v1 v2 v3 m = some t) (hP : pV Q t) : WpM g 67 mi_X9_looksAt 45 [some (.ref 85), some (.int v1), some (.int v2), some (.int v3)] [] m (zM g mi_X9_looksAt Q) := by
  refine wp_aload_n dX9_looksAt_45 rfl rfl ?_
  refine wp_iload_n dX9_looksAt_46 rfl rfl ?_
  refine wm_putI dX9_looksAt_47 s_85 fk_X9_424 rfl rfl h (fun m4 h => ?_)
  refine wp_aload_n dX9_looksAt_50 rfl rfl ?_
  refine wp_iload_n dX9_looksAt_51 rfl rfl ?_
  refine wm_putI dX9_looksAt_52 s_85 fk_X9_427 rfl rfl h (fun m5 h => ?_)
  refine wp_aload_n dX9_looksAt_55 rfl rfl ?_
  refine wp_iload_n dX9_looksAt_56 rfl rfl ?_
  refine wm_putI dX9_looksAt_57 s_85 fk_X9_430 rfl rfl h (fun m6 h => ?_)
  exact wm_vret dX9_looksAt_60 rfl ⟨rfl, rfl⟩ h hP
noncomputable def f_X9_looksAt  (p1 : Int32) (m : Mem) : Option Mem := (f_X9_meets m).bind (fun q1 => (f_X9_wrongMany q1).bind (fun q2 => (f_X9_cost q2.2).bind (fun q3 => if (gI q3.2 85 63) < 0 then f_X9_looksAt_J45 p1 q2.1 q3.1 q3.2 else if q2.1 < (gI q3.2 85 64) then f_X9_looksAt_J45 p1 q2.1 q3.1 q3.2 else if ¬ q2.1 = (gI q3.2 85 64) then some q3.2 else if (gI q3.2 85 65) ≤ q3.1 then some q3.2 else f_X9_looksAt_J45 p1 q2.1 q3.1 q3.2)))
theorem k_X9_looksAt_E {g : Gx}  {p1 : Int32} {Q : Qy} {m : Mem} {t : Mem} (h : f_X9_looksAt p1 m = some t) (hP : pV Q t) : WpM g 67 mi_X9_looksAt 0 [some (.ref 85), some (.int p1), none, none] [] m (zM g mi_X9_looksAt Q) := by
  refine wp_aload_n dX9_looksAt_0 rfl rfl ?_
  refine wm_callVN (As := []) (rest := []) dX9_looksAt_1 ok_X9_398 (by decide) rfl s_85 ⟨_, rfl⟩ (Nat.le_of_ble_eq_true rfl) ⟨rfl, rfl⟩ rfl (fun t h => o_X9_meets h) h (fun q1 h => ?_)
  refine wp_aload_n dX9_looksAt_4 rfl rfl ?_
  refine wm_callVI (As := []) (rest := []) dX9_looksAt_5 ok_X9_421 (by decide) rfl s_85 ⟨_, rfl⟩ (Nat.le_of_ble_eq_true rfl) ⟨rfl, rfl⟩ rfl (fun t h => o_X9_wrongMany h) h (fun q2 h => ?_)
  refine wp_istore_n (L' := [some (.ref 85), some (.int p1), some (.int q2.1), none]) dX9_looksAt_8 (by decide) rfl rfl rfl ?_
  refine wp_aload_n dX9_looksAt_9 rfl rfl ?_
  refine wm_callVI (As := []) (rest := []) dX9_looksAt_10 ok_X9_411 (by decide) rfl s_85 ⟨_, rfl⟩ (Nat.le_of_ble_eq_true rfl) ⟨rfl, rfl⟩ rfl (fun t h => o_X9_cost h) h (fun q3 h => ?_)
  refine wp_istore_n (L' := [some (.ref 85), some (.int p1), some (.int q2.1), some (.int q3.1)]) dX9_looksAt_13 (by decide) rfl rfl rfl ?_
  refine wp_aload_n dX9_looksAt_14 rfl rfl ?_
  refine wm_getI dX9_looksAt_15 s_85 fk_X9_424 rfl rfl ?_
  refine wm_if_lt 45 dX9_looksAt_18 rfl rfl h (fun h => ?_) (fun h => ?_)
  · exact wm_mask (L' := [some (.ref 85), some (.int p1), some (.int q2.1), some (.int q3.1)]) [true, true, true, true] rfl (k_X9_looksAt_J45  h hP)
  · refine wp_iload_n dX9_looksAt_21 rfl rfl ?_
    refine wp_aload_n dX9_looksAt_22 rfl rfl ?_
    refine wm_getI dX9_looksAt_23 s_85 fk_X9_427 rfl rfl ?_
    refine wm_icmp_lt 45 dX9_looksAt_26 rfl rfl h (fun h => ?_) (fun h => ?_)
    · exact wm_mask (L' := [some (.ref 85), some (.int p1), some (.int q2.1), some (.int q3.1)]) [true, true, true, true] rfl (k_X9_looksAt_J45  h hP)
    · refine wp_iload_n dX9_looksAt_29 rfl rfl ?_
      refine wp_aload_n dX9_looksAt_30 rfl rfl ?_
      refine wm_getI dX9_looksAt_31 s_85 fk_X9_427 rfl rfl ?_
      refine wm_icmp_ne 60 dX9_looksAt_34 rfl rfl h (fun h => ?_) (fun h => ?_)
      · exact wm_vret dX9_looksAt_60 rfl ⟨rfl, rfl⟩ h hP
      · refine wp_iload_n dX9_looksAt_37 rfl rfl ?_
        refine wp_aload_n dX9_looksAt_38 rfl rfl ?_
        refine wm_getI dX9_looksAt_39 s_85 fk_X9_430 rfl rfl ?_
        refine wm_icmp_ge 60 dX9_looksAt_42 rfl rfl h (fun h => ?_) (fun h => ?_)
        · exact wm_vret dX9_looksAt_60 rfl ⟨rfl, rfl⟩ h hP
        · exact wm_mask (L' := [some (.ref 85), some (.int p1), some (.int q2.1), some (.int q3.1)]) [true, true, true, true] rfl (k_X9_looksAt_J45  h hP)
theorem o_X9_looksAt {g : Gx}  {p1 : Int32} {m : Mem} {t : Mem} (h : f_X9_looksAt p1 m = some t) : MxM g 67 mi_X9_looksAt [.ref 85, .int p1] m (qV t) := mx_of pn_X9 (Nat.le_of_ble_eq_true rfl) (k_X9_looksAt_E h ⟨rfl, rfl, rfl, rfl, rfl⟩)
abbrev A_X9_goesOrders_17 (g : Gx) (d0 : Nat) (Q : Qy) (s : Int32 × Int32 × Int32 × Int32 × Mem) : Prop := WpM g (d0 + 68) mi_X9_goesOrders 17 [some (.ref 85), some (.int s.1), some (.int s.2.1), some (.int s.2.2.1), some (.int s.2.2.2.1)] [] s.2.2.2.2 (zM g mi_X9_goesOrders Q)
abbrev P_X9_goesOrders_17 (g : Gx) (d0 : Nat) (Q : Qy) : ((Int32 × Int32 × Int32 × Int32 × Mem) ⊕ Mem) → Prop := pS (A_X9_goesOrders_17 g d0 Q) (pV Q)
noncomputable def f_X9_goesOrders_L17 (rc : Int32 → Int32 → Int32 → Mem → Option Mem) (s : Int32 × Int32 × Int32 × Int32 × Mem) : Option ((Int32 × Int32 × Int32 × Int32 × Mem) ⊕ Mem) := if (gI s.2.2.2.2 85 8) ≤ s.2.2.2.1 then up (some s.2.2.2.2) else if ¬ ((s.2.1 >>> (s.2.2.2.1 &&& 31)) &&& (1 : Int32)) = 0 then bnd (s.2.2.2.1 + (1 : Int32)) (fun y1 => some (Sum.inl (s.1, s.2.1, s.2.2.1, y1, s.2.2.2.2))) else ck s.1 6 (bnd (sI s.2.2.2.2 103 (ix s.1) s.2.2.2.1) (fun m2 => (rc (s.1 + (1 : Int32)) (s.2.1 ||| ((1 : Int32) <<< (s.2.2.2.1 &&& 31))) ((((10 : Int32) * s.2.2.1) + s.2.2.2.1) + (1 : Int32)) m2).bind (fun q3 => bnd (s.2.2.2.1 + (1 : Int32)) (fun y4 => some (Sum.inl (s.1, s.2.1, s.2.2.1, y4, q3))))))
theorem k_X9_goesOrders_L17 {g : Gx} {d0 : Nat} {rc : Int32 → Int32 → Int32 → Mem → Option Mem} (hrc : ∀ p1 p2 p3 m t, rc p1 p2 p3 m = some t → MxM g d0 mi_X9_goesOrders [.ref 85, .int p1, .int p2, .int p3] m (qV t)) {Q : Qy} {s : Int32 × Int32 × Int32 × Int32 × Mem} {t : (Int32 × Int32 × Int32 × Int32 × Mem) ⊕ Mem} (h : f_X9_goesOrders_L17 rc s = some t) (hP : P_X9_goesOrders_17 g d0 Q t) : A_X9_goesOrders_17 g d0 Q s := by
  refine wp_iload dX9_goesOrders_17 rfl rfl ?_
  refine wp_aload_n dX9_goesOrders_19 rfl rfl ?_
  refine wm_getI dX9_goesOrders_20 s_85 fk_X9_166 rfl rfl ?_
  refine wm_icmp_ge 71 dX9_goesOrders_23 rfl rfl h (fun h => ?_) (fun h => ?_)
  · refine wm_up h hP (fun r h hP => ?_)
    exact wm_vret dX9_goesOrders_71 rfl ⟨rfl, rfl⟩ h hP
  · refine wp_iload_n dX9_goesOrders_26 rfl rfl ?_
    refine wp_iload dX9_goesOrders_27 rfl rfl ?_
    refine wp_ishr dX9_goesOrders_29 rfl ?_
    refine wp_iconst (1 : Int32) dX9_goesOrders_30 ic_1 rfl ?_
    refine wp_iand dX9_goesOrders_31 rfl ?_
    refine wm_if_ne 65 dX9_goesOrders_32 rfl rfl h (fun h => ?_) (fun h => ?_)
    · refine wm_inc dX9_goesOrders_65 rfl ii_1 (by decide) rfl rfl h (fun y1 h => ?_)
      refine wm_list (L' := [some (.ref 85), some (.int s.1), some (.int s.2.1), some (.int s.2.2.1), some (.int y1)]) rfl ?_
      refine wp_goto 17 dX9_goesOrders_68 rfl ?_
      have hB := wm_back h hP
      exact wm_mask (L' := [some (.ref 85), some (.int s.1), some (.int s.2.1), some (.int s.2.2.1), some (.int y1)]) [true, true, true, true, true] rfl (hB)
    · refine wp_aload_n dX9_goesOrders_35 rfl rfl ?_
      refine wm_getR dX9_goesOrders_36 s_85 fk_X9_61 rfl r_85_38 rfl ?_
      refine wp_iload_n dX9_goesOrders_39 rfl rfl ?_
      refine wp_iload dX9_goesOrders_40 rfl rfl ?_
      refine wm_iast dX9_goesOrders_42 s_103 rfl h (fun m2 h => ?_)
      refine wp_aload_n dX9_goesOrders_43 rfl rfl ?_
      refine wp_iload_n dX9_goesOrders_44 rfl rfl ?_
      refine wp_iconst (1 : Int32) dX9_goesOrders_45 ic_1 rfl ?_
      refine wp_iadd dX9_goesOrders_46 rfl ?_
      refine wp_iload_n dX9_goesOrders_47 rfl rfl ?_
      refine wp_iconst (1 : Int32) dX9_goesOrders_48 ic_1 rfl ?_
      refine wp_iload dX9_goesOrders_49 rfl rfl ?_
      refine wp_ishl dX9_goesOrders_51 rfl ?_
      refine wp_ior dX9_goesOrders_52 rfl ?_
      refine wp_bipush (10 : Int32) dX9_goesOrders_53 ib_10 rfl ?_
      refine wp_iload_n dX9_goesOrders_55 rfl rfl ?_
      refine wp_imul dX9_goesOrders_56 rfl ?_
      refine wp_iload dX9_goesOrders_57 rfl rfl ?_
      refine wp_iadd dX9_goesOrders_59 rfl ?_
      refine wp_iconst (1 : Int32) dX9_goesOrders_60 ic_1 rfl ?_
      refine wp_iadd dX9_goesOrders_61 rfl ?_
      refine wm_callVN (As := [.int (s.1 + (1 : Int32)), .int (s.2.1 ||| ((1 : Int32) <<< (s.2.2.2.1 &&& 31))), .int ((((10 : Int32) * s.2.2.1) + s.2.2.2.1) + (1 : Int32))]) (rest := []) dX9_goesOrders_62 ok_X9_441 (by omega) rfl s_85 ⟨_, rfl⟩ (Nat.le_of_ble_eq_true rfl) ⟨rfl, rfl⟩ rfl (hrc _ _ _ _) h (fun q3 h => ?_)
      refine wm_inc dX9_goesOrders_65 rfl ii_1 (by decide) rfl rfl h (fun y4 h => ?_)
      refine wm_list (L' := [some (.ref 85), some (.int s.1), some (.int s.2.1), some (.int s.2.2.1), some (.int y4)]) rfl ?_
      refine wp_goto 17 dX9_goesOrders_68 rfl ?_
      have hB := wm_back h hP
      exact wm_mask (L' := [some (.ref 85), some (.int s.1), some (.int s.2.1), some (.int s.2.2.1), some (.int y4)]) [true, true, true, true, true] rfl (hB)
noncomputable def f_X9_goesOrders_B (rc : Int32 → Int32 → Int32 → Mem → Option Mem) (p1 : Int32) (p2 : Int32) (p3 : Int32) (m : Mem) : Option Mem := if ¬ p1 = (gI m 85 8) then wh (f_X9_goesOrders_L17 rc) (p1, p2, p3, (0 : Int32), m) else (f_X9_looksAt p3 m).bind (fun q5 => some q5)
theorem k_X9_goesOrders_E {g : Gx} {d0 : Nat} {rc : Int32 → Int32 → Int32 → Mem → Option Mem} (hrc : ∀ p1 p2 p3 m t, rc p1 p2 p3 m = some t → MxM g d0 mi_X9_goesOrders [.ref 85, .int p1, .int p2, .int p3] m (qV t)) {p1 : Int32} {p2 : Int32} {p3 : Int32} {Q : Qy} {m : Mem} {t : Mem} (h : f_X9_goesOrders_B rc p1 p2 p3 m = some t) (hP : pV Q t) : WpM g (d0 + 68) mi_X9_goesOrders 0 [some (.ref 85), some (.int p1), some (.int p2), some (.int p3), none] [] m (zM g mi_X9_goesOrders Q) := by
  refine wp_iload_n dX9_goesOrders_0 rfl rfl ?_
  refine wp_aload_n dX9_goesOrders_1 rfl rfl ?_
  refine wm_getI dX9_goesOrders_2 s_85 fk_X9_166 rfl rfl ?_
  refine wm_icmp_ne 14 dX9_goesOrders_5 rfl rfl h (fun h => ?_) (fun h => ?_)
  · refine wp_iconst (0 : Int32) dX9_goesOrders_14 ic_0 rfl ?_
    refine wp_istore (L' := [some (.ref 85), some (.int p1), some (.int p2), some (.int p3), some (.int (0 : Int32))]) dX9_goesOrders_15 (by decide) rfl rfl rfl ?_
    have hB := wh_ok (A := A_X9_goesOrders_17 g d0 Q) (B := pV Q) (fun s t h hP => k_X9_goesOrders_L17 hrc h hP) h hP
    exact wm_mask (L' := [some (.ref 85), some (.int p1), some (.int p2), some (.int p3), some (.int (0 : Int32))]) [true, true, true, true, true] rfl (hB)
  · refine wp_aload_n dX9_goesOrders_8 rfl rfl ?_
    refine wp_iload_n dX9_goesOrders_9 rfl rfl ?_
    refine wm_callVN (As := [.int p3]) (rest := []) dX9_goesOrders_10 ok_X9_435 (by omega) rfl s_85 ⟨_, rfl⟩ (Nat.le_of_ble_eq_true rfl) ⟨rfl, rfl⟩ rfl (fun t h => o_X9_looksAt h) h (fun q5 h => ?_)
    exact wm_vret dX9_goesOrders_13 rfl ⟨rfl, rfl⟩ h hP
theorem o_X9_goesOrders_B {g : Gx} {d0 : Nat} {rc : Int32 → Int32 → Int32 → Mem → Option Mem} (hrc : ∀ p1 p2 p3 m t, rc p1 p2 p3 m = some t → MxM g d0 mi_X9_goesOrders [.ref 85, .int p1, .int p2, .int p3] m (qV t)) {p1 : Int32} {p2 : Int32} {p3 : Int32} {m : Mem} {t : Mem} (h : f_X9_goesOrders_B rc p1 p2 p3 m = some t) : MxM g (d0 + 68) mi_X9_goesOrders [.ref 85, .int p1, .int p2, .int p3] m (qV t) := mx_of pn_X9 (Nat.le_of_ble_eq_true rfl) (k_X9_goesOrders_E hrc h ⟨rfl, rfl, rfl, rfl, rfl⟩)
noncomputable def f_X9_goesOrders : Nat → Int32 → Int32 → Int32 → Mem → Option Mem
  | 0, _, _, _, _ => none
  | n + 1, p1, p2, p3, m => f_X9_goesOrders_B (f_X9_goesOrders n) p1 p2 p3 m
theorem o_X9_goesOrders {g : Gx} (n : Nat) : ∀ {p1 : Int32} {p2 : Int32} {p3 : Int32} {m : Mem} {t : Mem}, f_X9_goesOrders n p1 p2 p3 m = some t → MxM g (68 * n) mi_X9_goesOrders [.ref 85, .int p1, .int p2, .int p3] m (qV t) := by
  induction n with
  | zero => intro _ _ _ _ _ h; cases h
  | succ n ih => intro p1 p2 p3 m t h; exact o_X9_goesOrders_B (d0 := 68 * n) (fun _ _ _ _ _ h => ih h) h
abbrev A_X9_heldBack_4 (g : Gx)  (Q : Qy) (s : Int32 × Int32 × Mem) : Prop := WpM g 2 mi_X9_heldBack 4 [some (.ref 85), some (.int s.1), some (.int s.2.1), none] [] s.2.2 (zM g mi_X9_heldBack Q)
abbrev P_X9_heldBack_4 (g : Gx)  (Q : Qy) : ((Int32 × Int32 × Mem) ⊕ (Int32 × Mem)) → Prop := pS (A_X9_heldBack_4 g Q) (pI Q)
abbrev A_X9_heldBack_14 (g : Gx)  (Q : Qy) (s : Int32 × Int32 × Int32 × Mem) : Prop := WpM g 2 mi_X9_heldBack 14 [some (.ref 85), some (.int s.1), some (.int s.2.1), some (.int s.2.2.1)] [] s.2.2.2 (zM g mi_X9_heldBack Q)
abbrev P_X9_heldBack_14 (g : Gx)  (Q : Qy) : ((Int32 × Int32 × Int32 × Mem) ⊕ ((Int32 × Int32 × Mem) ⊕ (Int32 × Mem))) → Prop := pS (A_X9_heldBack_14 g Q) (P_X9_heldBack_4 g Q)
noncomputable def f_X9_heldBack_L14  (s : Int32 × Int32 × Int32 × Mem) : Option ((Int32 × Int32 × Int32 × Mem) ⊕ ((Int32 × Int32 × Mem) ⊕ (Int32 × Mem))) := if (gI s.2.2.2 85 6) ≤ s.2.2.1 then up (bnd (s.2.1 + (1 : Int32)) (fun y1 => some (Sum.inl (s.1, y1, s.2.2.2)))) else (f_X9_isSaid s.2.1 s.2.2.2).bind (fun q2 => if ¬ q2.1 = 0 then bnd (s.1 ||| (0 : Int32)) (fun y3 => bnd (s.2.2.1 + (1 : Int32)) (fun y4 => some (Sum.inl (y3, s.2.1, y4, q2.2)))) else (f_X9_knows s.2.2.1 s.2.1 q2.2).bind (fun q5 => if q5.1 = 0 then bnd (s.1 ||| (0 : Int32)) (fun y6 => bnd (s.2.2.1 + (1 : Int32)) (fun y7 => some (Sum.inl (y6, s.2.1, y7, q5.2)))) else (f_X9_isThere s.2.2.1 q5.2).bind (fun q8 => if q8.1 = 0 then bnd (s.1 ||| (0 : Int32)) (fun y9 => bnd (s.2.2.1 + (1 : Int32)) (fun y10 => some (Sum.inl (y9, s.2.1, y10, q8.2)))) else bnd (s.1 ||| ((1 : Int32) <<< (s.2.1 &&& 31))) (fun y11 => bnd (s.2.2.1 + (1 : Int32)) (fun y12 => some (Sum.inl (y11, s.2.1, y12, q8.2)))))))
theorem k_X9_heldBack_L14 {g : Gx}  {Q : Qy} {s : Int32 × Int32 × Int32 × Mem} {t : (Int32 × Int32 × Int32 × Mem) ⊕ ((Int32 × Int32 × Mem) ⊕ (Int32 × Mem))} (h : f_X9_heldBack_L14 s = some t) (hP : P_X9_heldBack_14 g Q t) : A_X9_heldBack_14 g Q s := by
  refine wp_iload_n dX9_heldBack_14 rfl rfl ?_
  refine wp_aload_n dX9_heldBack_15 rfl rfl ?_
  refine wm_getI dX9_heldBack_16 s_85 fk_X9_159 rfl rfl ?_
  refine wm_icmp_ge 63 dX9_heldBack_19 rfl rfl h (fun h => ?_) (fun h => ?_)
  · refine wm_up h hP (fun r h hP => ?_)
    refine wm_inc dX9_heldBack_63 rfl ii_1 (by decide) rfl rfl h (fun y1 h => ?_)
    refine wm_list (L' := [some (.ref 85), some (.int s.1), some (.int y1), some (.int s.2.2.1)]) rfl ?_
    refine wp_goto 4 dX9_heldBack_66 rfl ?_
    have hB := wm_back h hP
    exact wm_mask (L' := [some (.ref 85), some (.int s.1), some (.int y1), none]) [true, true, true, false] rfl (hB)
  · refine wp_iload_n dX9_heldBack_22 rfl rfl ?_
    refine wp_aload_n dX9_heldBack_23 rfl rfl ?_
    refine wp_iload_n dX9_heldBack_24 rfl rfl ?_
    refine wm_callVI (As := [.int s.2.1]) (rest := [.int s.1]) dX9_heldBack_25 ok_X9_296 (by decide) rfl s_85 ⟨_, rfl⟩ (Nat.le_of_ble_eq_true rfl) ⟨rfl, rfl⟩ rfl (fun t h => o_X9_isSaid h) h (fun q2 h => ?_)
    refine wm_if_ne 54 dX9_heldBack_28 rfl rfl h (fun h => ?_) (fun h => ?_)
    · refine wp_iconst (0 : Int32) dX9_heldBack_54 ic_0 rfl ?_
      refine wp_ior dX9_heldBack_55 rfl ?_
      refine wm_nm h (fun y3 h => ?_)
      refine wp_istore_n (L' := [some (.ref 85), some (.int y3), some (.int s.2.1), some (.int s.2.2.1)]) dX9_heldBack_56 (by decide) rfl rfl rfl ?_
      refine wm_inc dX9_heldBack_57 rfl ii_1 (by decide) rfl rfl h (fun y4 h => ?_)
      refine wm_list (L' := [some (.ref 85), some (.int y3), some (.int s.2.1), some (.int y4)]) rfl ?_
      refine wp_goto 14 dX9_heldBack_60 rfl ?_
      have hB := wm_back h hP
      exact wm_mask (L' := [some (.ref 85), some (.int y3), some (.int s.2.1), some (.int y4)]) [true, true, true, true] rfl (hB)
    · refine wp_aload_n dX9_heldBack_31 rfl rfl ?_
      refine wp_iload_n dX9_heldBack_32 rfl rfl ?_
      refine wp_iload_n dX9_heldBack_33 rfl rfl ?_
      refine wm_callVI (As := [.int s.2.2.1, .int s.2.1]) (rest := [.int s.1]) dX9_heldBack_34 ok_X9_292 (by decide) rfl s_85 ⟨_, rfl⟩ (Nat.le_of_ble_eq_true rfl) ⟨rfl, rfl⟩ rfl (fun t h => o_X9_knows h) h (fun q5 h => ?_)
      refine wm_if_eq 54 dX9_heldBack_37 rfl rfl h (fun h => ?_) (fun h => ?_)
      · refine wp_iconst (0 : Int32) dX9_heldBack_54 ic_0 rfl ?_
        refine wp_ior dX9_heldBack_55 rfl ?_
        refine wm_nm h (fun y6 h => ?_)
        refine wp_istore_n (L' := [some (.ref 85), some (.int y6), some (.int s.2.1), some (.int s.2.2.1)]) dX9_heldBack_56 (by decide) rfl rfl rfl ?_
        refine wm_inc dX9_heldBack_57 rfl ii_1 (by decide) rfl rfl h (fun y7 h => ?_)
        refine wm_list (L' := [some (.ref 85), some (.int y6), some (.int s.2.1), some (.int y7)]) rfl ?_
        refine wp_goto 14 dX9_heldBack_60 rfl ?_
        have hB := wm_back h hP
        exact wm_mask (L' := [some (.ref 85), some (.int y6), some (.int s.2.1), some (.int y7)]) [true, true, true, true] rfl (hB)
      · refine wp_aload_n dX9_heldBack_40 rfl rfl ?_
        refine wp_iload_n dX9_heldBack_41 rfl rfl ?_
        refine wm_callVI (As := [.int s.2.2.1]) (rest := [.int s.1]) dX9_heldBack_42 ok_X9_299 (by decide) rfl s_85 ⟨_, rfl⟩ (Nat.le_of_ble_eq_true rfl) ⟨rfl, rfl⟩ rfl (fun t h => o_X9_isThere h) h (fun q8 h => ?_)
        refine wm_if_eq 54 dX9_heldBack_45 rfl rfl h (fun h => ?_) (fun h => ?_)
        · refine wp_iconst (0 : Int32) dX9_heldBack_54 ic_0 rfl ?_
          refine wp_ior dX9_heldBack_55 rfl ?_
          refine wm_nm h (fun y9 h => ?_)
          refine wp_istore_n (L' := [some (.ref 85), some (.int y9), some (.int s.2.1), some (.int s.2.2.1)]) dX9_heldBack_56 (by decide) rfl rfl rfl ?_
          refine wm_inc dX9_heldBack_57 rfl ii_1 (by decide) rfl rfl h (fun y10 h => ?_)
          refine wm_list (L' := [some (.ref 85), some (.int y9), some (.int s.2.1), some (.int y10)]) rfl ?_
          refine wp_goto 14 dX9_heldBack_60 rfl ?_
          have hB := wm_back h hP
          exact wm_mask (L' := [some (.ref 85), some (.int y9), some (.int s.2.1), some (.int y10)]) [true, true, true, true] rfl (hB)
        · refine wp_iconst (1 : Int32) dX9_heldBack_48 ic_1 rfl ?_
          refine wp_iload_n dX9_heldBack_49 rfl rfl ?_
          refine wp_ishl dX9_heldBack_50 rfl ?_
          refine wp_goto 55 dX9_heldBack_51 rfl ?_
          refine wp_ior dX9_heldBack_55 rfl ?_
          refine wm_nm h (fun y11 h => ?_)
          refine wp_istore_n (L' := [some (.ref 85), some (.int y11), some (.int s.2.1), some (.int s.2.2.1)]) dX9_heldBack_56 (by decide) rfl rfl rfl ?_
          refine wm_inc dX9_heldBack_57 rfl ii_1 (by decide) rfl rfl h (fun y12 h => ?_)
          refine wm_list (L' := [some (.ref 85), some (.int y11), some (.int s.2.1), some (.int y12)]) rfl ?_
          refine wp_goto 14 dX9_heldBack_60 rfl ?_
          have hB := wm_back h hP
          exact wm_mask (L' := [some (.ref 85), some (.int y11), some (.int s.2.1), some (.int y12)]) [true, true, true, true] rfl (hB)
noncomputable def f_X9_heldBack_L4  (s : Int32 × Int32 × Mem) : Option ((Int32 × Int32 × Mem) ⊕ (Int32 × Mem)) := if (gI s.2.2 85 9) ≤ s.2.1 then up (some (s.1, s.2.2)) else wh (f_X9_heldBack_L14) (s.1, s.2.1, (0 : Int32), s.2.2)
theorem k_X9_heldBack_L4 {g : Gx}  {Q : Qy} {s : Int32 × Int32 × Mem} {t : (Int32 × Int32 × Mem) ⊕ (Int32 × Mem)} (h : f_X9_heldBack_L4 s = some t) (hP : P_X9_heldBack_4 g Q t) : A_X9_heldBack_4 g Q s := by
  refine wp_iload_n dX9_heldBack_4 rfl rfl ?_
  refine wp_aload_n dX9_heldBack_5 rfl rfl ?_
  refine wm_getI dX9_heldBack_6 s_85 fk_X9_169 rfl rfl ?_
  refine wm_icmp_ge 69 dX9_heldBack_9 rfl rfl h (fun h => ?_) (fun h => ?_)
  · refine wm_up h hP (fun r h hP => ?_)
    refine wp_iload_n dX9_heldBack_69 rfl rfl ?_
    exact wm_iret dX9_heldBack_70 rfl ⟨rfl, rfl⟩ h hP
  · refine wp_iconst (0 : Int32) dX9_heldBack_12 ic_0 rfl ?_
    refine wp_istore_n (L' := [some (.ref 85), some (.int s.1), some (.int s.2.1), some (.int (0 : Int32))]) dX9_heldBack_13 (by decide) rfl rfl rfl ?_
    have hB := wh_ok (A := A_X9_heldBack_14 g Q) (B := P_X9_heldBack_4 g Q) (fun s t h hP => k_X9_heldBack_L14  h hP) h hP
    exact wm_mask (L' := [some (.ref 85), some (.int s.1), some (.int s.2.1), some (.int (0 : Int32))]) [true, true, true, true] rfl (hB)
noncomputable def f_X9_heldBack   (m : Mem) : Option (Int32 × Mem) := wh (f_X9_heldBack_L4) ((0 : Int32), (0 : Int32), m)
theorem k_X9_heldBack_E {g : Gx}   {Q : Qy} {m : Mem} {t : Int32 × Mem} (h : f_X9_heldBack m = some t) (hP : pI Q t) : WpM g 2 mi_X9_heldBack 0 [some (.ref 85), none, none, none] [] m (zM g mi_X9_heldBack Q) := by
  refine wp_iconst (0 : Int32) dX9_heldBack_0 ic_0 rfl ?_
  refine wp_istore_n (L' := [some (.ref 85), some (.int (0 : Int32)), none, none]) dX9_heldBack_1 (by decide) rfl rfl rfl ?_
  refine wp_iconst (0 : Int32) dX9_heldBack_2 ic_0 rfl ?_
  refine wp_istore_n (L' := [some (.ref 85), some (.int (0 : Int32)), some (.int (0 : Int32)), none]) dX9_heldBack_3 (by decide) rfl rfl rfl ?_
  have hB := wh_ok (A := A_X9_heldBack_4 g Q) (B := pI Q) (fun s t h hP => k_X9_heldBack_L4  h hP) h hP
  exact wm_mask (L' := [some (.ref 85), some (.int (0 : Int32)), some (.int (0 : Int32)), none]) [true, true, true, false] rfl (hB)
theorem o_X9_heldBack {g : Gx}   {m : Mem} {t : Int32 × Mem} (h : f_X9_heldBack m = some t) : MxM g 2 mi_X9_heldBack [.ref 85] m (qI t) := mx_of pn_X9 (Nat.le_of_ble_eq_true rfl) (k_X9_heldBack_E h ⟨rfl, rfl, rfl, rfl, rfl⟩)
noncomputable def f_X9_isCard  (p1 : Int32) (m : Mem) : Option (Int32 × Mem) := (f_X9_within p1.toInt64 (0 : Int64) ((gI m 85 9) - (1 : Int32)).toInt64 m).bind (fun q1 => bz q1.1 (some (q1.1, q1.2)))
theorem k_X9_isCard_E {g : Gx}  {p1 : Int32} {Q : Qy} {m : Mem} {t : Int32 × Mem} (h : f_X9_isCard p1 m = some t) (hP : pI Q t) : WpM g 2 mi_X9_isCard 0 [some (.ref 85), some (.int p1)] [] m (zM g mi_X9_isCard Q) := by
  refine wp_iload_n dX9_isCard_0 rfl rfl ?_
  refine wp_i2l dX9_isCard_1 rfl ?_
  refine wp_lconst (0 : Int64) dX9_isCard_2 rfl rfl ?_
  refine wp_aload_n dX9_isCard_3 rfl rfl ?_
  refine wm_getI dX9_isCard_4 s_85 fk_X9_169 rfl rfl ?_
  refine wp_iconst (1 : Int32) dX9_isCard_7 ic_1 rfl ?_
  refine wp_isub dX9_isCard_8 rfl ?_
  refine wp_i2l dX9_isCard_9 rfl ?_
  refine wm_callSI (As := [.long p1.toInt64, .long (0 : Int64), .long ((gI m 85 9) - (1 : Int32)).toInt64]) (rest := []) dX9_isCard_10 ok_X9_162 (by decide) rfl (Nat.le_of_ble_eq_true rfl) ⟨rfl, rfl⟩ rfl (fun t h => o_X9_within h) h (fun q1 h => ?_)
  exact wm_zret dX9_isCard_13 rfl ⟨rfl, rfl⟩ h hP
theorem o_X9_isCard {g : Gx}  {p1 : Int32} {m : Mem} {t : Int32 × Mem} (h : f_X9_isCard p1 m = some t) : MxM g 2 mi_X9_isCard [.ref 85, .int p1] m (qI t) := mx_of pn_X9 (Nat.le_of_ble_eq_true rfl) (k_X9_isCard_E h ⟨rfl, rfl, rfl, rfl, rfl⟩)
noncomputable def f_X9_isDigit1  (p1 : Int32) (m : Mem) : Option (Int32 × Mem) := (f_X9_within p1.toInt64 (0 : Int64) (9 : Int64) m).bind (fun q1 => bz q1.1 (some (q1.1, q1.2)))
theorem k_X9_isDigit1_E {g : Gx}  {p1 : Int32} {Q : Qy} {m : Mem} {t : Int32 × Mem} (h : f_X9_isDigit1 p1 m = some t) (hP : pI Q t) : WpM g 2 mi_X9_isDigit1 0 [some (.int p1)] [] m (zM g mi_X9_isDigit1 Q) := by
  refine wp_iload_n dX9_isDigit1_0 rfl rfl ?_
  refine wp_i2l dX9_isDigit1_1 rfl ?_
  refine wp_lconst (0 : Int64) dX9_isDigit1_2 rfl rfl ?_
  refine wp_ldc2 dX9_isDigit1_3 q1408 rfl ?_
  refine wm_callSI (As := [.long p1.toInt64, .long (0 : Int64), .long (9 : Int64)]) (rest := []) dX9_isDigit1_6 ok_X9_162 (by decide) rfl (Nat.le_of_ble_eq_true rfl) ⟨rfl, rfl⟩ rfl (fun t h => o_X9_within h) h (fun q1 h => ?_)
  exact wm_zret dX9_isDigit1_9 rfl ⟨rfl, rfl⟩ h hP
theorem o_X9_isDigit1 {g : Gx}  {p1 : Int32} {m : Mem} {t : Int32 × Mem} (h : f_X9_isDigit1 p1 m = some t) : MxM g 2 mi_X9_isDigit1 [.int p1] m (qI t) := mx_of pn_X9 (Nat.le_of_ble_eq_true rfl) (k_X9_isDigit1_E h ⟨rfl, rfl, rfl, rfl, rfl⟩)
noncomputable def f_X9_isThing  (p1 : Int32) (m : Mem) : Option (Int32 × Mem) := (f_X9_within p1.toInt64 (0 : Int64) ((gI m 85 8) - (1 : Int32)).toInt64 m).bind (fun q1 => bz q1.1 (some (q1.1, q1.2)))
theorem k_X9_isThing_E {g : Gx}  {p1 : Int32} {Q : Qy} {m : Mem} {t : Int32 × Mem} (h : f_X9_isThing p1 m = some t) (hP : pI Q t) : WpM g 2 mi_X9_isThing 0 [some (.ref 85), some (.int p1)] [] m (zM g mi_X9_isThing Q) := by
  refine wp_iload_n dX9_isThing_0 rfl rfl ?_
  refine wp_i2l dX9_isThing_1 rfl ?_
  refine wp_lconst (0 : Int64) dX9_isThing_2 rfl rfl ?_
  refine wp_aload_n dX9_isThing_3 rfl rfl ?_
  refine wm_getI dX9_isThing_4 s_85 fk_X9_166 rfl rfl ?_
  refine wp_iconst (1 : Int32) dX9_isThing_7 ic_1 rfl ?_
  refine wp_isub dX9_isThing_8 rfl ?_
  refine wp_i2l dX9_isThing_9 rfl ?_
  refine wm_callSI (As := [.long p1.toInt64, .long (0 : Int64), .long ((gI m 85 8) - (1 : Int32)).toInt64]) (rest := []) dX9_isThing_10 ok_X9_162 (by decide) rfl (Nat.le_of_ble_eq_true rfl) ⟨rfl, rfl⟩ rfl (fun t h => o_X9_within h) h (fun q1 h => ?_)
  exact wm_zret dX9_isThing_13 rfl ⟨rfl, rfl⟩ h hP
theorem o_X9_isThing {g : Gx}  {p1 : Int32} {m : Mem} {t : Int32 × Mem} (h : f_X9_isThing p1 m = some t) : MxM g 2 mi_X9_isThing [.ref 85, .int p1] m (qI t) := mx_of pn_X9 (Nat.le_of_ble_eq_true rfl) (k_X9_isThing_E h ⟨rfl, rfl, rfl, rfl, rfl⟩)
abbrev A_X9_isOrder_12 (g : Gx)  (Q : Qy) (s : Int32 × Int32 × Int32 × Mem) : Prop := WpM g 3 mi_X9_isOrder 12 [some (.ref 85), none, some (.int s.1), some (.int s.2.1), some (.int s.2.2.1), none] [] s.2.2.2 (zM g mi_X9_isOrder Q)
abbrev P_X9_isOrder_12 (g : Gx)  (Q : Qy) : ((Int32 × Int32 × Int32 × Mem) ⊕ (Int32 × Mem)) → Prop := pS (A_X9_isOrder_12 g Q) (pI Q)
noncomputable def f_X9_isOrder_L12  (s : Int32 × Int32 × Int32 × Mem) : Option ((Int32 × Int32 × Int32 × Mem) ⊕ (Int32 × Mem)) := if s.2.2.1 < 0 then up (if ¬ s.2.1 = 0 then bz (0 : Int32) (some ((0 : Int32), s.2.2.2)) else bz (1 : Int32) (some ((1 : Int32), s.2.2.2))) else bnd ((s.2.1 - s.2.1 / (10 : Int32) * (10 : Int32)) - (1 : Int32)) (fun y2 => if s.2.1 ≤ 0 then up (bz (0 : Int32) (some ((0 : Int32), s.2.2.2))) else (f_X9_isThing y2 s.2.2.2).bind (fun q3 => if q3.1 = 0 then up (bz (0 : Int32) (some ((0 : Int32), q3.2))) else if ¬ ((s.1 >>> (y2 &&& 31)) &&& (1 : Int32)) = (1 : Int32) then bnd (s.1 ||| ((1 : Int32) <<< (y2 &&& 31))) (fun y4 => ck s.2.2.1 6 (bnd (sI q3.2 103 (ix s.2.2.1) y2) (fun m5 => bnd (s.2.1 / (10 : Int32)) (fun y6 => bnd (s.2.2.1 + (-1 : Int32)) (fun y7 => some (Sum.inl (y4, y6, y7, m5))))))) else up (bz (0 : Int32) (some ((0 : Int32), q3.2)))))
theorem k_X9_isOrder_L12 {g : Gx}  {Q : Qy} {s : Int32 × Int32 × Int32 × Mem} {t : (Int32 × Int32 × Int32 × Mem) ⊕ (Int32 × Mem)} (h : f_X9_isOrder_L12 s = some t) (hP : P_X9_isOrder_12 g Q t) : A_X9_isOrder_12 g Q s := by
  refine wp_iload dX9_isOrder_12 rfl rfl ?_
  refine wm_if_lt 77 dX9_isOrder_14 rfl rfl h (fun h => ?_) (fun h => ?_)
  · refine wm_up h hP (fun r h hP => ?_)
    refine wp_iload_n dX9_isOrder_77 rfl rfl ?_
    refine wm_if_ne 85 dX9_isOrder_78 rfl rfl h (fun h => ?_) (fun h => ?_)
    · refine wp_iconst (0 : Int32) dX9_isOrder_85 ic_0 rfl ?_
      exact wm_zret dX9_isOrder_86 rfl ⟨rfl, rfl⟩ h hP
    · refine wp_iconst (1 : Int32) dX9_isOrder_81 ic_1 rfl ?_
      refine wp_goto 86 dX9_isOrder_82 rfl ?_
      exact wm_zret dX9_isOrder_86 rfl ⟨rfl, rfl⟩ h hP
  · refine wp_iload_n dX9_isOrder_17 rfl rfl ?_
    refine wp_bipush (10 : Int32) dX9_isOrder_18 ib_10 rfl ?_
    refine wp_irem dX9_isOrder_20 (by decide) rfl ?_
    refine wp_iconst (1 : Int32) dX9_isOrder_21 ic_1 rfl ?_
    refine wp_isub dX9_isOrder_22 rfl ?_
    refine wm_nm h (fun y2 h => ?_)
    refine wp_istore (L' := [some (.ref 85), none, some (.int s.1), some (.int s.2.1), some (.int s.2.2.1), some (.int y2)]) dX9_isOrder_23 (by decide) rfl rfl rfl ?_
    refine wp_iload_n dX9_isOrder_25 rfl rfl ?_
    refine wm_if_le 48 dX9_isOrder_26 rfl rfl h (fun h => ?_) (fun h => ?_)
    · refine wm_up h hP (fun r h hP => ?_)
      refine wp_iconst (0 : Int32) dX9_isOrder_48 ic_0 rfl ?_
      exact wm_zret dX9_isOrder_49 rfl ⟨rfl, rfl⟩ h hP
    · refine wp_aload_n dX9_isOrder_29 rfl rfl ?_
      refine wp_iload dX9_isOrder_30 rfl rfl ?_
      refine wm_callVI (As := [.int y2]) (rest := []) dX9_isOrder_32 ok_X9_219 (by decide) rfl s_85 ⟨_, rfl⟩ (Nat.le_of_ble_eq_true rfl) ⟨rfl, rfl⟩ rfl (fun t h => o_X9_isThing h) h (fun q3 h => ?_)
      refine wm_if_eq 48 dX9_isOrder_35 rfl rfl h (fun h => ?_) (fun h => ?_)
      · refine wm_up h hP (fun r h hP => ?_)
        refine wp_iconst (0 : Int32) dX9_isOrder_48 ic_0 rfl ?_
        exact wm_zret dX9_isOrder_49 rfl ⟨rfl, rfl⟩ h hP
      · refine wp_iload_n dX9_isOrder_38 rfl rfl ?_
        refine wp_iload dX9_isOrder_39 rfl rfl ?_
        refine wp_ishr dX9_isOrder_41 rfl ?_
        refine wp_iconst (1 : Int32) dX9_isOrder_42 ic_1 rfl ?_
        refine wp_iand dX9_isOrder_43 rfl ?_
        refine wp_iconst (1 : Int32) dX9_isOrder_44 ic_1 rfl ?_
        refine wm_icmp_ne 50 dX9_isOrder_45 rfl rfl h (fun h => ?_) (fun h => ?_)
        · refine wp_iload_n dX9_isOrder_50 rfl rfl ?_
          refine wp_iconst (1 : Int32) dX9_isOrder_51 ic_1 rfl ?_
          refine wp_iload dX9_isOrder_52 rfl rfl ?_
          refine wp_ishl dX9_isOrder_54 rfl ?_
          refine wp_ior dX9_isOrder_55 rfl ?_
          refine wm_nm h (fun y4 h => ?_)
          refine wp_istore_n (L' := [some (.ref 85), none, some (.int y4), some (.int s.2.1), some (.int s.2.2.1), some (.int y2)]) dX9_isOrder_56 (by decide) rfl rfl rfl ?_
          refine wp_aload_n dX9_isOrder_57 rfl rfl ?_
          refine wm_getR dX9_isOrder_58 s_85 fk_X9_61 rfl r_85_38 rfl ?_
          refine wp_iload dX9_isOrder_61 rfl rfl ?_
          refine wp_iload dX9_isOrder_63 rfl rfl ?_
          refine wm_iast dX9_isOrder_65 s_103 rfl h (fun m5 h => ?_)
          refine wp_iload_n dX9_isOrder_66 rfl rfl ?_
          refine wp_bipush (10 : Int32) dX9_isOrder_67 ib_10 rfl ?_
          refine wp_idiv dX9_isOrder_69 (by decide) rfl ?_
          refine wm_nm h (fun y6 h => ?_)
          refine wp_istore_n (L' := [some (.ref 85), none, some (.int y4), some (.int y6), some (.int s.2.2.1), some (.int y2)]) dX9_isOrder_70 (by decide) rfl rfl rfl ?_
          refine wm_inc dX9_isOrder_71 rfl ii_m1 (by decide) rfl rfl h (fun y7 h => ?_)
          refine wm_list (L' := [some (.ref 85), none, some (.int y4), some (.int y6), some (.int y7), some (.int y2)]) rfl ?_
          refine wp_goto 12 dX9_isOrder_74 rfl ?_
          have hB := wm_back h hP
          exact wm_mask (L' := [some (.ref 85), none, some (.int y4), some (.int y6), some (.int y7), none]) [true, false, true, true, true, false] rfl (hB)
        · refine wm_up h hP (fun r h hP => ?_)
          refine wp_iconst (0 : Int32) dX9_isOrder_48 ic_0 rfl ?_
          exact wm_zret dX9_isOrder_49 rfl ⟨rfl, rfl⟩ h hP
noncomputable def f_X9_isOrder  (p1 : Int32) (m : Mem) : Option (Int32 × Mem) := bnd ((gI m 85 8) - (1 : Int32)) (fun y1 => wh (f_X9_isOrder_L12) ((0 : Int32), p1, y1, m))
theorem k_X9_isOrder_E {g : Gx}  {p1 : Int32} {Q : Qy} {m : Mem} {t : Int32 × Mem} (h : f_X9_isOrder p1 m = some t) (hP : pI Q t) : WpM g 3 mi_X9_isOrder 0 [some (.ref 85), some (.int p1), none, none, none, none] [] m (zM g mi_X9_isOrder Q) := by
  refine wp_iconst (0 : Int32) dX9_isOrder_0 ic_0 rfl ?_
  refine wp_istore_n (L' := [some (.ref 85), some (.int p1), some (.int (0 : Int32)), none, none, none]) dX9_isOrder_1 (by decide) rfl rfl rfl ?_
  refine wp_iload_n dX9_isOrder_2 rfl rfl ?_
  refine wp_istore_n (L' := [some (.ref 85), some (.int p1), some (.int (0 : Int32)), some (.int p1), none, none]) dX9_isOrder_3 (by decide) rfl rfl rfl ?_
  refine wp_aload_n dX9_isOrder_4 rfl rfl ?_
  refine wm_getI dX9_isOrder_5 s_85 fk_X9_166 rfl rfl ?_
  refine wp_iconst (1 : Int32) dX9_isOrder_8 ic_1 rfl ?_
  refine wp_isub dX9_isOrder_9 rfl ?_
  refine wm_nm h (fun y1 h => ?_)
  refine wp_istore (L' := [some (.ref 85), some (.int p1), some (.int (0 : Int32)), some (.int p1), some (.int y1), none]) dX9_isOrder_10 (by decide) rfl rfl rfl ?_
  have hB := wh_ok (A := A_X9_isOrder_12 g Q) (B := pI Q) (fun s t h hP => k_X9_isOrder_L12  h hP) h hP
  exact wm_mask (L' := [some (.ref 85), none, some (.int (0 : Int32)), some (.int p1), some (.int y1), none]) [true, false, true, true, true, false] rfl (hB)
theorem o_X9_isOrder {g : Gx}  {p1 : Int32} {m : Mem} {t : Int32 × Mem} (h : f_X9_isOrder p1 m = some t) : MxM g 3 mi_X9_isOrder [.ref 85, .int p1] m (qI t) := mx_of pn_X9 (Nat.le_of_ble_eq_true rfl) (k_X9_isOrder_E h ⟨rfl, rfl, rfl, rfl, rfl⟩)
noncomputable def f_X9_isPerson  (p1 : Int32) (m : Mem) : Option (Int32 × Mem) := (f_X9_within p1.toInt64 (0 : Int64) ((gI m 85 6) - (1 : Int32)).toInt64 m).bind (fun q1 => bz q1.1 (some (q1.1, q1.2)))
theorem k_X9_isPerson_E {g : Gx}  {p1 : Int32} {Q : Qy} {m : Mem} {t : Int32 × Mem} (h : f_X9_isPerson p1 m = some t) (hP : pI Q t) : WpM g 2 mi_X9_isPerson 0 [some (.ref 85), some (.int p1)] [] m (zM g mi_X9_isPerson Q) := by
  refine wp_iload_n dX9_isPerson_0 rfl rfl ?_
  refine wp_i2l dX9_isPerson_1 rfl ?_
  refine wp_lconst (0 : Int64) dX9_isPerson_2 rfl rfl ?_
  refine wp_aload_n dX9_isPerson_3 rfl rfl ?_
  refine wm_getI dX9_isPerson_4 s_85 fk_X9_159 rfl rfl ?_
  refine wp_iconst (1 : Int32) dX9_isPerson_7 ic_1 rfl ?_
  refine wp_isub dX9_isPerson_8 rfl ?_
  refine wp_i2l dX9_isPerson_9 rfl ?_
  refine wm_callSI (As := [.long p1.toInt64, .long (0 : Int64), .long ((gI m 85 6) - (1 : Int32)).toInt64]) (rest := []) dX9_isPerson_10 ok_X9_162 (by decide) rfl (Nat.le_of_ble_eq_true rfl) ⟨rfl, rfl⟩ rfl (fun t h => o_X9_within h) h (fun q1 h => ?_)
  exact wm_zret dX9_isPerson_13 rfl ⟨rfl, rfl⟩ h hP
theorem o_X9_isPerson {g : Gx}  {p1 : Int32} {m : Mem} {t : Int32 × Mem} (h : f_X9_isPerson p1 m = some t) : MxM g 2 mi_X9_isPerson [.ref 85, .int p1] m (qI t) := mx_of pn_X9 (Nat.le_of_ble_eq_true rfl) (k_X9_isPerson_E h ⟨rfl, rfl, rfl, rfl, rfl⟩)
noncomputable def f_X9_isWorth  (p1 : Int32) (m : Mem) : Option (Int32 × Mem) := (f_X9_within p1.toInt64 (-99 : Int64) (99 : Int64) m).bind (fun q1 => bz q1.1 (some (q1.1, q1.2)))
theorem k_X9_isWorth_E {g : Gx}  {p1 : Int32} {Q : Qy} {m : Mem} {t : Int32 × Mem} (h : f_X9_isWorth p1 m = some t) (hP : pI Q t) : WpM g 2 mi_X9_isWorth 0 [some (.int p1)] [] m (zM g mi_X9_isWorth Q) := by
  refine wp_iload_n dX9_isWorth_0 rfl rfl ?_
  refine wp_i2l dX9_isWorth_1 rfl ?_
  refine wp_ldc2 dX9_isWorth_2 q1404 rfl ?_
  refine wp_ldc2 dX9_isWorth_5 q1392 rfl ?_
  refine wm_callSI (As := [.long p1.toInt64, .long (-99 : Int64), .long (99 : Int64)]) (rest := []) dX9_isWorth_8 ok_X9_162 (by decide) rfl (Nat.le_of_ble_eq_true rfl) ⟨rfl, rfl⟩ rfl (fun t h => o_X9_within h) h (fun q1 h => ?_)
  exact wm_zret dX9_isWorth_11 rfl ⟨rfl, rfl⟩ h hP
theorem o_X9_isWorth {g : Gx}  {p1 : Int32} {m : Mem} {t : Int32 × Mem} (h : f_X9_isWorth p1 m = some t) : MxM g 2 mi_X9_isWorth [.int p1] m (qI t) := mx_of pn_X9 (Nat.le_of_ble_eq_true rfl) (k_X9_isWorth_E h ⟨rfl, rfl, rfl, rfl, rfl⟩)
