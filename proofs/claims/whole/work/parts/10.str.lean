section
variable {g : Gx} {d : Nat} {mi : Mi} {pc pc' : Nat} {L : List (Option Value)} {st : List Value} {kc ks : Nat} {sh : Sh} {u : UI} {w : UL} {r : UR} {m : Mem} {Z : En} {T : Type} {t : T}
def strB : List Int32 := [114, 118, 101, 110, 115, 116, 112, 108]
def bb {T : Type} (v : Int32) (k : Option T) : Option T := if v.toInt8.toInt32 = v then k else none
theorem bb_s {T : Type} {v : Int32} {k : Option T} {t : T} (h : bb v k = some t) : v.toInt8.toInt32 = v ∧ k = some t := by
  unfold bb at h
  split at h
  · next hc => exact ⟨hc, h⟩
  · cases h
theorem wp_str (hd : decode (miC mi) pc = .ok (.ldc 70, 2)) (hc : (miY mi).cls = "SpeaksInTurn$Law") (hp : pc + 2 = pc') (k : Wp g d mi pc' L (.ref 1200 :: st) kc ks sh u w r Z) : Wp g d mi pc L st kc ks sh u w r Z := by
  subst hp
  intro p e R s m0 args below meth c F H locs ls hz hP hS hl
  have hk := k p e R s m0 args below meth c F H locs ls hz hP hS hl
  rw [List.map_cons, show tr g (.ref 1200) = .ref (gS g 200) from congrArg Value.ref (gad_st 200)] at hk
  exact va_ldcS F.1.1 F.1.2.1 F.2.1.1 (by rw [hc]; exact F.2.1.2.2.2.2.2.2.2.1) hd hk
theorem wp_strV {idx : Nat} (hd : decode (miC mi) pc = .ok (.getfield idx, 3)) (hw : Cond.fieldLink (miY mi).cls idx "java/lang/String" "value" "[B" ∈ TBg) (hp : pc + 3 = pc') (k : Wp g d mi pc' L (.ref 1201 :: st) kc ks sh u w r Z) : Wp g d mi pc L (.ref 1200 :: st) kc ks sh u w r Z := by
  subst hp
  intro p e R s m0 args below meth c F H locs ls hz hP hS hl
  have hk := k p e R s m0 args below meth c F H locs ls hz hP hS hl
  rw [List.map_cons, show tr g (.ref 1201) = .ref (gS g 201) from congrArg Value.ref (gad_st 201)] at hk
  rw [List.map_cons, show tr g (.ref 1200) = .ref (gS g 200) from congrArg Value.ref (gad_st 200)]
  exact vk_getf F.1.1 F.1.2.1 (F.2.1.2.2.2.2.2.2.2.2.1.1 0 (by decide)).2.2.1 hS F.2.1.1 (F.2.1.2.1 _ hw) (fun x hx => hx) hd hk
theorem wp_strC {idx : Nat} (hd : decode (miC mi) pc = .ok (.getfield idx, 3)) (hw : Cond.fieldLink (miY mi).cls idx "java/lang/String" "coder" "B" ∈ TBg) (hp : pc + 3 = pc') (k : Wp g d mi pc' L (.int 0 :: st) kc ks sh u w r Z) : Wp g d mi pc L (.ref 1200 :: st) kc ks sh u w r Z := by
  subst hp
  intro p e R s m0 args below meth c F H locs ls hz hP hS hl
  rw [List.map_cons, show tr g (.ref 1200) = .ref (gS g 200) from congrArg Value.ref (gad_st 200)]
  exact vk_getf F.1.1 F.1.2.1 (F.2.1.2.2.2.2.2.2.2.2.1.1 0 (by decide)).2.1 hS F.2.1.1 (F.2.1.2.1 _ hw) (fun x hx => hx) hd (k p e R s m0 args below meth c F H locs ls hz hP hS hl)
theorem wp_compact {idx : Nat} (hd : decode (miC mi) pc = .ok (.getstatic idx, 3)) (hw : Cond.fieldLink (miY mi).cls idx "java/lang/String" "COMPACT_STRINGS" "Z" ∈ TBg) (hp : pc + 3 = pc') (k : Wp g d mi pc' L (.int 1 :: st) kc ks sh u w r Z) : Wp g d mi pc L st kc ks sh u w r Z := by
  subst hp
  intro p e R s m0 args below meth c F H locs ls hz hP hS hl
  exact va_gets F.1.1 F.1.2.1 F.2.1.2.2.2.2.2.2.2.2.2.1 hS F.2.1.1 (F.2.1.2.1 _ hw) (fun x hx => hx) hd (k p e R s m0 args below meth c F H locs ls hz hP hS hl)
theorem wp_strL (hd : decode (miC mi) pc = .ok (.arraylength, 1)) (hp : pc + 1 = pc') (k : Wp g d mi pc' L (.int 8 :: st) kc ks sh u w r Z) : Wp g d mi pc L (.ref 1201 :: st) kc ks sh u w r Z := by
  subst hp
  intro p e R s m0 args below meth c F H locs ls hz hP hS hl
  rw [List.map_cons, show tr g (.ref 1201) = .ref (gS g 201) from congrArg Value.ref (gad_st 201)]
  exact va_tlen F.1.1 F.1.2.1 (F.2.1.2.2.2.2.2.2.2.2.1.1 0 (by decide)).2.2.2 hS rfl hd (k p e R s m0 args below meth c F H locs ls hz hP hS hl)
theorem wm_strB {i : Int32} {K : Option T} (hd : decode (miC mi) pc = .ok (.baload, 1)) (hp : pc + 1 = pc') (h : ck i 8 K = some t) (kk : K = some t → WpM g d mi pc' L (.int (strB.getD (ix i) 0) :: st) m Z) : WpM g d mi pc L (.int i :: .ref 1201 :: st) m Z := by
  subst hp
  intro p e R s m0 args below meth c F H locs ls hz hP hS hl
  rw [List.map_cons, List.map_cons, show tr g (.ref 1201) = .ref (gS g 201) from congrArg Value.ref (gad_st 201)]
  exact va_tb F.1.1 F.1.2.1 (F.2.1.2.2.2.2.2.2.2.2.1.1 0 (by decide)).2.2.2 hS (ck_s h).1 rfl hd (kk (ck_s h).2 p e R s m0 args below meth c F H locs ls hz hP hS hl)
theorem wm_bret {v : Int32} {t : Int32 × Mem} {Q : Qy} (hd : decode (miC mi) pc = .ok (.ireturn, 1)) (hr : miR mi = some .byte) (hk : 0 = miK mi ∧ 0 = miM mi) (h : bb v (some (v, m)) = some t) (hq : pI Q t) : WpM g d mi pc L [.int v] m (zM g mi Q) := by
  obtain ⟨h1, h2⟩ := bb_s h
  cases h2
  intro p e R s m0 args below meth c F H locs ls hz hP hS hl
  refine W.widen (Nat.le_of_eq hk.1) (Nat.le_of_eq hk.2) ?_
  exact W.zret F.1.1 F.1.2.1 (F.1.2.2.2.1.trans hr) (by simp [narrow, h1]) (fun t ht hW => ⟨⟨some (.int v), shF, m.1, m.2.1, rF m.2.2, rfl, hq, by rw [ht]; exact hP, by rw [← hk.1]; exact hz.1, hz.2⟩, hS.F ht⟩) hS.2.2 hd F.1.2.2.2.2.1
theorem wm_callStr {idx d' : Nat} {mi' : Mi} {As rest : List Value} {Fc : Option (Int32 × Mem)} {K : Int32 × Mem → Option T} (hd : decode (miC mi) pc = .ok (.invokevirtual idx, 3)) (ok : OkV (miY mi).cls idx mi' As.length) (hcl : (miY mi').cls = "java/lang/String") (hdd : d' + 1 ≤ d) (hst : st = As.reverse ++ .ref 1200 :: rest) (hcat : (rest.map fun v => v.category).sum ≤ 8) (hk : miK mi' = 0 ∧ miM mi' = 0) (hp : pc + 3 = pc')
    (hM : ∀ t', Fc = some t' → MxM g d' mi' (.ref 1200 :: As) m (qI t')) (h : Fc.bind K = some t) (kk : ∀ q, K q = some t → WpM g d mi pc' L (.int q.1 :: rest) q.2 Z) : WpM g d mi pc L st m Z := by
  obtain ⟨q, hq1, hq2⟩ := Option.bind_eq_some_iff.mp h
  subst hp
  intro p e R s m0 args below meth c F H locs ls hz hP hS hl
  subst hst
  obtain ⟨⟨o1, o2, o3, o4, o5⟩, o6, o7⟩ := ok
  refine w_size F.2.1.2.2.2.1 hz.1 hP hS (fun hsz => ?_)
  have hts := F.2.1.2.1
  have cw : CallW R s args (miY mi).cls (miY mi').cls idx (miY mi') (miC mi') (miL mi') (miR mi') (mWs mi') (mRm d' mi') (miK mi') (miM mi') (As.map (tr g)).length :=
    ⟨callB_of _ hts (w_good o5) rfl rfl rfl (hts _ o4) (hts _ o1) ⟨o6.1, o6.2.1, by rw [List.length_map]; exact o6.2.2⟩ ⟨Nat.le_trans hdd F.2.2.1, by have := F.2.2.2.1; simp only [mRm]; omega⟩, hts _ o2, hts _ o3⟩
  refine w_back (k2 := miK mi') (m2 := miM mi') hsz (va_runV (As := As.map (tr g)) (b := gad g 1200) (rest := rest.map (tr g)) ⟨F.1.1, F.1.2.1, F.1.2.2.1, F.2.1.1, hts⟩ (hM q hq1) cw ⟨w_blind, ?_, w_pre F hsz hz.2 hP hS (.ref 1200 :: As)⟩ rfl rfl hl.1 ?_ (lv_room (by rw [w_sum]; exact hcat)) hd ⟨by rw [hk.1]; exact Nat.zero_le _, by rw [hk.2]; exact Nat.zero_le _⟩) hz.1 hS (fun v sh' u' w' r' hq H1 locs1 hz1 hP1 hS1 => ?_)
  · rw [show gad g 1200 = gS g 200 from gad_st 200, hcl]
    exact vk_recv (i := 0) (adK := fun _ => gS g 200) F.2.1.2.2.2.2.2.2.2.2.1 (by decide) hS
  · show (As.reverse ++ .ref 1200 :: rest).map (tr g) = _
    rw [List.map_append, List.map_reverse]; rfl
  · obtain ⟨e1, e2, e3, e4, e5⟩ := hq
    subst e1; subst e2; subst e3; subst e4; subst e5
    rw [hk.1] at hz1 ⊢
    rw [hk.2]
    exact kk q hq2 p e R s m0 args below meth c F H1 locs1 ls hz1 hP1 hS1 hl
end
noncomputable def f_J0_coder_7d493   (m : Mem) : Option (Int32 × Mem) := if (1 : Int32) = 0 then bb (1 : Int32) (some ((1 : Int32), m)) else bb (0 : Int32) (some ((0 : Int32), m))
theorem k_J0_coder_7d493_E {g : Gx}   {Q : Qy} {m : Mem} {t : Int32 × Mem} (h : f_J0_coder_7d493 m = some t) (hP : pI Q t) : WpM g 1 mi_J0_coder_7d493 0 [some (.ref 1200)] [] m (zM g mi_J0_coder_7d493 Q) := by
  refine wp_compact dJ0_coder_7d493_0 q612 rfl ?_
  refine wm_if_eq 13 dJ0_coder_7d493_3 rfl rfl h (fun h => ?_) (fun h => ?_)
  · refine wp_iconst (1 : Int32) dJ0_coder_7d493_13 ic_1 rfl ?_
    exact wm_bret dJ0_coder_7d493_14 rfl ⟨rfl, rfl⟩ h hP
  · refine wp_aload_n dJ0_coder_7d493_6 rfl rfl ?_
    refine wp_strC dJ0_coder_7d493_7 q1792 rfl ?_
    refine wp_goto 14 dJ0_coder_7d493_10 rfl ?_
    exact wm_bret dJ0_coder_7d493_14 rfl ⟨rfl, rfl⟩ h hP
theorem o_J0_coder_7d493 {g : Gx}   {m : Mem} {t : Int32 × Mem} (h : f_J0_coder_7d493 m = some t) : MxM g 1 mi_J0_coder_7d493 [.ref 1200] m (qI t) := mx_of pn_J0 (Nat.le_of_ble_eq_true rfl) (k_J0_coder_7d493_E h ⟨rfl, rfl, rfl, rfl, rfl⟩)
noncomputable def f_J0_isLatin1_aae02   (m : Mem) : Option (Int32 × Mem) := if (1 : Int32) = 0 then bz (0 : Int32) (some ((0 : Int32), m)) else if ¬ (0 : Int32) = 0 then bz (0 : Int32) (some ((0 : Int32), m)) else bz (1 : Int32) (some ((1 : Int32), m))
theorem k_J0_isLatin1_aae02_E {g : Gx}   {Q : Qy} {m : Mem} {t : Int32 × Mem} (h : f_J0_isLatin1_aae02 m = some t) (hP : pI Q t) : WpM g 1 mi_J0_isLatin1_aae02 0 [some (.ref 1200)] [] m (zM g mi_J0_isLatin1_aae02 Q) := by
  refine wp_compact dJ0_isLatin1_aae02_0 q612 rfl ?_
  refine wm_if_eq 17 dJ0_isLatin1_aae02_3 rfl rfl h (fun h => ?_) (fun h => ?_)
  · refine wp_iconst (0 : Int32) dJ0_isLatin1_aae02_17 ic_0 rfl ?_
    exact wm_zret dJ0_isLatin1_aae02_18 rfl ⟨rfl, rfl⟩ h hP
  · refine wp_aload_n dJ0_isLatin1_aae02_6 rfl rfl ?_
    refine wp_strC dJ0_isLatin1_aae02_7 q1792 rfl ?_
    refine wm_if_ne 17 dJ0_isLatin1_aae02_10 rfl rfl h (fun h => ?_) (fun h => ?_)
    · refine wp_iconst (0 : Int32) dJ0_isLatin1_aae02_17 ic_0 rfl ?_
      exact wm_zret dJ0_isLatin1_aae02_18 rfl ⟨rfl, rfl⟩ h hP
    · refine wp_iconst (1 : Int32) dJ0_isLatin1_aae02_13 ic_1 rfl ?_
      refine wp_goto 18 dJ0_isLatin1_aae02_14 rfl ?_
      exact wm_zret dJ0_isLatin1_aae02_18 rfl ⟨rfl, rfl⟩ h hP
theorem o_J0_isLatin1_aae02 {g : Gx}   {m : Mem} {t : Int32 × Mem} (h : f_J0_isLatin1_aae02 m = some t) : MxM g 1 mi_J0_isLatin1_aae02 [.ref 1200] m (qI t) := mx_of pn_J0 (Nat.le_of_ble_eq_true rfl) (k_J0_isLatin1_aae02_E h ⟨rfl, rfl, rfl, rfl, rfl⟩)
noncomputable def f_J0_length_8abf5   (m : Mem) : Option (Int32 × Mem) := (f_J0_coder_7d493 m).bind (fun q1 => some (((8 : Int32) >>> (q1.1 &&& 31)), q1.2))
theorem k_J0_length_8abf5_E {g : Gx}   {Q : Qy} {m : Mem} {t : Int32 × Mem} (h : f_J0_length_8abf5 m = some t) (hP : pI Q t) : WpM g 2 mi_J0_length_8abf5 0 [some (.ref 1200)] [] m (zM g mi_J0_length_8abf5 Q) := by
  refine wp_aload_n dJ0_length_8abf5_0 rfl rfl ?_
  refine wp_strV dJ0_length_8abf5_1 q1793 rfl ?_
  refine wp_strL dJ0_length_8abf5_4 rfl ?_
  refine wp_aload_n dJ0_length_8abf5_5 rfl rfl ?_
  refine wm_callStr (As := []) (rest := [.int (8 : Int32)]) dJ0_length_8abf5_6 ok_J0_335 rfl (by decide) rfl (Nat.le_of_ble_eq_true rfl) ⟨rfl, rfl⟩ rfl (fun t h => o_J0_coder_7d493 h) h (fun q1 h => ?_)
  refine wp_ishr dJ0_length_8abf5_9 rfl ?_
  exact wm_iret dJ0_length_8abf5_10 rfl ⟨rfl, rfl⟩ h hP
theorem o_J0_length_8abf5 {g : Gx}   {m : Mem} {t : Int32 × Mem} (h : f_J0_length_8abf5 m = some t) : MxM g 2 mi_J0_length_8abf5 [.ref 1200] m (qI t) := mx_of pn_J0 (Nat.le_of_ble_eq_true rfl) (k_J0_length_8abf5_E h ⟨rfl, rfl, rfl, rfl, rfl⟩)
noncomputable def f_J1_canEncode_9a6ad  (p1 : Int32) (m : Mem) : Option (Int32 × Mem) := if p1 < 0 then bz (0 : Int32) (some ((0 : Int32), m)) else if (255 : Int32) < p1 then bz (0 : Int32) (some ((0 : Int32), m)) else bz (1 : Int32) (some ((1 : Int32), m))
theorem k_J1_canEncode_9a6ad_E {g : Gx}  {p1 : Int32} {Q : Qy} {m : Mem} {t : Int32 × Mem} (h : f_J1_canEncode_9a6ad p1 m = some t) (hP : pI Q t) : WpM g 1 mi_J1_canEncode_9a6ad 0 [some (.int p1)] [] m (zM g mi_J1_canEncode_9a6ad Q) := by
  refine wp_iload_n dJ1_canEncode_9a6ad_0 rfl rfl ?_
  refine wm_if_lt 15 dJ1_canEncode_9a6ad_1 rfl rfl h (fun h => ?_) (fun h => ?_)
  · refine wp_iconst (0 : Int32) dJ1_canEncode_9a6ad_15 ic_0 rfl ?_
    exact wm_zret dJ1_canEncode_9a6ad_16 rfl ⟨rfl, rfl⟩ h hP
  · refine wp_iload_n dJ1_canEncode_9a6ad_4 rfl rfl ?_
    refine wp_sipush (255 : Int32) dJ1_canEncode_9a6ad_5 is_255 rfl ?_
    refine wm_icmp_gt 15 dJ1_canEncode_9a6ad_8 rfl rfl h (fun h => ?_) (fun h => ?_)
    · refine wp_iconst (0 : Int32) dJ1_canEncode_9a6ad_15 ic_0 rfl ?_
      exact wm_zret dJ1_canEncode_9a6ad_16 rfl ⟨rfl, rfl⟩ h hP
    · refine wp_iconst (1 : Int32) dJ1_canEncode_9a6ad_11 ic_1 rfl ?_
      refine wp_goto 16 dJ1_canEncode_9a6ad_12 rfl ?_
      exact wm_zret dJ1_canEncode_9a6ad_16 rfl ⟨rfl, rfl⟩ h hP
theorem o_J1_canEncode_9a6ad {g : Gx}  {p1 : Int32} {m : Mem} {t : Int32 × Mem} (h : f_J1_canEncode_9a6ad p1 m = some t) : MxM g 1 mi_J1_canEncode_9a6ad [.int p1] m (qI t) := mx_of pn_J1 (Nat.le_of_ble_eq_true rfl) (k_J1_canEncode_9a6ad_E h ⟨rfl, rfl, rfl, rfl, rfl⟩)
abbrev A_J1_indexOfChar_4cfef_7 (g : Gx)  (Q : Qy) (s : Int32 × Int32 × Int32 × Mem) : Prop := WpM g 1 mi_J1_indexOfChar_4cfef 7 [some (.ref 1201), none, none, some (.int s.1), some (.int s.2.1), some (.int s.2.2.1)] [] s.2.2.2 (zM g mi_J1_indexOfChar_4cfef Q)
abbrev P_J1_indexOfChar_4cfef_7 (g : Gx)  (Q : Qy) : ((Int32 × Int32 × Int32 × Mem) ⊕ (Int32 × Mem)) → Prop := pS (A_J1_indexOfChar_4cfef_7 g Q) (pI Q)
noncomputable def f_J1_indexOfChar_4cfef_L7  (s : Int32 × Int32 × Int32 × Mem) : Option ((Int32 × Int32 × Int32 × Mem) ⊕ (Int32 × Mem)) := if s.1 ≤ s.2.2.1 then up (some ((-1 : Int32), s.2.2.2)) else ck s.2.2.1 8 (if ¬ (strB.getD (ix s.2.2.1) 0) = s.2.1 then bnd (s.2.2.1 + (1 : Int32)) (fun y1 => some (Sum.inl (s.1, s.2.1, y1, s.2.2.2))) else up (some (s.2.2.1, s.2.2.2)))
theorem k_J1_indexOfChar_4cfef_L7 {g : Gx}  {Q : Qy} {s : Int32 × Int32 × Int32 × Mem} {t : (Int32 × Int32 × Int32 × Mem) ⊕ (Int32 × Mem)} (h : f_J1_indexOfChar_4cfef_L7 s = some t) (hP : P_J1_indexOfChar_4cfef_7 g Q t) : A_J1_indexOfChar_4cfef_7 g Q s := by
  refine wp_iload dJ1_indexOfChar_4cfef_7 rfl rfl ?_
  refine wp_iload_n dJ1_indexOfChar_4cfef_9 rfl rfl ?_
  refine wm_icmp_ge 31 dJ1_indexOfChar_4cfef_10 rfl rfl h (fun h => ?_) (fun h => ?_)
  · refine wm_up h hP (fun r h hP => ?_)
    refine wp_iconst (-1 : Int32) dJ1_indexOfChar_4cfef_31 ic_m1 rfl ?_
    exact wm_iret dJ1_indexOfChar_4cfef_32 rfl ⟨rfl, rfl⟩ h hP
  · refine wp_aload_n dJ1_indexOfChar_4cfef_13 rfl rfl ?_
    refine wp_iload dJ1_indexOfChar_4cfef_14 rfl rfl ?_
    refine wm_strB dJ1_indexOfChar_4cfef_16 rfl h (fun h => ?_)
    refine wp_iload dJ1_indexOfChar_4cfef_17 rfl rfl ?_
    refine wm_icmp_ne 25 dJ1_indexOfChar_4cfef_19 rfl rfl h (fun h => ?_) (fun h => ?_)
    · refine wm_inc dJ1_indexOfChar_4cfef_25 rfl ii_1 (by decide) rfl rfl h (fun y1 h => ?_)
      refine wm_list (L' := [some (.ref 1201), none, none, some (.int s.1), some (.int s.2.1), some (.int y1)]) rfl ?_
      refine wp_goto 7 dJ1_indexOfChar_4cfef_28 rfl ?_
      have hB := wm_back h hP
      exact wm_mask (L' := [some (.ref 1201), none, none, some (.int s.1), some (.int s.2.1), some (.int y1)]) [true, false, false, true, true, true] rfl (hB)
    · refine wm_up h hP (fun r h hP => ?_)
      refine wp_iload dJ1_indexOfChar_4cfef_22 rfl rfl ?_
      exact wm_iret dJ1_indexOfChar_4cfef_24 rfl ⟨rfl, rfl⟩ h hP
noncomputable def f_J1_indexOfChar_4cfef  (p2 : Int32) (p3 : Int32) (p4 : Int32) (m : Mem) : Option (Int32 × Mem) := wh (f_J1_indexOfChar_4cfef_L7) (p4, p2.toInt8.toInt32, p3, m)
theorem k_J1_indexOfChar_4cfef_E {g : Gx}  {p2 : Int32} {p3 : Int32} {p4 : Int32} {Q : Qy} {m : Mem} {t : Int32 × Mem} (h : f_J1_indexOfChar_4cfef p2 p3 p4 m = some t) (hP : pI Q t) : WpM g 1 mi_J1_indexOfChar_4cfef 0 [some (.ref 1201), some (.int p2), some (.int p3), some (.int p4), none, none] [] m (zM g mi_J1_indexOfChar_4cfef Q) := by
  refine wp_iload_n dJ1_indexOfChar_4cfef_0 rfl rfl ?_
  refine wp_i2b dJ1_indexOfChar_4cfef_1 rfl ?_
  refine wp_istore (L' := [some (.ref 1201), some (.int p2), some (.int p3), some (.int p4), some (.int p2.toInt8.toInt32), none]) dJ1_indexOfChar_4cfef_2 (by decide) rfl rfl rfl ?_
  refine wp_iload_n dJ1_indexOfChar_4cfef_4 rfl rfl ?_
  refine wp_istore (L' := [some (.ref 1201), some (.int p2), some (.int p3), some (.int p4), some (.int p2.toInt8.toInt32), some (.int p3)]) dJ1_indexOfChar_4cfef_5 (by decide) rfl rfl rfl ?_
  have hB := wh_ok (A := A_J1_indexOfChar_4cfef_7 g Q) (B := pI Q) (fun s t h hP => k_J1_indexOfChar_4cfef_L7  h hP) h hP
  exact wm_mask (L' := [some (.ref 1201), none, none, some (.int p4), some (.int p2.toInt8.toInt32), some (.int p3)]) [true, false, false, true, true, true] rfl (hB)
theorem o_J1_indexOfChar_4cfef {g : Gx}  {p2 : Int32} {p3 : Int32} {p4 : Int32} {m : Mem} {t : Int32 × Mem} (h : f_J1_indexOfChar_4cfef p2 p3 p4 m = some t) : MxM g 1 mi_J1_indexOfChar_4cfef [.ref 1201, .int p2, .int p3, .int p4] m (qI t) := mx_of pn_J1 (Nat.le_of_ble_eq_true rfl) (k_J1_indexOfChar_4cfef_E h ⟨rfl, rfl, rfl, rfl, rfl⟩)
noncomputable def f_J1_indexOf_4cfef  (p2 : Int32) (p3 : Int32) (p4 : Int32) (m : Mem) : Option (Int32 × Mem) := (f_J1_canEncode_9a6ad p2 m).bind (fun q1 => if ¬ q1.1 = 0 then bnd (mxI p3 (0 : Int32)) (fun y2 => bnd (mnI p4 (8 : Int32)) (fun y3 => if y2 < y3 then (f_J1_indexOfChar_4cfef p2 y2 y3 q1.2).bind (fun q4 => some (q4.1, q4.2)) else some ((-1 : Int32), q1.2))) else some ((-1 : Int32), q1.2))
theorem k_J1_indexOf_4cfef_E {g : Gx}  {p2 : Int32} {p3 : Int32} {p4 : Int32} {Q : Qy} {m : Mem} {t : Int32 × Mem} (h : f_J1_indexOf_4cfef p2 p3 p4 m = some t) (hP : pI Q t) : WpM g 2 mi_J1_indexOf_4cfef 0 [some (.ref 1201), some (.int p2), some (.int p3), some (.int p4)] [] m (zM g mi_J1_indexOf_4cfef Q) := by
  refine wp_iload_n dJ1_indexOf_4cfef_0 rfl rfl ?_
  refine wm_callSI (As := [.int p2]) (rest := []) dJ1_indexOf_4cfef_1 ok_J1_88 (by decide) rfl (Nat.le_of_ble_eq_true rfl) ⟨rfl, rfl⟩ rfl (fun t h => o_J1_canEncode_9a6ad h) h (fun q1 h => ?_)
  refine wm_if_ne 9 dJ1_indexOf_4cfef_4 rfl rfl h (fun h => ?_) (fun h => ?_)
  · refine wp_iload_n dJ1_indexOf_4cfef_9 rfl rfl ?_
    refine wp_iconst (0 : Int32) dJ1_indexOf_4cfef_10 ic_0 rfl ?_
    refine wp_mmax dJ1_indexOf_4cfef_11 ok_J1_92 (by decide) ⟨Nat.le_refl _, Nat.le_refl _⟩ (Nat.le_of_ble_eq_true rfl) rfl ?_
    refine wm_nm h (fun y2 h => ?_)
    refine wp_istore_n (L' := [some (.ref 1201), some (.int p2), some (.int y2), some (.int p4)]) dJ1_indexOf_4cfef_14 (by decide) rfl rfl rfl ?_
    refine wp_iload_n dJ1_indexOf_4cfef_15 rfl rfl ?_
    refine wp_aload_n dJ1_indexOf_4cfef_16 rfl rfl ?_
    refine wp_strL dJ1_indexOf_4cfef_17 rfl ?_
    refine wp_mmin dJ1_indexOf_4cfef_18 ok_J1_38 (by decide) ⟨Nat.le_refl _, Nat.le_refl _⟩ (Nat.le_of_ble_eq_true rfl) rfl ?_
    refine wm_nm h (fun y3 h => ?_)
    refine wp_istore_n (L' := [some (.ref 1201), some (.int p2), some (.int y2), some (.int y3)]) dJ1_indexOf_4cfef_21 (by decide) rfl rfl rfl ?_
    refine wp_iload_n dJ1_indexOf_4cfef_22 rfl rfl ?_
    refine wp_iload_n dJ1_indexOf_4cfef_23 rfl rfl ?_
    refine wm_icmp_lt 29 dJ1_indexOf_4cfef_24 rfl rfl h (fun h => ?_) (fun h => ?_)
    · refine wp_aload_n dJ1_indexOf_4cfef_29 rfl rfl ?_
      refine wp_iload_n dJ1_indexOf_4cfef_30 rfl rfl ?_
      refine wp_iload_n dJ1_indexOf_4cfef_31 rfl rfl ?_
      refine wp_iload_n dJ1_indexOf_4cfef_32 rfl rfl ?_
      refine wm_callSI (As := [.ref 1201, .int p2, .int y2, .int y3]) (rest := []) dJ1_indexOf_4cfef_33 ok_J1_95 (by decide) rfl (Nat.le_of_ble_eq_true rfl) ⟨rfl, rfl⟩ rfl (fun t h => o_J1_indexOfChar_4cfef h) h (fun q4 h => ?_)
      exact wm_iret dJ1_indexOf_4cfef_36 rfl ⟨rfl, rfl⟩ h hP
    · refine wp_iconst (-1 : Int32) dJ1_indexOf_4cfef_27 ic_m1 rfl ?_
      exact wm_iret dJ1_indexOf_4cfef_28 rfl ⟨rfl, rfl⟩ h hP
  · refine wp_iconst (-1 : Int32) dJ1_indexOf_4cfef_7 ic_m1 rfl ?_
    exact wm_iret dJ1_indexOf_4cfef_8 rfl ⟨rfl, rfl⟩ h hP
theorem o_J1_indexOf_4cfef {g : Gx}  {p2 : Int32} {p3 : Int32} {p4 : Int32} {m : Mem} {t : Int32 × Mem} (h : f_J1_indexOf_4cfef p2 p3 p4 m = some t) : MxM g 2 mi_J1_indexOf_4cfef [.ref 1201, .int p2, .int p3, .int p4] m (qI t) := mx_of pn_J1 (Nat.le_of_ble_eq_true rfl) (k_J1_indexOf_4cfef_E h ⟨rfl, rfl, rfl, rfl, rfl⟩)
noncomputable def f_J0_indexOf_7cf53  (p1 : Int32) (p2 : Int32) (m : Mem) : Option (Int32 × Mem) := (f_J0_isLatin1_aae02 m).bind (fun q1 => if q1.1 = 0 then (f_J0_length_8abf5 q1.2).bind (fun q2 => none) else (f_J0_length_8abf5 q1.2).bind (fun q3 => (f_J1_indexOf_4cfef p1 p2 q3.1 q3.2).bind (fun q4 => some (q4.1, q4.2))))
theorem k_J0_indexOf_7cf53_E {g : Gx}  {p1 : Int32} {p2 : Int32} {Q : Qy} {m : Mem} {t : Int32 × Mem} (h : f_J0_indexOf_7cf53 p1 p2 m = some t) (hP : pI Q t) : WpM g 3 mi_J0_indexOf_7cf53 0 [some (.ref 1200), some (.int p1), some (.int p2)] [] m (zM g mi_J0_indexOf_7cf53 Q) := by
  refine wp_aload_n dJ0_indexOf_7cf53_0 rfl rfl ?_
  refine wm_callStr (As := []) (rest := []) dJ0_indexOf_7cf53_1 ok_J0_492 rfl (by decide) rfl (Nat.le_of_ble_eq_true rfl) ⟨rfl, rfl⟩ rfl (fun t h => o_J0_isLatin1_aae02 h) h (fun q1 h => ?_)
  refine wm_if_eq 23 dJ0_indexOf_7cf53_4 rfl rfl h (fun h => ?_) (fun h => ?_)
  · refine wp_aload_n dJ0_indexOf_7cf53_23 rfl rfl ?_
    refine wp_strV dJ0_indexOf_7cf53_24 q1793 rfl ?_
    refine wp_iload_n dJ0_indexOf_7cf53_27 rfl rfl ?_
    refine wp_iload_n dJ0_indexOf_7cf53_28 rfl rfl ?_
    refine wp_aload_n dJ0_indexOf_7cf53_29 rfl rfl ?_
    refine wm_callStr (As := []) (rest := [.int p2, .int p1, .ref 1201]) dJ0_indexOf_7cf53_30 ok_J0_505 rfl (by decide) rfl (Nat.le_of_ble_eq_true rfl) ⟨rfl, rfl⟩ rfl (fun t h => o_J0_length_8abf5 h) h (fun q2 h => ?_)
    cases h
  · refine wp_aload_n dJ0_indexOf_7cf53_7 rfl rfl ?_
    refine wp_strV dJ0_indexOf_7cf53_8 q1793 rfl ?_
    refine wp_iload_n dJ0_indexOf_7cf53_11 rfl rfl ?_
    refine wp_iload_n dJ0_indexOf_7cf53_12 rfl rfl ?_
    refine wp_aload_n dJ0_indexOf_7cf53_13 rfl rfl ?_
    refine wm_callStr (As := []) (rest := [.int p2, .int p1, .ref 1201]) dJ0_indexOf_7cf53_14 ok_J0_505 rfl (by decide) rfl (Nat.le_of_ble_eq_true rfl) ⟨rfl, rfl⟩ rfl (fun t h => o_J0_length_8abf5 h) h (fun q3 h => ?_)
    refine wm_callSI (As := [.ref 1201, .int p1, .int p2, .int q3.1]) (rest := []) dJ0_indexOf_7cf53_17 ok_J0_637 (by decide) rfl (Nat.le_of_ble_eq_true rfl) ⟨rfl, rfl⟩ rfl (fun t h => o_J1_indexOf_4cfef h) h (fun q4 h => ?_)
    refine wp_goto 36 dJ0_indexOf_7cf53_20 rfl ?_
    exact wm_iret dJ0_indexOf_7cf53_36 rfl ⟨rfl, rfl⟩ h hP
theorem o_J0_indexOf_7cf53 {g : Gx}  {p1 : Int32} {p2 : Int32} {m : Mem} {t : Int32 × Mem} (h : f_J0_indexOf_7cf53 p1 p2 m = some t) : MxM g 3 mi_J0_indexOf_7cf53 [.ref 1200, .int p1, .int p2] m (qI t) := mx_of pn_J0 (Nat.le_of_ble_eq_true rfl) (k_J0_indexOf_7cf53_E h ⟨rfl, rfl, rfl, rfl, rfl⟩)
noncomputable def f_J0_indexOf_0f7a4  (p1 : Int32) (m : Mem) : Option (Int32 × Mem) := (f_J0_indexOf_7cf53 p1 (0 : Int32) m).bind (fun q1 => some (q1.1, q1.2))
theorem k_J0_indexOf_0f7a4_E {g : Gx}  {p1 : Int32} {Q : Qy} {m : Mem} {t : Int32 × Mem} (h : f_J0_indexOf_0f7a4 p1 m = some t) (hP : pI Q t) : WpM g 4 mi_J0_indexOf_0f7a4 0 [some (.ref 1200), some (.int p1)] [] m (zM g mi_J0_indexOf_0f7a4 Q) := by
  refine wp_aload_n dJ0_indexOf_0f7a4_0 rfl rfl ?_
  refine wp_iload_n dJ0_indexOf_0f7a4_1 rfl rfl ?_
  refine wp_iconst (0 : Int32) dJ0_indexOf_0f7a4_2 ic_0 rfl ?_
  refine wm_callStr (As := [.int p1, .int (0 : Int32)]) (rest := []) dJ0_indexOf_0f7a4_3 ok_J0_633 rfl (by decide) rfl (Nat.le_of_ble_eq_true rfl) ⟨rfl, rfl⟩ rfl (fun t h => o_J0_indexOf_7cf53 h) h (fun q1 h => ?_)
  exact wm_iret dJ0_indexOf_0f7a4_6 rfl ⟨rfl, rfl⟩ h hP
theorem o_J0_indexOf_0f7a4 {g : Gx}  {p1 : Int32} {m : Mem} {t : Int32 × Mem} (h : f_J0_indexOf_0f7a4 p1 m = some t) : MxM g 4 mi_J0_indexOf_0f7a4 [.ref 1200, .int p1] m (qI t) := mx_of pn_J0 (Nat.le_of_ble_eq_true rfl) (k_J0_indexOf_0f7a4_E h ⟨rfl, rfl, rfl, rfl, rfl⟩)
theorem ck_in {T : Type} {k n : Nat} {K : Option T} (h : k < n) (hn : n < 2 ^ 31) : ck (nI k) n K = K := if_neg (nI_in h hn)
theorem wh_inl {S T : Type} {body : S → Option (S ⊕ T)} {s s' : S} (h : body s = some (.inl s')) : wh body s = wh body s' := by
  cases hw : wh body s' with
  | some r => exact wh_next h hw
  | none =>
    cases hv : wh body s with
    | none => rfl
    | some r =>
      obtain ⟨n, hn⟩ := wh_to hv
      cases n with
      | zero => cases hn
      | succ n =>
        unfold itr at hn
        rw [h] at hn
        rw [wh_of hn] at hw
        cases hw
theorem wh_ite {S T : Type} {body : S → Option (S ⊕ T)} {s s' : S} {r : T} {c : Prop} [Decidable c] (h : body s = if c then some (.inr r) else some (.inl s')) : wh body s = if c then some r else wh body s' := by
  by_cases hc : c
  · rw [if_pos hc] at h ⊢
    exact wh_done h
  · rw [if_neg hc] at h ⊢
    exact wh_inl h
theorem nI_up {c : Int32} (h : 0 ≤ c) : nI c.toNatClampNeg = c ∧ c.toNatClampNeg < 2 ^ 31 := by
  have h0 : (0 : Int) ≤ c.toInt := by simpa using Int32.le_iff_toInt_le.mp h
  have h1 : c.toInt < 2147483648 := by have := Int32.toInt_lt c; simpa using this
  have h2 : (c.toNatClampNeg : Int) = c.toInt := by
    show ((c.toInt.toNat : Nat) : Int) = _
    omega
  have h3 : c.toNatClampNeg < 2 ^ 31 := by omega
  refine ⟨Int32.toInt_inj.mp ?_, h3⟩
  rw [nI_toInt h3, h2]
theorem ioc_step (b : Int32) (m : Mem) (k : Nat) (hk : k < 8) : f_J1_indexOfChar_4cfef_L7 (8, b, nI k, m) = if strB.getD k 0 = b then some (.inr (nI k, m)) else some (.inl (8, b, nI (k + 1), m)) := by
  have e1 : ¬ (8 : Int32) ≤ nI k := nI_ge hk (by decide)
  show (if (8 : Int32) ≤ nI k then _ else ck (nI k) 8 (if ¬ (strB.getD (ix (nI k)) 0) = b then bnd (nI k + (1 : Int32)) (fun y1 => some (Sum.inl (8, b, y1, m))) else up (some (nI k, m)))) = _
  rw [if_neg e1, ck_in hk (by decide), show ix (nI k) = k from nI_clamp (by omega)]
  by_cases hc : strB.getD k 0 = b
  · rw [if_neg (fun h => h hc), if_pos hc]; rfl
  · rw [if_pos hc, if_neg hc]
    show some (Sum.inl (8, b, nI k + 1, m)) = _
    rw [nI_1]
def nmB (b : Int32) : Int32 := if 114 = b then 0 else if 118 = b then 1 else if 101 = b then 2 else if 110 = b then 3 else if 115 = b then 4 else if 116 = b then 5 else if 112 = b then 6 else if 108 = b then 7 else -1
theorem ioc (b : Int32) (m : Mem) : wh f_J1_indexOfChar_4cfef_L7 (8, b, nI 0, m) = some (nmB b, m) := by
  rw [wh_ite (ioc_step b m 0 (by decide)), wh_ite (ioc_step b m 1 (by decide)), wh_ite (ioc_step b m 2 (by decide)), wh_ite (ioc_step b m 3 (by decide)), wh_ite (ioc_step b m 4 (by decide)), wh_ite (ioc_step b m 5 (by decide)), wh_ite (ioc_step b m 6 (by decide)), wh_ite (ioc_step b m 7 (by decide))]
  have e : wh f_J1_indexOfChar_4cfef_L7 (8, b, nI 8, m) = some (-1, m) := wh_done (by
    show (if (8 : Int32) ≤ nI 8 then _ else _) = _
    rw [if_pos (by decide)]; rfl)
  rw [e]
  unfold nmB
  show (if (114 : Int32) = b then some (nI 0, m) else if (118 : Int32) = b then some (nI 1, m) else if (101 : Int32) = b then some (nI 2, m) else if (110 : Int32) = b then some (nI 3, m) else if (115 : Int32) = b then some (nI 4, m) else if (116 : Int32) = b then some (nI 5, m) else if (112 : Int32) = b then some (nI 6, m) else if (108 : Int32) = b then some (nI 7, m) else some (-1, m)) = _
  repeat' split
  all_goals rfl
theorem nmB_of : ∀ k, k < 256 → nmB (nI k).toInt8.toInt32 = nmIx (nI k) := by decide +kernel
theorem ce_no {c : Int32} (m : Mem) (h : c < 0 ∨ 255 < c) : f_J1_canEncode_9a6ad c m = some (0, m) := by
  unfold f_J1_canEncode_9a6ad
  rcases h with h | h
  · rw [if_pos h]; rfl
  · by_cases h0 : c < 0
    · rw [if_pos h0]; rfl
    · rw [if_neg h0, if_pos h]; rfl
theorem ce_yes {c : Int32} (m : Mem) (h : ¬ c < 0) (h2 : ¬ 255 < c) : f_J1_canEncode_9a6ad c m = some (1, m) := by
  unfold f_J1_canEncode_9a6ad
  rw [if_neg h, if_neg h2]; rfl
theorem nmIx_far {c : Int32} (h : c < 0 ∨ 255 < c) : nmIx c = -1 := by
  have hn : ∀ k : Int32, 0 ≤ k → k ≤ 255 → ¬ c = k := by
    intro k h1 h2 e
    subst e
    rcases h with h | h
    · exact absurd h1 (Int32.not_le.mpr h)
    · exact absurd h2 (Int32.not_le.mpr h)
  unfold nmIx
  rw [if_neg (hn _ (by decide) (by decide)), if_neg (hn _ (by decide) (by decide)), if_neg (hn _ (by decide) (by decide)), if_neg (hn _ (by decide) (by decide)), if_neg (hn _ (by decide) (by decide)), if_neg (hn _ (by decide) (by decide)), if_neg (hn _ (by decide) (by decide)), if_neg (hn _ (by decide) (by decide))]
theorem io_lat (c : Int32) (m : Mem) : f_J1_indexOf_4cfef c 0 8 m = some (nmIx c, m) := by
  unfold f_J1_indexOf_4cfef
  by_cases hc : c < 0 ∨ 255 < c
  · rw [ce_no m hc, nmIx_far hc]
    rfl
  · have h1 : ¬ c < 0 := fun h => hc (Or.inl h)
    have h2 : ¬ 255 < c := fun h => hc (Or.inr h)
    obtain ⟨e, hlt⟩ := nI_up (Int32.not_lt.mp h1)
    have hk : c.toNatClampNeg < 256 := by
      rw [← e] at h2
      have : ¬ 255 < c.toNatClampNeg := fun q => h2 (nI_lt (a := 255) (b := c.toNatClampNeg) q hlt)
      omega
    rw [ce_yes m h1 h2]
    show ((f_J1_indexOfChar_4cfef c 0 8 m).bind _) = _
    have : f_J1_indexOfChar_4cfef c 0 8 m = some (nmIx c, m) := by
      show wh f_J1_indexOfChar_4cfef_L7 (8, c.toInt8.toInt32, nI 0, m) = _
      rw [ioc, ← e, nmB_of _ hk]
    rw [this]
    rfl
theorem io_all (c : Int32) (m : Mem) : f_J0_indexOf_0f7a4 c m = some (nmIx c, m) := by
  have e1 : f_J0_isLatin1_aae02 m = some (1, m) := by
    unfold f_J0_isLatin1_aae02
    rw [if_neg (by decide), if_neg (by decide)]; rfl
  have e2 : f_J0_length_8abf5 m = some (8, m) := by
    unfold f_J0_length_8abf5 f_J0_coder_7d493
    rw [if_neg (by decide), show bb (0 : Int32) (some ((0 : Int32), m)) = some (0, m) from if_pos (by decide)]
    dsimp only [Option.bind]
    rw [show (8 : Int32) >>> ((0 : Int32) &&& 31) = 8 by decide]
  have h1 : f_J0_indexOf_7cf53 c 0 m = some (nmIx c, m) := by
    unfold f_J0_indexOf_7cf53
    rw [e1]
    dsimp only [Option.bind]
    rw [if_neg (by decide), e2]
    dsimp only [Option.bind]
    rw [io_lat]
  unfold f_J0_indexOf_0f7a4
  rw [h1]
  rfl
section
variable {g : Gx} {d : Nat} {mi : Mi} {pc pc' : Nat} {L : List (Option Value)} {st : List Value} {m : Mem} {Z : En}
theorem wm_indexOf {idx : Nat} {c : Int32} (hd : decode (miC mi) pc = .ok (.invokevirtual idx, 3)) (ok : OkV (miY mi).cls idx mi_J0_indexOf_0f7a4 1) (hdd : 10 ≤ d) (hcat : (st.map fun v => v.category).sum ≤ 8) (hp : pc + 3 = pc') (k : WpM g d mi pc' L (.int (nmIx c) :: st) m Z) : WpM g d mi pc L (.int c :: .ref 1200 :: st) m Z :=
  wm_callStr (T := Int32 × Mem) (t := (nmIx c, m)) (As := [.int c]) (rest := st) (K := fun q => some q) hd ok rfl (Nat.le_trans (by decide : _ ≤ 10) hdd) rfl hcat ⟨rfl, rfl⟩ hp (fun t h => o_J0_indexOf_0f7a4 h) (by rw [io_all]; rfl) (fun q hq => by
    cases hq
    exact k)
end
