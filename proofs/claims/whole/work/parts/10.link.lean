def mxI (x y : Int32) : Int32 := if x < y then y else x
def mnI (x y : Int32) : Int32 := if y < x then y else x
def abI (x : Int32) : Int32 := if 0 ≤ x then x else 0 - x
def MathOk (own : String) (idx : Nat) (y : MethodName) (c : ByteArray) (n : Nat) : Prop := Cond.methodLink own idx y ∈ TBg ∧ Cond.static y ∈ TBg ∧ Cond.initialized "java/lang/Math" ∈ TBg ∧ Cond.code y c n (some .int) ∈ TBg
theorem w_code {y : MethodName} {a b : ByteArray} {n : Nat} {r : Option FieldType} (h : Cond.code y a n r ∈ TBg) (e : a = b) : Cond.code y b n r ∈ TBg := e ▸ h
section
variable {g : Gx} {d : Nat} {mi : Mi} {pc pc' : Nat} {L : List (Option Value)} {st : List Value} {kc ks : Nat} {sh : Sh} {u : UI} {w : UL} {r : UR} {m : Mem} {Z : En} {T : Type} {t : T}
theorem wp_inc {j : Nat} {n : Int} {x : Int32} {c : Int32} {L' : List (Option Value)} (hd : decode (miC mi) pc = .ok (.iinc j n, 3)) (hl : L[j]? = some (some (.int x))) (hc : Int32.ofInt n = c) (hn : j < miL mi) (ho : okAt L j = true) (hL : L.set j (some (.int (x + c))) = L') (hp : pc + 3 = pc') (k : Wp g d mi pc' L' st kc ks sh u w r Z) : Wp g d mi pc L st kc ks sh u w r Z :=
  wp_iinc (v := x + c) hd hl (by rw [hc]) hn ho hL hp k
theorem wm_inc {j : Nat} {n : Int} {x : Int32} {c : Int32} {K : Int32 → Option T} (hd : decode (miC mi) pc = .ok (.iinc j n, 3)) (hl : L[j]? = some (some (.int x))) (hc : Int32.ofInt n = c) (hn : j < miL mi) (ho : okAt L j = true) (hp : pc + 3 = pc') (h : bnd (x + c) K = some t) (k : ∀ y, K y = some t → WpM g d mi pc' (L.set j (some (.int y))) st m Z) : WpM g d mi pc L st m Z :=
  wp_inc hd hl hc hn ho rfl hp (k _ h)
theorem wm_list {L' : List (Option Value)} (hL : L = L') (k : WpM g d mi pc L' st m Z) : WpM g d mi pc L st m Z := hL ▸ k
theorem wp_ldcw {i : Nat} {v : Int32} (hd : decode (miC mi) pc = .ok (.ldc_w i, 3)) (hw : Cond.constant (miY mi).cls i v ∈ TBg) (hp : pc + 3 = pc') (k : Wp g d mi pc' L (.int v :: st) kc ks sh u w r Z) : Wp g d mi pc L st kc ks sh u w r Z := by
  subst hp
  exact wp_pure (fun p e R s m args below meth c F H locs ls Z hl kk => lv_ldcw F.1.1 F.1.2.1 F.2.1.1 (F.2.1.2.1 _ hw) hd kk) k
/-- the letters' text, and where a letter stands in it -/
def nmIx (c : Int32) : Int32 := if c = 114 then 0 else if c = 118 then 1 else if c = 101 then 2 else if c = 110 then 3 else if c = 115 then 4 else if c = 116 then 5 else if c = 112 then 6 else if c = 108 then 7 else -1
theorem wm_gen {K : Mem → Option T} (h : bnd m K = some t) (kk : ∀ m1, K m1 = some t → WpM g d mi pc L st m1 Z) : WpM g d mi pc L st m Z := kk m h
def sB (m : Mem) : Mem := (m.1, m.2.1, !m.2.2)
def cI (m : Mem) (a : Nat) (sp : Int32) (b : Nat) (dp n : Int32) : Mem := ((fun q => if q = b then va_cpy (m.1 a) (m.1 b) sp.toNatClampNeg dp.toNatClampNeg n.toNatClampNeg else m.1 q), m.2)
def cJ (m : Mem) (a : Nat) (sp : Int32) (b : Nat) (dp n : Int32) : Mem := (m.1, (fun q => if q = b then va_cpy (m.2.1 a) (m.2.1 b) sp.toNatClampNeg dp.toNatClampNeg n.toNatClampNeg else m.2.1 q), m.2.2)
def cpk {T : Type} (sp dp n : Int32) (n0 n1 : Nat) (k : Option T) : Option T := if sp < 0 ∨ dp < 0 ∨ n < 0 ∨ n0 < sp.toNatClampNeg + n.toNatClampNeg ∨ n1 < dp.toNatClampNeg + n.toNatClampNeg then none else k
theorem cpk_s {sp dp n : Int32} {n0 n1 : Nat} {k : Option T} (h : cpk sp dp n n0 n1 k = some t) : (¬ sp < 0 ∧ ¬ dp < 0 ∧ ¬ n < 0 ∧ sp.toNatClampNeg + n.toNatClampNeg ≤ n0 ∧ dp.toNatClampNeg + n.toNatClampNeg ≤ n1) ∧ k = some t := by
  unfold cpk at h
  split at h
  · cases h
  · next hc =>
    simp only [not_or] at hc
    exact ⟨⟨hc.1, hc.2.1, hc.2.2.1, by omega, by omega⟩, h⟩
def CopyOk (own : String) (idx : Nat) : Prop := Cond.methodLink own idx arraycopyName ∈ TBg ∧ Cond.native arraycopyName ∈ TBg ∧ Cond.static arraycopyName ∈ TBg ∧ Cond.initialized "java/lang/System" ∈ TBg
theorem wm_copyI {idx a b n0 n1 : Nat} {sp dp n : Int32} {K : Mem → Option T} (hd : decode (miC mi) pc = .ok (.invokestatic idx, 3)) (hsa : shF[a]? = some (0, n0)) (hsb : shF[b]? = some (0, n1)) (ok : CopyOk (miY mi).cls idx) (hp : pc + 3 = pc') (h : cpk sp dp n n0 n1 (bnd (cI m a sp b dp n) K) = some t) (hdd : 1 ≤ d) (hcat : (st.map fun v => v.category).sum ≤ 8) (kk : ∀ m1, K m1 = some t → WpM g d mi pc' L st m1 Z) : WpM g d mi pc L (.int n :: .int dp :: .ref b :: .int sp :: .ref a :: st) m Z := by
  subst hp
  obtain ⟨⟨h1, h2, h3, h4, h5⟩, hk⟩ := cpk_s h
  intro p e R s m0 args below meth c F H locs ls hz hP hS hl
  have hts := F.2.1.2.1
  show W _ _ _ _ _ _ _ _ _ _ _ _ _ _ _ (F0 m0 pc ls (.int n :: .int dp :: .ref (gad g b) :: .int sp :: .ref (gad g a) :: st.map (tr g)))
  rw [gad_at hsa hz.2, gad_at hsb hz.2]
  refine va_copyi F.1.1 F.1.2.1 (F.1.2.2.1.trans hl.1.symm) F.2.1.1 (hts _ ok.1) (hts _ ok.2.1) (hts _ ok.2.2.1) (hts _ ok.2.2.2) F.2.1.2.2.1 hP w_D hS a b 0 0 (w_ws_at hsa) (w_ws_at hsb) rfl rfl rfl h1 h2 h3 h4 h5 (fun i hi => rfl) (Nat.le_trans hdd F.2.2.1) ?_ hd (fun H1 locs1 hP1 hD1 hS1 => ?_)
  · have h6 := F.2.2.2.1
    have h7 : (nativeFrameWords "java/lang/System" "arraycopy" 5 : Nat) ≤ 45 := by decide +kernel
    rw [w_sum]
    omega
  · rw [w_set (u' := (cI m a sp b dp n).1) (w' := m.2.1) (r' := rF m.2.2) hsb (by simp [w_e, cI]) (fun q hq => ⟨by simp [cI, hq], rfl, rfl⟩)] at hP1
    exact kk (cI m a sp b dp n) hk p e R s m0 args below meth c F H1 locs1 ls hz hP1 hS1 hl
theorem wm_copyJ {idx a b n0 n1 : Nat} {sp dp n : Int32} {K : Mem → Option T} (hd : decode (miC mi) pc = .ok (.invokestatic idx, 3)) (hsa : shF[a]? = some (1, n0)) (hsb : shF[b]? = some (1, n1)) (ok : CopyOk (miY mi).cls idx) (hp : pc + 3 = pc') (h : cpk sp dp n n0 n1 (bnd (cJ m a sp b dp n) K) = some t) (hdd : 1 ≤ d) (hcat : (st.map fun v => v.category).sum ≤ 8) (kk : ∀ m1, K m1 = some t → WpM g d mi pc' L st m1 Z) : WpM g d mi pc L (.int n :: .int dp :: .ref b :: .int sp :: .ref a :: st) m Z := by
  subst hp
  obtain ⟨⟨h1, h2, h3, h4, h5⟩, hk⟩ := cpk_s h
  intro p e R s m0 args below meth c F H locs ls hz hP hS hl
  have hts := F.2.1.2.1
  show W _ _ _ _ _ _ _ _ _ _ _ _ _ _ _ (F0 m0 pc ls (.int n :: .int dp :: .ref (gad g b) :: .int sp :: .ref (gad g a) :: st.map (tr g)))
  rw [gad_at hsa hz.2, gad_at hsb hz.2]
  refine va_copyl F.1.1 F.1.2.1 (F.1.2.2.1.trans hl.1.symm) F.2.1.1 (hts _ ok.1) (hts _ ok.2.1) (hts _ ok.2.2.1) (hts _ ok.2.2.2) F.2.1.2.2.1 hP w_D hS a b 1 1 (w_ws_at hsa) (w_ws_at hsb) rfl rfl rfl h1 h2 h3 h4 h5 (fun i hi => rfl) (Nat.le_trans hdd F.2.2.1) ?_ hd (fun H1 locs1 hP1 hD1 hS1 => ?_)
  · have h6 := F.2.2.2.1
    have h7 : (nativeFrameWords "java/lang/System" "arraycopy" 5 : Nat) ≤ 45 := by decide +kernel
    rw [w_sum]
    omega
  · rw [w_set (u' := m.1) (w' := (cJ m a sp b dp n).2.1) (r' := rF m.2.2) hsb (by simp [w_e, cJ]) (fun q hq => ⟨rfl, by simp [cJ, hq], rfl⟩)] at hP1
    exact kk (cJ m a sp b dp n) hk p e R s m0 args below meth c F H1 locs1 ls hz hP1 hS1 hl
theorem wp_mmax {idx : Nat} {x y : Int32} (hd : decode (miC mi) pc = .ok (.invokestatic idx, 3)) (ok : MathOk (miY mi).cls idx Lib.Math.max.name Lib.Math.max.code 2) (hdd : 1 ≤ d) (hk : kc ≤ miK mi ∧ ks ≤ miM mi) (hcat : (st.map fun v => v.category).sum ≤ 8) (hp : pc + 3 = pc') (k : Wp g d mi pc' L (.int (mxI x y) :: st) kc ks sh u w r Z) : Wp g d mi pc L (.int y :: .int x :: st) kc ks sh u w r Z := by
  subst hp
  intro p e R s m0 args below meth c F H locs ls hz hP hS hl
  have hts := F.2.1.2.1
  refine va_mmax F.1.1 F.1.2.1 (F.1.2.2.1.trans hl.1.symm) F.2.1.1 (hts _ ok.1) (hts _ ok.2.1) (hts _ ok.2.2.1) (hts _ ok.2.2.2) (Nat.le_trans hdd F.2.2.1) ?_ (Nat.le_trans hk.1 F.2.2.2.2.1) (Nat.le_trans hk.2 F.2.2.2.2.2) hd (k p e R s m0 args below meth c F H locs ls hz hP hS hl)
  have h6 := F.2.2.2.1
  rw [w_sum]
  omega
theorem wp_mmin {idx : Nat} {x y : Int32} (hd : decode (miC mi) pc = .ok (.invokestatic idx, 3)) (ok : MathOk (miY mi).cls idx Lib.Math.min.name Lib.Math.min.code 2) (hdd : 1 ≤ d) (hk : kc ≤ miK mi ∧ ks ≤ miM mi) (hcat : (st.map fun v => v.category).sum ≤ 8) (hp : pc + 3 = pc') (k : Wp g d mi pc' L (.int (mnI x y) :: st) kc ks sh u w r Z) : Wp g d mi pc L (.int y :: .int x :: st) kc ks sh u w r Z := by
  subst hp
  intro p e R s m0 args below meth c F H locs ls hz hP hS hl
  have hts := F.2.1.2.1
  refine va_mmin F.1.1 F.1.2.1 (F.1.2.2.1.trans hl.1.symm) F.2.1.1 (hts _ ok.1) (hts _ ok.2.1) (hts _ ok.2.2.1) (hts _ ok.2.2.2) (Nat.le_trans hdd F.2.2.1) ?_ (Nat.le_trans hk.1 F.2.2.2.2.1) (Nat.le_trans hk.2 F.2.2.2.2.2) hd (k p e R s m0 args below meth c F H locs ls hz hP hS hl)
  have h6 := F.2.2.2.1
  rw [w_sum]
  omega
theorem wp_mabs {idx : Nat} {x : Int32} (hd : decode (miC mi) pc = .ok (.invokestatic idx, 3)) (ok : MathOk (miY mi).cls idx Lib.Math.abs.name Lib.Math.abs.code 1) (hdd : 1 ≤ d) (hk : kc ≤ miK mi ∧ ks ≤ miM mi) (hcat : (st.map fun v => v.category).sum ≤ 8) (hp : pc + 3 = pc') (k : Wp g d mi pc' L (.int (abI x) :: st) kc ks sh u w r Z) : Wp g d mi pc L (.int x :: st) kc ks sh u w r Z := by
  subst hp
  intro p e R s m0 args below meth c F H locs ls hz hP hS hl
  have hts := F.2.1.2.1
  refine va_mabs F.1.1 F.1.2.1 (F.1.2.2.1.trans hl.1.symm) F.2.1.1 (hts _ ok.1) (hts _ ok.2.1) (hts _ ok.2.2.1) (hts _ ok.2.2.2) (Nat.le_trans hdd F.2.2.1) ?_ (Nat.le_trans hk.1 F.2.2.2.2.1) (Nat.le_trans hk.2 F.2.2.2.2.2) hd (k p e R s m0 args below meth c F H locs ls hz hP hS hl)
  have h6 := F.2.2.2.1
  rw [w_sum]
  omega
theorem wm_callSNN {idx d' : Nat} {mi' : Mi} {host : String} {As rest : List Value} {Fc : Option Mem} {K : Mem → Option T} (hd : decode (miC mi) pc = .ok (.invokestatic idx, 3)) (ok : OkSN (miY mi).cls idx mi' host As.length) (hdd : d' + 1 ≤ d) (hst : st = As.reverse ++ rest) (hcat : (rest.map fun v => v.category).sum ≤ 8) (hk : miK mi' = 0 ∧ miM mi' = 0) (hp : pc + 3 = pc')
    (hM : ∀ t', Fc = some t' → MxM g d' mi' As m (qV t')) (h : Fc.bind K = some t) (kk : ∀ q, K q = some t → WpM g d mi pc' L rest q Z) : WpM g d mi pc L st m Z := by
  obtain ⟨q, h1, h2⟩ := Option.bind_eq_some_iff.mp h
  subst hp
  refine wp_callSN hd ok (hM q h1) hdd hst hcat (by rw [hk.1]; exact Nat.zero_le _) (by rw [hk.2]; exact Nat.zero_le _) (fun v sh' u' w' r' hq => ?_)
  obtain ⟨e1, e2, e3, e4, e5⟩ := hq
  subst e1; subst e2; subst e3; subst e4; subst e5
  rw [hk.1, hk.2]
  exact kk q h2
theorem lsw_off {dflt : Int} : ∀ {l : List (Int × Int)} {cs : List (Int32 × Nat)}, l.map (·.1) = cs.map (fun q => q.1.toInt) → ∀ y : Int, (∀ q ∈ cs, ¬ y = q.1.toInt) → Op.lookupswitch.offset l dflt y = dflt
  | [], _, _, _, _ => rfl
  | (a, o) :: l, [], h, _, _ => by cases h
  | (a, o) :: l, q :: cs, h, y, hn => by
    have e : a = q.1.toInt := (List.cons.inj h).1
    rw [Op.lookupswitch.offset_cons, if_neg (fun z => hn q List.mem_cons_self (z.symm.trans e))]
    exact lsw_off (List.cons.inj h).2 y (fun q2 h2 => hn q2 (List.mem_cons_of_mem _ h2))
end
/-! CONSTANTS, METHODS, LINKS, FIELDS -/
theorem ib_m100 : (Int8.ofInt (-100)).toInt32 = (-100 : Int32) := by decide +kernel
theorem ib_m99 : (Int8.ofInt (-99)).toInt32 = (-99 : Int32) := by decide +kernel
theorem ib_m14 : (Int8.ofInt (-14)).toInt32 = (-14 : Int32) := by decide +kernel
theorem ib_m13 : (Int8.ofInt (-13)).toInt32 = (-13 : Int32) := by decide +kernel
theorem ib_m12 : (Int8.ofInt (-12)).toInt32 = (-12 : Int32) := by decide +kernel
theorem ib_m11 : (Int8.ofInt (-11)).toInt32 = (-11 : Int32) := by decide +kernel
theorem ib_m9 : (Int8.ofInt (-9)).toInt32 = (-9 : Int32) := by decide +kernel
theorem ib_m5 : (Int8.ofInt (-5)).toInt32 = (-5 : Int32) := by decide +kernel
theorem ib_m3 : (Int8.ofInt (-3)).toInt32 = (-3 : Int32) := by decide +kernel
theorem ib_m2 : (Int8.ofInt (-2)).toInt32 = (-2 : Int32) := by decide +kernel
theorem ib_6 : (Int8.ofInt (6)).toInt32 = (6 : Int32) := by decide +kernel
theorem ib_7 : (Int8.ofInt (7)).toInt32 = (7 : Int32) := by decide +kernel
theorem ib_8 : (Int8.ofInt (8)).toInt32 = (8 : Int32) := by decide +kernel
theorem ib_9 : (Int8.ofInt (9)).toInt32 = (9 : Int32) := by decide +kernel
theorem ib_10 : (Int8.ofInt (10)).toInt32 = (10 : Int32) := by decide +kernel
theorem ib_11 : (Int8.ofInt (11)).toInt32 = (11 : Int32) := by decide +kernel
theorem ib_16 : (Int8.ofInt (16)).toInt32 = (16 : Int32) := by decide +kernel
theorem ib_20 : (Int8.ofInt (20)).toInt32 = (20 : Int32) := by decide +kernel
theorem ib_22 : (Int8.ofInt (22)).toInt32 = (22 : Int32) := by decide +kernel
theorem ib_24 : (Int8.ofInt (24)).toInt32 = (24 : Int32) := by decide +kernel
theorem ib_30 : (Int8.ofInt (30)).toInt32 = (30 : Int32) := by decide +kernel
theorem ib_33 : (Int8.ofInt (33)).toInt32 = (33 : Int32) := by decide +kernel
theorem ib_36 : (Int8.ofInt (36)).toInt32 = (36 : Int32) := by decide +kernel
theorem ib_37 : (Int8.ofInt (37)).toInt32 = (37 : Int32) := by decide +kernel
theorem ib_38 : (Int8.ofInt (38)).toInt32 = (38 : Int32) := by decide +kernel
theorem ib_39 : (Int8.ofInt (39)).toInt32 = (39 : Int32) := by decide +kernel
theorem ib_40 : (Int8.ofInt (40)).toInt32 = (40 : Int32) := by decide +kernel
theorem ib_41 : (Int8.ofInt (41)).toInt32 = (41 : Int32) := by decide +kernel
theorem ib_42 : (Int8.ofInt (42)).toInt32 = (42 : Int32) := by decide +kernel
theorem ib_43 : (Int8.ofInt (43)).toInt32 = (43 : Int32) := by decide +kernel
theorem ib_45 : (Int8.ofInt (45)).toInt32 = (45 : Int32) := by decide +kernel
theorem ib_47 : (Int8.ofInt (47)).toInt32 = (47 : Int32) := by decide +kernel
theorem ib_48 : (Int8.ofInt (48)).toInt32 = (48 : Int32) := by decide +kernel
theorem ib_50 : (Int8.ofInt (50)).toInt32 = (50 : Int32) := by decide +kernel
theorem ib_51 : (Int8.ofInt (51)).toInt32 = (51 : Int32) := by decide +kernel
theorem ib_57 : (Int8.ofInt (57)).toInt32 = (57 : Int32) := by decide +kernel
theorem ib_59 : (Int8.ofInt (59)).toInt32 = (59 : Int32) := by decide +kernel
theorem ib_60 : (Int8.ofInt (60)).toInt32 = (60 : Int32) := by decide +kernel
theorem ib_61 : (Int8.ofInt (61)).toInt32 = (61 : Int32) := by decide +kernel
theorem ib_62 : (Int8.ofInt (62)).toInt32 = (62 : Int32) := by decide +kernel
theorem ib_63 : (Int8.ofInt (63)).toInt32 = (63 : Int32) := by decide +kernel
theorem ib_70 : (Int8.ofInt (70)).toInt32 = (70 : Int32) := by decide +kernel
theorem ib_80 : (Int8.ofInt (80)).toInt32 = (80 : Int32) := by decide +kernel
theorem ib_81 : (Int8.ofInt (81)).toInt32 = (81 : Int32) := by decide +kernel
theorem ib_99 : (Int8.ofInt (99)).toInt32 = (99 : Int32) := by decide +kernel
theorem ib_100 : (Int8.ofInt (100)).toInt32 = (100 : Int32) := by decide +kernel
theorem ib_120 : (Int8.ofInt (120)).toInt32 = (120 : Int32) := by decide +kernel
theorem ib_124 : (Int8.ofInt (124)).toInt32 = (124 : Int32) := by decide +kernel
theorem ic_m1 : Int32.ofInt (-1) = (-1 : Int32) := by decide +kernel
theorem ic_0 : Int32.ofInt (0) = (0 : Int32) := by decide +kernel
theorem ic_1 : Int32.ofInt (1) = (1 : Int32) := by decide +kernel
theorem ic_2 : Int32.ofInt (2) = (2 : Int32) := by decide +kernel
theorem ic_3 : Int32.ofInt (3) = (3 : Int32) := by decide +kernel
theorem ic_4 : Int32.ofInt (4) = (4 : Int32) := by decide +kernel
theorem ic_5 : Int32.ofInt (5) = (5 : Int32) := by decide +kernel
theorem ii_m1 : Int32.ofInt (-1) = (-1 : Int32) := by decide +kernel
theorem ii_1 : Int32.ofInt (1) = (1 : Int32) := by decide +kernel
theorem is_128 : (Int16.ofInt (128)).toInt32 = (128 : Int32) := by decide +kernel
theorem is_200 : (Int16.ofInt (200)).toInt32 = (200 : Int32) := by decide +kernel
theorem is_255 : (Int16.ofInt (255)).toInt32 = (255 : Int32) := by decide +kernel
theorem is_1000 : (Int16.ofInt (1000)).toInt32 = (1000 : Int32) := by decide +kernel
theorem is_1023 : (Int16.ofInt (1023)).toInt32 = (1023 : Int32) := by decide +kernel
theorem is_9999 : (Int16.ofInt (9999)).toInt32 = (9999 : Int32) := by decide +kernel
theorem is_10000 : (Int16.ofInt (10000)).toInt32 = (10000 : Int32) := by decide +kernel
theorem is_20000 : (Int16.ofInt (20000)).toInt32 = (20000 : Int32) := by decide +kernel
theorem is_20033 : (Int16.ofInt (20033)).toInt32 = (20033 : Int32) := by decide +kernel
theorem is_20038 : (Int16.ofInt (20038)).toInt32 = (20038 : Int32) := by decide +kernel
theorem is_20059 : (Int16.ofInt (20059)).toInt32 = (20059 : Int32) := by decide +kernel
theorem is_20063 : (Int16.ofInt (20063)).toInt32 = (20063 : Int32) := by decide +kernel
theorem is_20124 : (Int16.ofInt (20124)).toInt32 = (20124 : Int32) := by decide +kernel
theorem is_20126 : (Int16.ofInt (20126)).toInt32 = (20126 : Int32) := by decide +kernel
abbrev st_0 : List Int32 := [0, 0, 1]
abbrev st_1 : List Int32 := [5, 1, 9]
abbrev st_2 : List Int32 := [0, 0, 0, -99, 0]
abbrev st_3 : List Int32 := [9, 9, 99, 99, 9]
abbrev st_4 : List Int32 := [-1, 0, 0, 2, 0, 3, 0, 4]
abbrev st_5 : List Int32 := [1, 10, 11, 2, 20, 0, 0, 0, 0, 30, 0, 0, 0, 41, 40, 0, 0, 0, 50, 0, 0, 0, 0, 60, 70, 0, 0, 0, 0, 80, 0, 81]
abbrev mi_J0_coder_7d493 : Mi := (yJ0_coder_7d493, cJ0_coder_7d493, 1, (some .byte), 0, 0)
abbrev mi_J0_indexOf_0f7a4 : Mi := (yJ0_indexOf_0f7a4, cJ0_indexOf_0f7a4, 2, (some .int), 0, 0)
abbrev mi_J0_indexOf_7cf53 : Mi := (yJ0_indexOf_7cf53, cJ0_indexOf_7cf53, 3, (some .int), 0, 0)
abbrev mi_J0_isLatin1_aae02 : Mi := (yJ0_isLatin1_aae02, cJ0_isLatin1_aae02, 1, (some .boolean), 0, 0)
abbrev mi_J0_length_8abf5 : Mi := (yJ0_length_8abf5, cJ0_length_8abf5, 1, (some .int), 0, 0)
abbrev mi_J1_canEncode_9a6ad : Mi := (yJ1_canEncode_9a6ad, cJ1_canEncode_9a6ad, 1, (some .boolean), 0, 0)
abbrev mi_J1_indexOfChar_4cfef : Mi := (yJ1_indexOfChar_4cfef, cJ1_indexOfChar_4cfef, 6, (some .int), 0, 0)
abbrev mi_J1_indexOf_4cfef : Mi := (yJ1_indexOf_4cfef, cJ1_indexOf_4cfef, 4, (some .int), 0, 0)
abbrev mi_J6_bitCount_0f7a4 : Mi := (yJ6_bitCount_0f7a4, cJ6_bitCount_0f7a4, 1, (some .int), 0, 0)
abbrev mi_J7_fill_53178 : Mi := (yJ7_fill_53178, cJ7_fill_53178, 4, none, 0, 0)
abbrev mi_J7_fill_d0a16 : Mi := (yJ7_fill_d0a16, cJ7_fill_d0a16, 5, none, 0, 0)
abbrev mi_X0_addBody : Mi := (yX0_addBody, cX0_addBody, 2, (some .int), 0, 0)
abbrev mi_X0_begin : Mi := (yX0_begin, cX0_begin, 4, (some .int), 0, 0)
abbrev mi_X0_isUnder : Mi := (yX0_isUnder, cX0_isUnder, 4, (some .boolean), 0, 0)
abbrev mi_X0_kindOf : Mi := (yX0_kindOf, cX0_kindOf, 2, (some .int), 0, 0)
abbrev mi_X0_mark : Mi := (yX0_mark, cX0_mark, 2, none, 0, 0)
abbrev mi_X0_run : Mi := (yX0_run, cX0_run, 9, (some .int), 0, 0)
abbrev mi_X1_dropOldest : Mi := (yX1_dropOldest, cX1_dropOldest, 1, none, 0, 0)
abbrev mi_X1_goBack : Mi := (yX1_goBack, cX1_goBack, 1, (some .boolean), 0, 0)
abbrev mi_X1_goOn : Mi := (yX1_goOn, cX1_goOn, 1, (some .boolean), 0, 0)
abbrev mi_X1_note : Mi := (yX1_note, cX1_note, 5, none, 0, 0)
abbrev mi_X2_bit : Mi := (yX2_bit, cX2_bit, 1, (some .int), 0, 0)
abbrev mi_X2_emit : Mi := (yX2_emit, cX2_emit, 2, none, 0, 0)
abbrev mi_X2_enact : Mi := (yX2_enact, cX2_enact, 2, (some .int), 0, 0)
abbrev mi_X2_isDigit : Mi := (yX2_isDigit, cX2_isDigit, 1, (some .boolean), 0, 0)
abbrev mi_X2_isFull : Mi := (yX2_isFull, cX2_isFull, 1, (some .boolean), 0, 0)
abbrev mi_X2_joined : Mi := (yX2_joined, cX2_joined, 3, (some .int), 0, 0)
abbrev mi_X2_next : Mi := (yX2_next, cX2_next, 1, (some .int), 0, 0)
abbrev mi_X2_readBoth : Mi := (yX2_readBoth, cX2_readBoth, 3, none, 0, 0)
abbrev mi_X2_readCompared : Mi := (yX2_readCompared, cX2_readCompared, 3, none, 0, 0)
abbrev mi_X2_readEither : Mi := (yX2_readEither, cX2_readEither, 3, none, 0, 0)
abbrev mi_X2_readLine : Mi := (yX2_readLine, cX2_readLine, 1, none, 0, 0)
abbrev mi_X2_readNumber : Mi := (yX2_readNumber, cX2_readNumber, 3, none, 0, 0)
abbrev mi_X2_readOpened : Mi := (yX2_readOpened, cX2_readOpened, 3, none, 0, 0)
abbrev mi_X2_readOperand : Mi := (yX2_readOperand, cX2_readOperand, 4, none, 0, 0)
abbrev mi_X2_readProduct : Mi := (yX2_readProduct, cX2_readProduct, 4, none, 0, 0)
abbrev mi_X2_readSum : Mi := (yX2_readSum, cX2_readSum, 4, none, 0, 0)
abbrev mi_X2_refuse : Mi := (yX2_refuse, cX2_refuse, 1, none, 0, 0)
abbrev mi_X2_value : Mi := (yX2_value, cX2_value, 6, (some .int), 0, 0)
abbrev mi_X2_write : Mi := (yX2_write, cX2_write, 2, (some .int), 0, 0)
abbrev mi_X3_byTurns : Mi := (yX3_byTurns, cX3_byTurns, 3, (some .int), 0, 0)
abbrev mi_X3_cardsThere : Mi := (yX3_cardsThere, cX3_cardsThere, 3, (some .int), 0, 0)
abbrev mi_X3_chiefLast : Mi := (yX3_chiefLast, cX3_chiefLast, 3, (some .int), 0, 0)
abbrev mi_X3_clear : Mi := (yX3_clear, cX3_clear, 1, none, 0, 0)
abbrev mi_X3_cost : Mi := (yX3_cost, cX3_cost, 3, (some .int), 0, 0)
abbrev mi_X3_decided : Mi := (yX3_decided, cX3_decided, 1, (some .int), 0, 0)
abbrev mi_X3_discuss : Mi := (yX3_discuss, cX3_discuss, 4, none, 0, 0)
abbrev mi_X3_hold : Mi := (yX3_hold, cX3_hold, 6, none, 0, 0)
abbrev mi_X3_isThere : Mi := (yX3_isThere, cX3_isThere, 2, (some .boolean), 0, 0)
abbrev mi_X3_lengthOf : Mi := (yX3_lengthOf, cX3_lengthOf, 3, (some .int), 0, 0)
abbrev mi_X3_lowestBits : Mi := (yX3_lowestBits, cX3_lowestBits, 4, (some .int), 0, 0)
abbrev mi_X3_lowestPlace : Mi := (yX3_lowestPlace, cX3_lowestPlace, 1, (some .int), 0, 0)
abbrev mi_X3_minutesThere : Mi := (yX3_minutesThere, cX3_minutesThere, 2, (some .int), 0, 0)
abbrev mi_X3_namesOf : Mi := (yX3_namesOf, cX3_namesOf, 3, (some (.array .int)), 0, 0)
abbrev mi_X3_nextSpeaker : Mi := (yX3_nextSpeaker, cX3_nextSpeaker, 1, (some .int), 0, 0)
abbrev mi_X3_sayFirst : Mi := (yX3_sayFirst, cX3_sayFirst, 5, none, 0, 0)
abbrev mi_X3_speak : Mi := (yX3_speak, cX3_speak, 11, none, 0, 0)
abbrev mi_X3_weigh : Mi := (yX3_weigh, cX3_weigh, 3, none, 0, 0)
abbrev mi_X3_whoSpokeLeast : Mi := (yX3_whoSpokeLeast, cX3_whoSpokeLeast, 3, (some .int), 0, 0)
abbrev mi_X3_whoStops : Mi := (yX3_whoStops, cX3_whoStops, 3, (some .int), 0, 0)
abbrev mi_X3_whoWishesMost : Mi := (yX3_whoWishesMost, cX3_whoWishesMost, 4, (some .int), 0, 0)
abbrev mi_X3_writeDown : Mi := (yX3_writeDown, cX3_writeDown, 3, none, 0, 0)
abbrev mi_X3_writeLog : Mi := (yX3_writeLog, cX3_writeLog, 8, none, 0, 0)
abbrev mi_X3_wrong : Mi := (yX3_wrong, cX3_wrong, 1, (some .int), 0, 0)
abbrev mi_X4_hadCard : Mi := (yX4_hadCard, cX4_hadCard, 2, (some .boolean), 0, 0)
abbrev mi_X4_hadPerson : Mi := (yX4_hadPerson, cX4_hadPerson, 2, (some .boolean), 0, 0)
abbrev mi_X4_hadThing : Mi := (yX4_hadThing, cX4_hadThing, 2, (some .boolean), 0, 0)
abbrev mi_X4_hold : Mi := (yX4_hold, cX4_hold, 2, (some .int), 0, 0)
abbrev mi_X4_minutesByWorth : Mi := (yX4_minutesByWorth, cX4_minutesByWorth, 2, (some .int), 0, 0)
abbrev mi_X4_needed : Mi := (yX4_needed, cX4_needed, 3, (some .int), 0, 0)
abbrev mi_X4_ofPerson : Mi := (yX4_ofPerson, cX4_ofPerson, 3, (some .int), 0, 0)
abbrev mi_X4_shed : Mi := (yX4_shed, cX4_shed, 3, (some .int), 0, 0)
abbrev mi_X4_summarize : Mi := (yX4_summarize, cX4_summarize, 2, none, 0, 0)
abbrev mi_X4_takesOrder : Mi := (yX4_takesOrder, cX4_takesOrder, 6, (some .boolean), 0, 0)
abbrev mi_X5_hasRun : Mi := (yX5_hasRun, cX5_hasRun, 3, (some .boolean), 0, 0)
abbrev mi_X5_holdBody : Mi := (yX5_holdBody, cX5_holdBody, 2, none, 0, 0)
abbrev mi_X5_holdRow : Mi := (yX5_holdRow, cX5_holdRow, 3, none, 0, 0)
abbrev mi_X5_refusalAt : Mi := (yX5_refusalAt, cX5_refusalAt, 2, (some .int), 0, 0)
abbrev mi_X5_store : Mi := (yX5_store, cX5_store, 4, none, 0, 0)
abbrev mi_X6_addCard : Mi := (yX6_addCard, cX6_addCard, 5, (some .int), 0, 0)
abbrev mi_X6_addCards : Mi := (yX6_addCards, cX6_addCards, 9, (some .int), 0, 0)
abbrev mi_X6_addPerson : Mi := (yX6_addPerson, cX6_addPerson, 3, (some .int), 0, 0)
abbrev mi_X6_addThing : Mi := (yX6_addThing, cX6_addThing, 3, (some .int), 0, 0)
abbrev mi_X6_aloneCards : Mi := (yX6_aloneCards, cX6_aloneCards, 3, (some .int), 0, 0)
abbrev mi_X6_change : Mi := (yX6_change, cX6_change, 4, none, 0, 0)
abbrev mi_X6_decided : Mi := (yX6_decided, cX6_decided, 4, (some .int), 0, 0)
abbrev mi_X6_isBare : Mi := (yX6_isBare, cX6_isBare, 1, (some .boolean), 0, 0)
abbrev mi_X6_isCard : Mi := (yX6_isCard, cX6_isCard, 4, (some .boolean), 0, 0)
abbrev mi_X6_knownCards : Mi := (yX6_knownCards, cX6_knownCards, 3, (some .int), 0, 0)
abbrev mi_X6_mendable : Mi := (yX6_mendable, cX6_mendable, 2, (some (.array .int)), 0, 0)
abbrev mi_X6_ofCard : Mi := (yX6_ofCard, cX6_ofCard, 3, (some .int), 0, 0)
abbrev mi_X6_ofPerson : Mi := (yX6_ofPerson, cX6_ofPerson, 3, (some .int), 0, 0)
abbrev mi_X6_sum : Mi := (yX6_sum, cX6_sum, 5, (some .int), 0, 0)
abbrev mi_X7_answer : Mi := (yX7_answer, cX7_answer, 3, (some .int), 0, 0)
abbrev mi_X7_compare : Mi := (yX7_compare, cX7_compare, 6, none, 0, 0)
abbrev mi_X7_digits : Mi := (yX7_digits, cX7_digits, 3, (some .int), 0, 0)
abbrev mi_X7_isShown : Mi := (yX7_isShown, cX7_isShown, 3, (some .boolean), 0, 0)
abbrev mi_X7_nextOrder : Mi := (yX7_nextOrder, cX7_nextOrder, 5, (some .boolean), 0, 0)
abbrev mi_X7_rulesOf : Mi := (yX7_rulesOf, cX7_rulesOf, 4, (some .int), 0, 0)
abbrev mi_X7_swap : Mi := (yX7_swap, cX7_swap, 4, none, 0, 0)
abbrev mi_X7_tryOrders : Mi := (yX7_tryOrders, cX7_tryOrders, 3, none, 0, 0)
abbrev mi_X7_tryRules : Mi := (yX7_tryRules, cX7_tryRules, 2, none, 0, 0)
abbrev mi_X7_tryTimers : Mi := (yX7_tryTimers, cX7_tryTimers, 2, none, 0, 0)
abbrev mi_X7_wishNow : Mi := (yX7_wishNow, cX7_wishNow, 3, (some .int), 0, 0)
abbrev mi_X8_act : Mi := (yX8_act, cX8_act, 4, (some .int), 0, 0)
abbrev mi_X8_asTheyCame : Mi := (yX8_asTheyCame, cX8_asTheyCame, 2, none, 0, 0)
abbrev mi_X8_body : Mi := (yX8_body, cX8_body, 2, (some .int), 0, 0)
abbrev mi_X8_card : Mi := (yX8_card, cX8_card, 4, (some .int), 0, 0)
abbrev mi_X8_cards : Mi := (yX8_cards, cX8_cards, 5, (some .int), 0, 0)
abbrev mi_X8_count : Mi := (yX8_count, cX8_count, 2, (some .int), 0, 0)
abbrev mi_X8_did : Mi := (yX8_did, cX8_did, 3, (some .int), 0, 0)
abbrev mi_X8_element : Mi := (yX8_element, cX8_element, 3, (some .long), 0, 0)
abbrev mi_X8_feed : Mi := (yX8_feed, cX8_feed, 2, (some .int), 0, 0)
abbrev mi_X8_film : Mi := (yX8_film, cX8_film, 3, (some .int), 0, 0)
abbrev mi_X8_first : Mi := (yX8_first, cX8_first, 3, (some .int), 0, 0)
abbrev mi_X8_isNoShelf : Mi := (yX8_isNoShelf, cX8_isNoShelf, 1, (some .boolean), 0, 0)
abbrev mi_X8_keep : Mi := (yX8_keep, cX8_keep, 3, (some .int), 0, 0)
abbrev mi_X8_law : Mi := (yX8_law, cX8_law, 2, (some .int), 0, 0)
abbrev mi_X8_meet : Mi := (yX8_meet, cX8_meet, 2, (some .int), 0, 0)
abbrev mi_X8_mend : Mi := (yX8_mend, cX8_mend, 5, (some .int), 0, 0)
abbrev mi_X8_of : Mi := (yX8_of, cX8_of, 3, (some .int), 0, 0)
abbrev mi_X8_order : Mi := (yX8_order, cX8_order, 2, (some .int), 0, 0)
abbrev mi_X8_person : Mi := (yX8_person, cX8_person, 3, (some .int), 0, 0)
abbrev mi_X8_put : Mi := (yX8_put, cX8_put, 6, (some .int), 0, 0)
abbrev mi_X8_redo : Mi := (yX8_redo, cX8_redo, 2, (some .int), 0, 0)
abbrev mi_X8_row : Mi := (yX8_row, cX8_row, 4, (some .int), 0, 0)
abbrev mi_X8_rule : Mi := (yX8_rule, cX8_rule, 2, (some .int), 0, 0)
abbrev mi_X8_saying : Mi := (yX8_saying, cX8_saying, 3, (some .int), 0, 0)
abbrev mi_X8_set : Mi := (yX8_set, cX8_set, 4, (some .int), 0, 0)
abbrev mi_X8_shift : Mi := (yX8_shift, cX8_shift, 8, (some .int), 0, 0)
abbrev mi_X8_taken : Mi := (yX8_taken, cX8_taken, 5, (some .int), 0, 0)
abbrev mi_X8_thing : Mi := (yX8_thing, cX8_thing, 3, (some .int), 0, 0)
abbrev mi_X8_times : Mi := (yX8_times, cX8_times, 2, (some .int), 0, 0)
abbrev mi_X8_told : Mi := (yX8_told, cX8_told, 2, (some .int), 0, 0)
abbrev mi_X8_took : Mi := (yX8_took, cX8_took, 3, (some .int), 0, 0)
abbrev mi_X8_trace : Mi := (yX8_trace, cX8_trace, 2, (some .int), 0, 0)
abbrev mi_X8_undo : Mi := (yX8_undo, cX8_undo, 2, (some .int), 0, 0)
abbrev mi_X8_wish : Mi := (yX8_wish, cX8_wish, 3, (some .int), 0, 0)
abbrev mi_X9_above : Mi := (yX9_above, cX9_above, 1, (some .int), 0, 0)
abbrev mi_X9_act : Mi := (yX9_act, cX9_act, 4, (some .int), 0, 0)
abbrev mi_X9_adds : Mi := (yX9_adds, cX9_adds, 4, none, 0, 0)
abbrev mi_X9_aloneSaid : Mi := (yX9_aloneSaid, cX9_aloneSaid, 4, (some .int), 0, 0)
abbrev mi_X9_asSort : Mi := (yX9_asSort, cX9_asSort, 3, (some .long), 0, 0)
abbrev mi_X9_becomes : Mi := (yX9_becomes, cX9_becomes, 5, (some .int), 0, 0)
abbrev mi_X9_begins : Mi := (yX9_begins, cX9_begins, 2, none, 0, 0)
abbrev mi_X9_bestTold : Mi := (yX9_bestTold, cX9_bestTold, 2, (some .int), 0, 0)
abbrev mi_X9_bitsOf : Mi := (yX9_bitsOf, cX9_bitsOf, 3, (some .int), 0, 0)
abbrev mi_X9_body : Mi := (yX9_body, cX9_body, 2, (some .int), 0, 0)
abbrev mi_X9_both : Mi := (yX9_both, cX9_both, 3, (some .int), 0, 0)
abbrev mi_X9_byTurns : Mi := (yX9_byTurns, cX9_byTurns, 3, (some .int), 0, 0)
abbrev mi_X9_byteAt : Mi := (yX9_byteAt, cX9_byteAt, 1, (some .int), 0, 0)
abbrev mi_X9_card : Mi := (yX9_card, cX9_card, 4, (some .int), 0, 0)
abbrev mi_X9_cards : Mi := (yX9_cards, cX9_cards, 7, (some .int), 0, 0)
abbrev mi_X9_chiefLast : Mi := (yX9_chiefLast, cX9_chiefLast, 3, (some .int), 0, 0)
abbrev mi_X9_comesTo : Mi := (yX9_comesTo, cX9_comesTo, 4, (some .int), 0, 0)
abbrev mi_X9_compared : Mi := (yX9_compared, cX9_compared, 4, (some .int), 0, 0)
abbrev mi_X9_cost : Mi := (yX9_cost, cX9_cost, 3, (some .int), 0, 0)
abbrev mi_X9_count : Mi := (yX9_count, cX9_count, 2, (some .int), 0, 0)
abbrev mi_X9_decided : Mi := (yX9_decided, cX9_decided, 3, (some .int), 0, 0)
abbrev mi_X9_decidesAs : Mi := (yX9_decidesAs, cX9_decidesAs, 4, (some .int), 0, 0)
abbrev mi_X9_did : Mi := (yX9_did, cX9_did, 8, (some .int), 0, 0)
abbrev mi_X9_either : Mi := (yX9_either, cX9_either, 3, (some .int), 0, 0)
abbrev mi_X9_element : Mi := (yX9_element, cX9_element, 3, (some .long), 0, 0)
abbrev mi_X9_feed : Mi := (yX9_feed, cX9_feed, 2, (some .int), 0, 0)
abbrev mi_X9_film : Mi := (yX9_film, cX9_film, 6, (some .int), 0, 0)
abbrev mi_X9_first : Mi := (yX9_first, cX9_first, 3, (some .int), 0, 0)
abbrev mi_X9_goesOrders : Mi := (yX9_goesOrders, cX9_goesOrders, 5, none, 0, 0)
abbrev mi_X9_heldBack : Mi := (yX9_heldBack, cX9_heldBack, 4, (some .int), 0, 0)
abbrev mi_X9_isAlone : Mi := (yX9_isAlone, cX9_isAlone, 2, (some .boolean), 0, 0)
abbrev mi_X9_isBody : Mi := (yX9_isBody, cX9_isBody, 2, (some .boolean), 0, 0)
abbrev mi_X9_isCard : Mi := (yX9_isCard, cX9_isCard, 2, (some .boolean), 0, 0)
abbrev mi_X9_isDigit1 : Mi := (yX9_isDigit1, cX9_isDigit1, 1, (some .boolean), 0, 0)
abbrev mi_X9_isKnown : Mi := (yX9_isKnown, cX9_isKnown, 2, (some .boolean), 0, 0)
abbrev mi_X9_isOne : Mi := (yX9_isOne, cX9_isOne, 7, (some .boolean), 0, 0)
abbrev mi_X9_isOrder : Mi := (yX9_isOrder, cX9_isOrder, 6, (some .boolean), 0, 0)
abbrev mi_X9_isPerson : Mi := (yX9_isPerson, cX9_isPerson, 2, (some .boolean), 0, 0)
abbrev mi_X9_isSaid : Mi := (yX9_isSaid, cX9_isSaid, 2, (some .boolean), 0, 0)
abbrev mi_X9_isShelf : Mi := (yX9_isShelf, cX9_isShelf, 1, (some .boolean), 0, 0)
abbrev mi_X9_isTable : Mi := (yX9_isTable, cX9_isTable, 1, (some .boolean), 0, 0)
abbrev mi_X9_isThere : Mi := (yX9_isThere, cX9_isThere, 2, (some .boolean), 0, 0)
abbrev mi_X9_isThing : Mi := (yX9_isThing, cX9_isThing, 2, (some .boolean), 0, 0)
abbrev mi_X9_isWorth : Mi := (yX9_isWorth, cX9_isWorth, 1, (some .boolean), 0, 0)
abbrev mi_X9_keep : Mi := (yX9_keep, cX9_keep, 3, (some .int), 0, 0)
abbrev mi_X9_keepsRows : Mi := (yX9_keepsRows, cX9_keepsRows, 2, none, 0, 0)
abbrev mi_X9_kindOf : Mi := (yX9_kindOf, cX9_kindOf, 2, (some .int), 0, 0)
abbrev mi_X9_knows : Mi := (yX9_knows, cX9_knows, 3, (some .boolean), 0, 0)
abbrev mi_X9_knowsAs : Mi := (yX9_knowsAs, cX9_knowsAs, 3, (some .int), 0, 0)
abbrev mi_X9_law : Mi := (yX9_law, cX9_law, 4, (some .int), 0, 0)
abbrev mi_X9_leastSpoken : Mi := (yX9_leastSpoken, cX9_leastSpoken, 4, (some .int), 0, 0)
abbrev mi_X9_looksAt : Mi := (yX9_looksAt, cX9_looksAt, 4, none, 0, 0)
abbrev mi_X9_meet : Mi := (yX9_meet, cX9_meet, 3, (some .int), 0, 0)
abbrev mi_X9_meets : Mi := (yX9_meets, cX9_meets, 2, none, 0, 0)
abbrev mi_X9_mend : Mi := (yX9_mend, cX9_mend, 4, (some .int), 0, 0)
abbrev mi_X9_mostWishing : Mi := (yX9_mostWishing, cX9_mostWishing, 5, (some .int), 0, 0)
abbrev mi_X9_nameOf : Mi := (yX9_nameOf, cX9_nameOf, 1, (some .int), 0, 0)
abbrev mi_X9_nextSpeaker : Mi := (yX9_nextSpeaker, cX9_nextSpeaker, 1, (some .int), 0, 0)
abbrev mi_X9_of : Mi := (yX9_of, cX9_of, 3, (some .int), 0, 0)
abbrev mi_X9_one : Mi := (yX9_one, cX9_one, 5, (some .int), 0, 0)
abbrev mi_X9_oneThing : Mi := (yX9_oneThing, cX9_oneThing, 4, none, 0, 0)
abbrev mi_X9_order : Mi := (yX9_order, cX9_order, 2, (some .int), 0, 0)
abbrev mi_X9_person : Mi := (yX9_person, cX9_person, 3, (some .int), 0, 0)
abbrev mi_X9_plain : Mi := (yX9_plain, cX9_plain, 2, none, 0, 0)
abbrev mi_X9_product : Mi := (yX9_product, cX9_product, 4, (some .int), 0, 0)
abbrev mi_X9_put : Mi := (yX9_put, cX9_put, 6, (some .int), 0, 0)
abbrev mi_X9_putsPaper : Mi := (yX9_putsPaper, cX9_putsPaper, 4, none, 0, 0)
abbrev mi_X9_redo : Mi := (yX9_redo, cX9_redo, 1, (some .int), 0, 0)
abbrev mi_X9_refusal : Mi := (yX9_refusal, cX9_refusal, 3, (some .int), 0, 0)
abbrev mi_X9_row : Mi := (yX9_row, cX9_row, 5, (some .int), 0, 0)
abbrev mi_X9_rule : Mi := (yX9_rule, cX9_rule, 3, (some .int), 0, 0)
abbrev mi_X9_saying : Mi := (yX9_saying, cX9_saying, 3, (some .int), 0, 0)
abbrev mi_X9_saysAgain : Mi := (yX9_saysAgain, cX9_saysAgain, 4, (some .int), 0, 0)
abbrev mi_X9_saysNew : Mi := (yX9_saysNew, cX9_saysNew, 7, (some .int), 0, 0)
abbrev mi_X9_set : Mi := (yX9_set, cX9_set, 4, (some .int), 0, 0)
abbrev mi_X9_shed : Mi := (yX9_shed, cX9_shed, 3, (some .int), 0, 0)
abbrev mi_X9_shift : Mi := (yX9_shift, cX9_shift, 7, (some .int), 0, 0)
abbrev mi_X9_shouldBe : Mi := (yX9_shouldBe, cX9_shouldBe, 5, (some .int), 0, 0)
abbrev mi_X9_size : Mi := (yX9_size, cX9_size, 1, (some .int), 0, 0)
abbrev mi_X9_speaks : Mi := (yX9_speaks, cX9_speaks, 7, none, 0, 0)
abbrev mi_X9_speaksAs : Mi := (yX9_speaksAs, cX9_speaksAs, 4, (some .int), 0, 0)
abbrev mi_X9_stopper : Mi := (yX9_stopper, cX9_stopper, 4, (some .int), 0, 0)
abbrev mi_X9_stopsAs : Mi := (yX9_stopsAs, cX9_stopsAs, 4, (some .int), 0, 0)
abbrev mi_X9_sums : Mi := (yX9_sums, cX9_sums, 4, (some .int), 0, 0)
abbrev mi_X9_taken : Mi := (yX9_taken, cX9_taken, 4, (some .int), 0, 0)
abbrev mi_X9_takes : Mi := (yX9_takes, cX9_takes, 2, (some .boolean), 0, 0)
abbrev mi_X9_thereFor : Mi := (yX9_thereFor, cX9_thereFor, 2, (some .int), 0, 0)
abbrev mi_X9_thing : Mi := (yX9_thing, cX9_thing, 3, (some .int), 0, 0)
abbrev mi_X9_times : Mi := (yX9_times, cX9_times, 3, (some .int), 0, 0)
abbrev mi_X9_told : Mi := (yX9_told, cX9_told, 2, (some .int), 0, 0)
abbrev mi_X9_took : Mi := (yX9_took, cX9_took, 3, (some .int), 0, 0)
abbrev mi_X9_trace : Mi := (yX9_trace, cX9_trace, 2, (some .int), 0, 0)
abbrev mi_X9_undo : Mi := (yX9_undo, cX9_undo, 1, (some .int), 0, 0)
abbrev mi_X9_unsaid : Mi := (yX9_unsaid, cX9_unsaid, 5, (some .int), 0, 0)
abbrev mi_X9_wish : Mi := (yX9_wish, cX9_wish, 5, (some .int), 0, 0)
abbrev mi_X9_wishOf : Mi := (yX9_wishOf, cX9_wishOf, 9, (some .int), 0, 0)
abbrev mi_X9_wishes : Mi := (yX9_wishes, cX9_wishes, 2, (some .boolean), 0, 0)
abbrev mi_X9_within : Mi := (yX9_within, cX9_within, 6, (some .boolean), 0, 0)
abbrev mi_X9_workOut : Mi := (yX9_workOut, cX9_workOut, 8, (some .int), 0, 0)
abbrev mi_X9_wrong : Mi := (yX9_wrong, cX9_wrong, 1, (some .int), 0, 0)
abbrev mi_X9_wrongMany : Mi := (yX9_wrongMany, cX9_wrongMany, 1, (some .int), 0, 0)
theorem pn_X8 : plainName "SpeaksInTurn" = true := by decide +kernel
theorem pn_X0 : plainName "SpeaksInTurn$Acts" = true := by decide +kernel
theorem pn_X1 : plainName "SpeaksInTurn$Changes" = true := by decide +kernel
theorem pn_X2 : plainName "SpeaksInTurn$Law" = true := by decide +kernel
theorem pn_X3 : plainName "SpeaksInTurn$Meeting" = true := by decide +kernel
theorem pn_X4 : plainName "SpeaksInTurn$Minutes" = true := by decide +kernel
theorem pn_X5 : plainName "SpeaksInTurn$Shelf" = true := by decide +kernel
theorem pn_X6 : plainName "SpeaksInTurn$Table" = true := by decide +kernel
theorem pn_X7 : plainName "SpeaksInTurn$Thought" = true := by decide +kernel
theorem pn_X9 : plainName "SpeaksInTurnModel" = true := by decide +kernel
theorem pn_J6 : plainName "java/lang/Integer" = true := by decide +kernel
theorem pn_J0 : plainName "java/lang/String" = true := by decide +kernel
theorem pn_J1 : plainName "java/lang/StringLatin1" = true := by decide +kernel
theorem pn_J7 : plainName "java/util/Arrays" = true := by decide +kernel
theorem ok_J0_335 : OkV "java/lang/String" 335 mi_J0_coder_7d493 0 := ⟨⟨q618, q619, q620, q111, q621⟩, ⟨by decide +kernel, by decide +kernel, by decide +kernel⟩, by decide⟩
theorem ok_J0_492 : OkV "java/lang/String" 492 mi_J0_isLatin1_aae02 0 := ⟨⟨q608, q609, q610, q111, q611⟩, ⟨by decide +kernel, by decide +kernel, by decide +kernel⟩, by decide⟩
theorem ok_J0_505 : OkV "java/lang/String" 505 mi_J0_length_8abf5 0 := ⟨⟨q614, q615, q616, q111, q617⟩, ⟨by decide +kernel, by decide +kernel, by decide +kernel⟩, by decide⟩
theorem ok_J0_633 : OkV "java/lang/String" 633 mi_J0_indexOf_7cf53 2 := ⟨⟨q604, q605, q606, q111, q607⟩, ⟨by decide +kernel, by decide +kernel, by decide +kernel⟩, by decide⟩
theorem ok_J0_637 : OkS "java/lang/String" 637 mi_J1_indexOf_4cfef 4 := ⟨⟨q622, q623, q112, q624⟩, ⟨by decide +kernel, by decide +kernel, by decide +kernel⟩, by decide⟩
theorem ok_J1_38 : MathOk "java/lang/StringLatin1" 38 Lib.Math.min.name Lib.Math.min.code 2 := ⟨q631, q632, q113, w_code q633 (by decide +kernel)⟩
theorem ok_J1_88 : OkS "java/lang/StringLatin1" 88 mi_J1_canEncode_9a6ad 1 := ⟨⟨q625, q626, q112, q627⟩, ⟨by decide +kernel, by decide +kernel, by decide +kernel⟩, by decide⟩
theorem ok_J1_92 : MathOk "java/lang/StringLatin1" 92 Lib.Math.max.name Lib.Math.max.code 2 := ⟨q628, q629, q113, w_code q630 (by decide +kernel)⟩
theorem ok_J1_95 : OkS "java/lang/StringLatin1" 95 mi_J1_indexOfChar_4cfef 4 := ⟨⟨q634, q635, q112, q636⟩, ⟨by decide +kernel, by decide +kernel, by decide +kernel⟩, by decide⟩
theorem ok_X0_26 : OkV "SpeaksInTurn$Acts" 26 mi_X0_kindOf 1 := ⟨⟨q1071, q1072, q1073, q108, q1074⟩, ⟨by decide +kernel, by decide +kernel, by decide +kernel⟩, by decide⟩
theorem ok_X0_33 : OkV "SpeaksInTurn$Acts" 33 mi_X0_run 4 := ⟨⟨q1075, q1077, q38, q108, q1078⟩, ⟨by decide +kernel, by decide +kernel, by decide +kernel⟩, by decide⟩
theorem ok_X0_40 : OkV "SpeaksInTurn$Acts" 40 mi_X0_mark 1 := ⟨⟨q1083, q1085, q39, q108, q1086⟩, ⟨by decide +kernel, by decide +kernel, by decide +kernel⟩, by decide⟩
theorem ok_X1_26 : OkV "SpeaksInTurn$Changes" 26 mi_X1_dropOldest 0 := ⟨⟨q731, q733, q12, q104, q734⟩, ⟨by decide +kernel, by decide +kernel, by decide +kernel⟩, by decide⟩
theorem ok_X1_32 : CopyOk "SpeaksInTurn$Changes" 32 := ⟨q735, q737, q736, q117⟩
theorem ok_X2_35 : OkV "SpeaksInTurn$Law" 35 mi_X2_readLine 0 := ⟨⟨q567, q569, q0, q103, q570⟩, ⟨by decide +kernel, by decide +kernel, by decide +kernel⟩, by decide⟩
theorem ok_X2_38 : OkV "SpeaksInTurn$Law" 38 mi_X2_next 0 := ⟨⟨q595, q597, q7, q103, q598⟩, ⟨by decide +kernel, by decide +kernel, by decide +kernel⟩, by decide⟩
theorem ok_X2_42 : OkV "SpeaksInTurn$Law" 42 mi_X2_refuse 0 := ⟨⟨q701, q703, q11, q103, q704⟩, ⟨by decide +kernel, by decide +kernel, by decide +kernel⟩, by decide⟩
theorem ok_X2_48 : OkV "SpeaksInTurn$Law" 48 mi_X2_readEither 1 := ⟨⟨q571, q573, q1, q103, q574⟩, ⟨by decide +kernel, by decide +kernel, by decide +kernel⟩, by decide⟩
theorem ok_X2_52 : OkV "SpeaksInTurn$Law" 52 mi_X2_emit 1 := ⟨⟨q693, q695, q9, q103, q696⟩, ⟨by decide +kernel, by decide +kernel, by decide +kernel⟩, by decide⟩
theorem ok_X2_55 : OkV "SpeaksInTurn$Law" 55 mi_X2_readBoth 1 := ⟨⟨q575, q577, q2, q103, q578⟩, ⟨by decide +kernel, by decide +kernel, by decide +kernel⟩, by decide⟩
theorem ok_X2_58 : OkV "SpeaksInTurn$Law" 58 mi_X2_readCompared 1 := ⟨⟨q579, q581, q3, q103, q582⟩, ⟨by decide +kernel, by decide +kernel, by decide +kernel⟩, by decide⟩
theorem ok_X2_61 : OkV "SpeaksInTurn$Law" 61 mi_X2_readSum 1 := ⟨⟨q583, q585, q4, q103, q586⟩, ⟨by decide +kernel, by decide +kernel, by decide +kernel⟩, by decide⟩
theorem ok_X2_64 : OkV "SpeaksInTurn$Law" 64 mi_X2_readProduct 1 := ⟨⟨q587, q589, q5, q103, q590⟩, ⟨by decide +kernel, by decide +kernel, by decide +kernel⟩, by decide⟩
theorem ok_X2_67 : OkV "SpeaksInTurn$Law" 67 mi_X2_readOperand 1 := ⟨⟨q591, q593, q6, q103, q594⟩, ⟨by decide +kernel, by decide +kernel, by decide +kernel⟩, by decide⟩
theorem ok_X2_72 : OkV "SpeaksInTurn$Law" 72 mi_J0_indexOf_0f7a4 1 := ⟨⟨q600, q601, q602, q111, q603⟩, ⟨by decide +kernel, by decide +kernel, by decide +kernel⟩, by decide⟩
theorem ok_X2_78 : OkS "SpeaksInTurn$Law" 78 mi_X2_isDigit 1 := ⟨⟨q686, q687, q103, q688⟩, ⟨by decide +kernel, by decide +kernel, by decide +kernel⟩, by decide⟩
theorem ok_X2_82 : OkV "SpeaksInTurn$Law" 82 mi_X2_readNumber 0 := ⟨⟨q689, q691, q8, q103, q692⟩, ⟨by decide +kernel, by decide +kernel, by decide +kernel⟩, by decide⟩
theorem ok_X2_85 : OkV "SpeaksInTurn$Law" 85 mi_X2_readOpened 2 := ⟨⟨q697, q699, q10, q103, q700⟩, ⟨by decide +kernel, by decide +kernel, by decide +kernel⟩, by decide⟩
theorem ok_X2_89 : OkS "SpeaksInTurn$Law" 89 mi_X2_bit 1 := ⟨⟨q823, q824, q103, q825⟩, ⟨by decide +kernel, by decide +kernel, by decide +kernel⟩, by decide⟩
theorem ok_X2_93 : OkS "SpeaksInTurn$Law" 93 mi_X2_joined 3 := ⟨⟨q826, q827, q103, q828⟩, ⟨by decide +kernel, by decide +kernel, by decide +kernel⟩, by decide⟩
theorem ok_X3_101 : OkV "SpeaksInTurn$Meeting" 101 mi_X3_speak 2 := ⟨⟨q850, q852, q22, q106, q853⟩, ⟨by decide +kernel, by decide +kernel, by decide +kernel⟩, by decide⟩
theorem ok_X3_111 : OkV "SpeaksInTurn$Meeting" 111 mi_X3_isThere 1 := ⟨⟨q797, q798, q799, q106, q800⟩, ⟨by decide +kernel, by decide +kernel, by decide +kernel⟩, by decide⟩
theorem ok_X3_118 : OkV "SpeaksInTurn$Meeting" 118 mi_X3_cardsThere 0 := ⟨⟨q793, q794, q795, q106, q796⟩, ⟨by decide +kernel, by decide +kernel, by decide +kernel⟩, by decide⟩
theorem ok_X3_124 : OkV "SpeaksInTurn$Meeting" 124 mi_X3_sayFirst 3 := ⟨⟨q801, q803, q15, q106, q804⟩, ⟨by decide +kernel, by decide +kernel, by decide +kernel⟩, by decide⟩
theorem ok_X3_135 : OkV "SpeaksInTurn$Meeting" 135 mi_X3_namesOf 2 := ⟨⟨q809, q810, q811, q106, q812⟩, ⟨by decide +kernel, by decide +kernel, by decide +kernel⟩, by decide⟩
theorem ok_X3_139 : OkV "SpeaksInTurn$Meeting" 139 mi_X2_value 1 := ⟨⟨q819, q820, q821, q103, q822⟩, ⟨by decide +kernel, by decide +kernel, by decide +kernel⟩, by decide⟩
theorem ok_X3_152 : OkS "SpeaksInTurn$Meeting" 152 mi_J6_bitCount_0f7a4 1 := ⟨⟨q813, q814, q119, q815⟩, ⟨by decide +kernel, by decide +kernel, by decide +kernel⟩, by decide⟩
theorem ok_X3_158 : OkV "SpeaksInTurn$Meeting" 158 mi_X3_byTurns 0 := ⟨⟨q833, q835, q18, q106, q836⟩, ⟨by decide +kernel, by decide +kernel, by decide +kernel⟩, by decide⟩
theorem ok_X3_161 : OkV "SpeaksInTurn$Meeting" 161 mi_X3_whoSpokeLeast 0 := ⟨⟨q837, q839, q19, q106, q840⟩, ⟨by decide +kernel, by decide +kernel, by decide +kernel⟩, by decide⟩
theorem ok_X3_164 : OkV "SpeaksInTurn$Meeting" 164 mi_X3_chiefLast 0 := ⟨⟨q841, q843, q20, q106, q844⟩, ⟨by decide +kernel, by decide +kernel, by decide +kernel⟩, by decide⟩
theorem ok_X3_167 : OkV "SpeaksInTurn$Meeting" 167 mi_X3_whoWishesMost 1 := ⟨⟨q846, q848, q21, q106, q849⟩, ⟨by decide +kernel, by decide +kernel, by decide +kernel⟩, by decide⟩
theorem ok_X3_170 : MathOk "SpeaksInTurn$Meeting" 170 Lib.Math.max.name Lib.Math.max.code 2 := ⟨q845, q629, q113, w_code q630 (by decide +kernel)⟩
theorem ok_X3_176 : OkV "SpeaksInTurn$Meeting" 176 mi_X3_whoStops 1 := ⟨⟨q854, q856, q23, q106, q857⟩, ⟨by decide +kernel, by decide +kernel, by decide +kernel⟩, by decide⟩
theorem ok_X3_179 : MathOk "SpeaksInTurn$Meeting" 179 Lib.Math.min.name Lib.Math.min.code 2 := ⟨q858, q632, q113, w_code q633 (by decide +kernel)⟩
theorem ok_X3_182 : OkS "SpeaksInTurn$Meeting" 182 mi_X3_lowestBits 2 := ⟨⟨q859, q860, q106, q861⟩, ⟨by decide +kernel, by decide +kernel, by decide +kernel⟩, by decide⟩
theorem ok_X3_185 : OkS "SpeaksInTurn$Meeting" 185 mi_X3_lowestPlace 1 := ⟨⟨q862, q863, q106, q864⟩, ⟨by decide +kernel, by decide +kernel, by decide +kernel⟩, by decide⟩
theorem ok_X3_188 : OkV "SpeaksInTurn$Meeting" 188 mi_X3_lengthOf 1 := ⟨⟨q865, q867, q24, q106, q868⟩, ⟨by decide +kernel, by decide +kernel, by decide +kernel⟩, by decide⟩
theorem ok_X3_191 : OkV "SpeaksInTurn$Meeting" 191 mi_X3_writeLog 6 := ⟨⟨q869, q871, q25, q106, q872⟩, ⟨by decide +kernel, by decide +kernel, by decide +kernel⟩, by decide⟩
theorem ok_X3_198 : OkV "SpeaksInTurn$Meeting" 198 mi_X6_decided 1 := ⟨⟨q894, q895, q896, q102, q897⟩, ⟨by decide +kernel, by decide +kernel, by decide +kernel⟩, by decide⟩
theorem ok_X3_201 : OkV "SpeaksInTurn$Meeting" 201 mi_X3_decided 0 := ⟨⟨q904, q891, q892, q106, q893⟩, ⟨by decide +kernel, by decide +kernel, by decide +kernel⟩, by decide⟩
theorem ok_X3_203 : OkV "SpeaksInTurn$Meeting" 203 mi_X6_knownCards 0 := ⟨⟨q905, q906, q907, q102, q908⟩, ⟨by decide +kernel, by decide +kernel, by decide +kernel⟩, by decide⟩
theorem ok_X3_209 : OkV "SpeaksInTurn$Meeting" 209 mi_X3_minutesThere 1 := ⟨⟨q914, q878, q879, q106, q880⟩, ⟨by decide +kernel, by decide +kernel, by decide +kernel⟩, by decide⟩
theorem ok_X3_51 : OkS "SpeaksInTurn$Meeting" 51 mi_J7_fill_53178 2 := ⟨⟨q782, q783, q118, q784⟩, ⟨by decide +kernel, by decide +kernel, by decide +kernel⟩, by decide⟩
theorem ok_X3_70 : OkV "SpeaksInTurn$Meeting" 70 mi_X3_clear 0 := ⟨⟨q778, q779, q780, q106, q781⟩, ⟨by decide +kernel, by decide +kernel, by decide +kernel⟩, by decide⟩
theorem ok_X3_87 : OkV "SpeaksInTurn$Meeting" 87 mi_X3_discuss 1 := ⟨⟨q785, q787, q13, q106, q788⟩, ⟨by decide +kernel, by decide +kernel, by decide +kernel⟩, by decide⟩
theorem ok_X3_91 : OkV "SpeaksInTurn$Meeting" 91 mi_X3_writeDown 1 := ⟨⟨q789, q791, q14, q106, q792⟩, ⟨by decide +kernel, by decide +kernel, by decide +kernel⟩, by decide⟩
theorem ok_X3_94 : OkV "SpeaksInTurn$Meeting" 94 mi_X3_weigh 1 := ⟨⟨q805, q807, q16, q106, q808⟩, ⟨by decide +kernel, by decide +kernel, by decide +kernel⟩, by decide⟩
theorem ok_X3_97 : OkV "SpeaksInTurn$Meeting" 97 mi_X3_nextSpeaker 0 := ⟨⟨q829, q831, q17, q106, q832⟩, ⟨by decide +kernel, by decide +kernel, by decide +kernel⟩, by decide⟩
theorem ok_X4_100 : OkV "SpeaksInTurn$Minutes" 100 mi_X3_cardsThere 0 := ⟨⟨q899, q794, q795, q106, q796⟩, ⟨by decide +kernel, by decide +kernel, by decide +kernel⟩, by decide⟩
theorem ok_X4_103 : OkV "SpeaksInTurn$Minutes" 103 mi_X3_wrong 0 := ⟨⟨q900, q901, q902, q106, q903⟩, ⟨by decide +kernel, by decide +kernel, by decide +kernel⟩, by decide⟩
theorem ok_X4_106 : OkS "SpeaksInTurn$Minutes" 106 mi_J6_bitCount_0f7a4 1 := ⟨⟨q909, q814, q119, q815⟩, ⟨by decide +kernel, by decide +kernel, by decide +kernel⟩, by decide⟩
theorem ok_X4_111 : OkV "SpeaksInTurn$Minutes" 111 mi_X3_cost 0 := ⟨⟨q910, q911, q912, q106, q913⟩, ⟨by decide +kernel, by decide +kernel, by decide +kernel⟩, by decide⟩
theorem ok_X4_114 : OkV "SpeaksInTurn$Minutes" 114 mi_X4_shed 0 := ⟨⟨q915, q917, q27, q105, q918⟩, ⟨by decide +kernel, by decide +kernel, by decide +kernel⟩, by decide⟩
theorem ok_X4_117 : OkV "SpeaksInTurn$Minutes" 117 mi_X4_minutesByWorth 1 := ⟨⟨q919, q921, q28, q105, q922⟩, ⟨by decide +kernel, by decide +kernel, by decide +kernel⟩, by decide⟩
theorem ok_X4_126 : MathOk "SpeaksInTurn$Minutes" 126 Lib.Math.abs.name Lib.Math.abs.code 1 := ⟨q923, q924, q113, w_code q925 (by decide +kernel)⟩
theorem ok_X4_40 : OkSN "SpeaksInTurn$Minutes" 40 mi_X8_asTheyCame "SpeaksInTurn" 1 := ⟨⟨by decide +kernel, q764, q101, q765⟩, ⟨by decide +kernel, by decide +kernel, by decide +kernel⟩, by decide⟩
theorem ok_X4_53 : OkV "SpeaksInTurn$Minutes" 53 mi_X3_hold 4 := ⟨⟨q774, q775, q776, q106, q777⟩, ⟨by decide +kernel, by decide +kernel, by decide +kernel⟩, by decide⟩
theorem ok_X4_73 : OkV "SpeaksInTurn$Minutes" 73 mi_X6_sum 2 := ⟨⟨q873, q874, q875, q102, q876⟩, ⟨by decide +kernel, by decide +kernel, by decide +kernel⟩, by decide⟩
theorem ok_X4_77 : OkV "SpeaksInTurn$Minutes" 77 mi_X3_minutesThere 1 := ⟨⟨q877, q878, q879, q106, q880⟩, ⟨by decide +kernel, by decide +kernel, by decide +kernel⟩, by decide⟩
theorem ok_X4_81 : OkV "SpeaksInTurn$Minutes" 81 mi_X4_summarize 0 := ⟨⟨q881, q883, q26, q105, q884⟩, ⟨by decide +kernel, by decide +kernel, by decide +kernel⟩, by decide⟩
theorem ok_X4_84 : OkV "SpeaksInTurn$Minutes" 84 mi_X4_needed 0 := ⟨⟨q926, q928, q29, q105, q929⟩, ⟨by decide +kernel, by decide +kernel, by decide +kernel⟩, by decide⟩
theorem ok_X4_91 : OkV "SpeaksInTurn$Minutes" 91 mi_X6_aloneCards 0 := ⟨⟨q885, q886, q887, q102, q888⟩, ⟨by decide +kernel, by decide +kernel, by decide +kernel⟩, by decide⟩
theorem ok_X4_97 : OkV "SpeaksInTurn$Minutes" 97 mi_X3_decided 0 := ⟨⟨q890, q891, q892, q106, q893⟩, ⟨by decide +kernel, by decide +kernel, by decide +kernel⟩, by decide⟩
theorem ok_X5_25 : OkS "SpeaksInTurn$Shelf" 25 mi_J7_fill_d0a16 2 := ⟨⟨q1107, q1108, q118, q1109⟩, ⟨by decide +kernel, by decide +kernel, by decide +kernel⟩, by decide⟩
theorem ok_X6_68 : OkV "SpeaksInTurn$Table" 68 mi_X5_hasRun 2 := ⟨⟨q541, q542, q543, q109, q544⟩, ⟨by decide +kernel, by decide +kernel, by decide +kernel⟩, by decide⟩
theorem ok_X6_78 : OkV "SpeaksInTurn$Table" 78 mi_X6_isCard 3 := ⟨⟨q545, q523, q524, q102, q525⟩, ⟨by decide +kernel, by decide +kernel, by decide +kernel⟩, by decide⟩
theorem ok_X6_82 : OkV "SpeaksInTurn$Table" 82 mi_X6_addCard 3 := ⟨⟨q546, q527, q528, q102, q529⟩, ⟨by decide +kernel, by decide +kernel, by decide +kernel⟩, by decide⟩
theorem ok_X6_86 : OkV "SpeaksInTurn$Table" 86 mi_X6_mendable 1 := ⟨⟨q742, q724, q725, q102, q726⟩, ⟨by decide +kernel, by decide +kernel, by decide +kernel⟩, by decide⟩
theorem ok_X6_90 : OkV "SpeaksInTurn$Table" 90 mi_X6_sum 2 := ⟨⟨q898, q874, q875, q102, q876⟩, ⟨by decide +kernel, by decide +kernel, by decide +kernel⟩, by decide⟩
theorem ok_X6_94 : OkS "SpeaksInTurn$Table" 94 mi_J6_bitCount_0f7a4 1 := ⟨⟨q889, q814, q119, q815⟩, ⟨by decide +kernel, by decide +kernel, by decide +kernel⟩, by decide⟩
theorem ok_X7_111 : OkV "SpeaksInTurn$Thought" 111 mi_X3_clear 0 := ⟨⟨q1036, q779, q780, q106, q781⟩, ⟨by decide +kernel, by decide +kernel, by decide +kernel⟩, by decide⟩
theorem ok_X7_118 : OkV "SpeaksInTurn$Thought" 118 mi_X3_namesOf 2 := ⟨⟨q1037, q810, q811, q106, q812⟩, ⟨by decide +kernel, by decide +kernel, by decide +kernel⟩, by decide⟩
theorem ok_X7_122 : OkV "SpeaksInTurn$Thought" 122 mi_X2_value 1 := ⟨⟨q1038, q820, q821, q103, q822⟩, ⟨by decide +kernel, by decide +kernel, by decide +kernel⟩, by decide⟩
theorem ok_X7_34 : OkV "SpeaksInTurn$Thought" 34 mi_X6_isBare 0 := ⟨⟨q974, q767, q768, q102, q769⟩, ⟨by decide +kernel, by decide +kernel, by decide +kernel⟩, by decide⟩
theorem ok_X7_46 : OkSN "SpeaksInTurn$Thought" 46 mi_X8_asTheyCame "SpeaksInTurn" 1 := ⟨⟨by decide +kernel, q764, q101, q765⟩, ⟨by decide +kernel, by decide +kernel, by decide +kernel⟩, by decide⟩
theorem ok_X7_50 : OkV "SpeaksInTurn$Thought" 50 mi_X7_tryRules 0 := ⟨⟨q976, q978, q30, q107, q979⟩, ⟨by decide +kernel, by decide +kernel, by decide +kernel⟩, by decide⟩
theorem ok_X7_53 : OkV "SpeaksInTurn$Thought" 53 mi_X7_tryOrders 0 := ⟨⟨q988, q990, q32, q107, q991⟩, ⟨by decide +kernel, by decide +kernel, by decide +kernel⟩, by decide⟩
theorem ok_X7_56 : OkV "SpeaksInTurn$Thought" 56 mi_X7_tryTimers 0 := ⟨⟨q1004, q1006, q36, q107, q1007⟩, ⟨by decide +kernel, by decide +kernel, by decide +kernel⟩, by decide⟩
theorem ok_X7_62 : OkV "SpeaksInTurn$Thought" 62 mi_X3_hold 4 := ⟨⟨q980, q775, q776, q106, q777⟩, ⟨by decide +kernel, by decide +kernel, by decide +kernel⟩, by decide⟩
theorem ok_X7_66 : OkV "SpeaksInTurn$Thought" 66 mi_X7_compare 2 := ⟨⟨q981, q983, q31, q107, q984⟩, ⟨by decide +kernel, by decide +kernel, by decide +kernel⟩, by decide⟩
theorem ok_X7_70 : OkV "SpeaksInTurn$Thought" 70 mi_X7_digits 0 := ⟨⟨q992, q994, q33, q107, q995⟩, ⟨by decide +kernel, by decide +kernel, by decide +kernel⟩, by decide⟩
theorem ok_X7_74 : OkV "SpeaksInTurn$Thought" 74 mi_X7_nextOrder 0 := ⟨⟨q996, q998, q34, q107, q999⟩, ⟨by decide +kernel, by decide +kernel, by decide +kernel⟩, by decide⟩
theorem ok_X7_77 : OkV "SpeaksInTurn$Thought" 77 mi_X3_wrong 0 := ⟨⟨q985, q901, q902, q106, q903⟩, ⟨by decide +kernel, by decide +kernel, by decide +kernel⟩, by decide⟩
theorem ok_X7_80 : OkS "SpeaksInTurn$Thought" 80 mi_J6_bitCount_0f7a4 1 := ⟨⟨q986, q814, q119, q815⟩, ⟨by decide +kernel, by decide +kernel, by decide +kernel⟩, by decide⟩
theorem ok_X7_86 : OkV "SpeaksInTurn$Thought" 86 mi_X3_cost 0 := ⟨⟨q987, q911, q912, q106, q913⟩, ⟨by decide +kernel, by decide +kernel, by decide +kernel⟩, by decide⟩
theorem ok_X7_89 : OkV "SpeaksInTurn$Thought" 89 mi_X7_swap 2 := ⟨⟨q1000, q1002, q35, q107, q1003⟩, ⟨by decide +kernel, by decide +kernel, by decide +kernel⟩, by decide⟩
theorem ok_X7_92 : OkV "SpeaksInTurn$Thought" 92 mi_X7_isShown 1 := ⟨⟨q1024, q1026, q37, q107, q1027⟩, ⟨by decide +kernel, by decide +kernel, by decide +kernel⟩, by decide⟩
theorem ok_X8_103 : OkV "SpeaksInTurn" 103 mi_X2_enact 0 := ⟨⟨q563, q564, q565, q103, q566⟩, ⟨by decide +kernel, by decide +kernel, by decide +kernel⟩, by decide⟩
theorem ok_X8_127 : OkV "SpeaksInTurn" 127 mi_X6_mendable 1 := ⟨⟨q723, q724, q725, q102, q726⟩, ⟨by decide +kernel, by decide +kernel, by decide +kernel⟩, by decide⟩
theorem ok_X8_131 : OkV "SpeaksInTurn" 131 mi_X1_note 4 := ⟨⟨q727, q728, q729, q104, q730⟩, ⟨by decide +kernel, by decide +kernel, by decide +kernel⟩, by decide⟩
theorem ok_X8_135 : OkV "SpeaksInTurn" 135 mi_X6_change 3 := ⟨⟨q738, q739, q740, q102, q741⟩, ⟨by decide +kernel, by decide +kernel, by decide +kernel⟩, by decide⟩
theorem ok_X8_139 : OkV "SpeaksInTurn" 139 mi_X6_ofPerson 2 := ⟨⟨q747, q748, q749, q102, q750⟩, ⟨by decide +kernel, by decide +kernel, by decide +kernel⟩, by decide⟩
theorem ok_X8_148 : OkV "SpeaksInTurn" 148 mi_X6_ofCard 2 := ⟨⟨q751, q752, q753, q102, q754⟩, ⟨by decide +kernel, by decide +kernel, by decide +kernel⟩, by decide⟩
theorem ok_X8_151 : OkV "SpeaksInTurn" 151 mi_X4_takesOrder 1 := ⟨⟨q759, q760, q761, q105, q762⟩, ⟨by decide +kernel, by decide +kernel, by decide +kernel⟩, by decide⟩
theorem ok_X8_154 : OkV "SpeaksInTurn" 154 mi_X6_isBare 0 := ⟨⟨q766, q767, q768, q102, q769⟩, ⟨by decide +kernel, by decide +kernel, by decide +kernel⟩, by decide⟩
theorem ok_X8_157 : OkV "SpeaksInTurn" 157 mi_X4_hold 0 := ⟨⟨q770, q771, q772, q105, q773⟩, ⟨by decide +kernel, by decide +kernel, by decide +kernel⟩, by decide⟩
theorem ok_X8_179 : OkV "SpeaksInTurn" 179 mi_X4_hadThing 1 := ⟨⟨q942, q943, q944, q105, q945⟩, ⟨by decide +kernel, by decide +kernel, by decide +kernel⟩, by decide⟩
theorem ok_X8_188 : OkV "SpeaksInTurn" 188 mi_X4_hadPerson 1 := ⟨⟨q950, q951, q952, q105, q953⟩, ⟨by decide +kernel, by decide +kernel, by decide +kernel⟩, by decide⟩
theorem ok_X8_191 : OkV "SpeaksInTurn" 191 mi_X4_ofPerson 2 := ⟨⟨q954, q955, q956, q105, q957⟩, ⟨by decide +kernel, by decide +kernel, by decide +kernel⟩, by decide⟩
theorem ok_X8_192 : OkV "SpeaksInTurn" 192 mi_X4_hadCard 1 := ⟨⟨q962, q963, q964, q105, q965⟩, ⟨by decide +kernel, by decide +kernel, by decide +kernel⟩, by decide⟩
theorem ok_X8_201 : OkV "SpeaksInTurn" 201 mi_X7_answer 2 := ⟨⟨q970, q971, q972, q107, q973⟩, ⟨by decide +kernel, by decide +kernel, by decide +kernel⟩, by decide⟩
theorem ok_X8_204 : OkV "SpeaksInTurn" 204 mi_X7_rulesOf 1 := ⟨⟨q1020, q1021, q1022, q107, q1023⟩, ⟨by decide +kernel, by decide +kernel, by decide +kernel⟩, by decide⟩
theorem ok_X8_208 : OkV "SpeaksInTurn" 208 mi_X7_wishNow 2 := ⟨⟨q1032, q1033, q1034, q107, q1035⟩, ⟨by decide +kernel, by decide +kernel, by decide +kernel⟩, by decide⟩
theorem ok_X8_211 : OkV "SpeaksInTurn" 211 mi_X1_goBack 0 := ⟨⟨q1043, q1044, q1045, q104, q1046⟩, ⟨by decide +kernel, by decide +kernel, by decide +kernel⟩, by decide⟩
theorem ok_X8_226 : OkV "SpeaksInTurn" 226 mi_X1_goOn 0 := ⟨⟨q1051, q1052, q1053, q104, q1054⟩, ⟨by decide +kernel, by decide +kernel, by decide +kernel⟩, by decide⟩
theorem ok_X8_238 : OkV "SpeaksInTurn" 238 mi_X0_addBody 1 := ⟨⟨q1059, q1060, q1061, q108, q1062⟩, ⟨by decide +kernel, by decide +kernel, by decide +kernel⟩, by decide⟩
theorem ok_X8_244 : OkV "SpeaksInTurn" 244 mi_X0_begin 3 := ⟨⟨q1067, q1068, q1069, q108, q1070⟩, ⟨by decide +kernel, by decide +kernel, by decide +kernel⟩, by decide⟩
theorem ok_X8_250 : OkV "SpeaksInTurn" 250 mi_X5_holdBody 1 := ⟨⟨q1095, q1096, q1097, q109, q1098⟩, ⟨by decide +kernel, by decide +kernel, by decide +kernel⟩, by decide⟩
theorem ok_X8_254 : OkV "SpeaksInTurn" 254 mi_X5_holdRow 2 := ⟨⟨q1103, q1104, q1105, q109, q1106⟩, ⟨by decide +kernel, by decide +kernel, by decide +kernel⟩, by decide⟩
theorem ok_X8_258 : OkV "SpeaksInTurn" 258 mi_X5_refusalAt 1 := ⟨⟨q1114, q1115, q1116, q109, q1117⟩, ⟨by decide +kernel, by decide +kernel, by decide +kernel⟩, by decide⟩
theorem ok_X8_261 : OkV "SpeaksInTurn" 261 mi_X5_store 2 := ⟨⟨q1118, q1119, q1120, q109, q1121⟩, ⟨by decide +kernel, by decide +kernel, by decide +kernel⟩, by decide⟩
theorem ok_X8_273 : OkV "SpeaksInTurn" 273 mi_X5_hasRun 2 := ⟨⟨q1131, q542, q543, q109, q544⟩, ⟨by decide +kernel, by decide +kernel, by decide +kernel⟩, by decide⟩
theorem ok_X8_277 : CopyOk "SpeaksInTurn" 277 := ⟨q1132, q737, q736, q117⟩
theorem ok_X8_286 : OkV "SpeaksInTurn" 286 mi_X0_kindOf 1 := ⟨⟨q1137, q1072, q1073, q108, q1074⟩, ⟨by decide +kernel, by decide +kernel, by decide +kernel⟩, by decide⟩
theorem ok_X8_289 : OkS "SpeaksInTurn" 289 mi_X0_isUnder 2 := ⟨⟨q1138, q1139, q108, q1140⟩, ⟨by decide +kernel, by decide +kernel, by decide +kernel⟩, by decide⟩
theorem ok_X8_57 : OkV "SpeaksInTurn" 57 mi_X6_addPerson 2 := ⟨⟨q506, q507, q508, q102, q509⟩, ⟨by decide +kernel, by decide +kernel, by decide +kernel⟩, by decide⟩
theorem ok_X8_64 : OkV "SpeaksInTurn" 64 mi_X6_addThing 2 := ⟨⟨q514, q515, q516, q102, q517⟩, ⟨by decide +kernel, by decide +kernel, by decide +kernel⟩, by decide⟩
theorem ok_X8_67 : OkV "SpeaksInTurn" 67 mi_X6_isCard 3 := ⟨⟨q522, q523, q524, q102, q525⟩, ⟨by decide +kernel, by decide +kernel, by decide +kernel⟩, by decide⟩
theorem ok_X8_74 : OkV "SpeaksInTurn" 74 mi_X6_addCard 3 := ⟨⟨q526, q527, q528, q102, q529⟩, ⟨by decide +kernel, by decide +kernel, by decide +kernel⟩, by decide⟩
theorem ok_X8_78 : OkS "SpeaksInTurn" 78 mi_X8_isNoShelf 1 := ⟨⟨q534, q535, q101, q536⟩, ⟨by decide +kernel, by decide +kernel, by decide +kernel⟩, by decide⟩
theorem ok_X8_85 : OkV "SpeaksInTurn" 85 mi_X6_addCards 3 := ⟨⟨q537, q538, q539, q102, q540⟩, ⟨by decide +kernel, by decide +kernel, by decide +kernel⟩, by decide⟩
theorem ok_X8_93 : OkV "SpeaksInTurn" 93 mi_X2_isFull 0 := ⟨⟨q551, q552, q553, q103, q554⟩, ⟨by decide +kernel, by decide +kernel, by decide +kernel⟩, by decide⟩
theorem ok_X8_99 : OkV "SpeaksInTurn" 99 mi_X2_write 1 := ⟨⟨q555, q556, q557, q103, q558⟩, ⟨by decide +kernel, by decide +kernel, by decide +kernel⟩, by decide⟩
theorem ok_X9_162 : OkS "SpeaksInTurnModel" 162 mi_X9_within 3 := ⟨⟨q1393, q1394, q110, q1395⟩, ⟨by decide +kernel, by decide +kernel, by decide +kernel⟩, by decide⟩
theorem ok_X9_180 : OkS "SpeaksInTurnModel" 180 mi_X9_isWorth 1 := ⟨⟨q1401, q1402, q110, q1403⟩, ⟨by decide +kernel, by decide +kernel, by decide +kernel⟩, by decide⟩
theorem ok_X9_184 : OkS "SpeaksInTurnModel" 184 mi_X9_isDigit1 1 := ⟨⟨q1405, q1406, q110, q1407⟩, ⟨by decide +kernel, by decide +kernel, by decide +kernel⟩, by decide⟩
theorem ok_X9_191 : OkV "SpeaksInTurnModel" 191 mi_X9_isOne 3 := ⟨⟨q1413, q1415, q40, q110, q1416⟩, ⟨by decide +kernel, by decide +kernel, by decide +kernel⟩, by decide⟩
theorem ok_X9_194 : OkV "SpeaksInTurnModel" 194 mi_X9_adds 3 := ⟨⟨q1419, q1421, q41, q110, q1422⟩, ⟨by decide +kernel, by decide +kernel, by decide +kernel⟩, by decide⟩
theorem ok_X9_198 : OkS "SpeaksInTurnModel" 198 mi_X9_isShelf 1 := ⟨⟨q1427, q1428, q110, q1429⟩, ⟨by decide +kernel, by decide +kernel, by decide +kernel⟩, by decide⟩
theorem ok_X9_211 : OkV "SpeaksInTurnModel" 211 mi_X9_isPerson 1 := ⟨⟨q1440, q1442, q42, q110, q1443⟩, ⟨by decide +kernel, by decide +kernel, by decide +kernel⟩, by decide⟩
theorem ok_X9_214 : OkV "SpeaksInTurnModel" 214 mi_X9_becomes 2 := ⟨⟨q1444, q1446, q43, q110, q1447⟩, ⟨by decide +kernel, by decide +kernel, by decide +kernel⟩, by decide⟩
theorem ok_X9_219 : OkV "SpeaksInTurnModel" 219 mi_X9_isThing 1 := ⟨⟨q1449, q1451, q44, q110, q1452⟩, ⟨by decide +kernel, by decide +kernel, by decide +kernel⟩, by decide⟩
theorem ok_X9_222 : OkV "SpeaksInTurnModel" 222 mi_X9_isCard 1 := ⟨⟨q1457, q1459, q45, q110, q1460⟩, ⟨by decide +kernel, by decide +kernel, by decide +kernel⟩, by decide⟩
theorem ok_X9_242 : OkV "SpeaksInTurnModel" 242 mi_X9_byteAt 0 := ⟨⟨q1498, q1500, q53, q110, q1501⟩, ⟨by decide +kernel, by decide +kernel, by decide +kernel⟩, by decide⟩
theorem ok_X9_246 : OkV "SpeaksInTurnModel" 246 mi_X9_both 0 := ⟨⟨q1478, q1480, q48, q110, q1481⟩, ⟨by decide +kernel, by decide +kernel, by decide +kernel⟩, by decide⟩
theorem ok_X9_249 : OkV "SpeaksInTurnModel" 249 mi_X9_takes 1 := ⟨⟨q1506, q1508, q55, q110, q1509⟩, ⟨by decide +kernel, by decide +kernel, by decide +kernel⟩, by decide⟩
theorem ok_X9_252 : OkV "SpeaksInTurnModel" 252 mi_X9_compared 0 := ⟨⟨q1482, q1484, q49, q110, q1485⟩, ⟨by decide +kernel, by decide +kernel, by decide +kernel⟩, by decide⟩
theorem ok_X9_255 : OkV "SpeaksInTurnModel" 255 mi_X9_sums 0 := ⟨⟨q1486, q1488, q50, q110, q1489⟩, ⟨by decide +kernel, by decide +kernel, by decide +kernel⟩, by decide⟩
theorem ok_X9_258 : OkV "SpeaksInTurnModel" 258 mi_X9_product 0 := ⟨⟨q1490, q1492, q51, q110, q1493⟩, ⟨by decide +kernel, by decide +kernel, by decide +kernel⟩, by decide⟩
theorem ok_X9_261 : OkV "SpeaksInTurnModel" 261 mi_X9_one 0 := ⟨⟨q1494, q1496, q52, q110, q1497⟩, ⟨by decide +kernel, by decide +kernel, by decide +kernel⟩, by decide⟩
theorem ok_X9_267 : OkV "SpeaksInTurnModel" 267 mi_X9_wrong 0 := ⟨⟨q1502, q1504, q54, q110, q1505⟩, ⟨by decide +kernel, by decide +kernel, by decide +kernel⟩, by decide⟩
theorem ok_X9_270 : OkV "SpeaksInTurnModel" 270 mi_X9_either 0 := ⟨⟨q1474, q1476, q47, q110, q1477⟩, ⟨by decide +kernel, by decide +kernel, by decide +kernel⟩, by decide⟩
theorem ok_X9_273 : OkS "SpeaksInTurnModel" 273 mi_X9_nameOf 1 := ⟨⟨q1510, q1511, q110, q1512⟩, ⟨by decide +kernel, by decide +kernel, by decide +kernel⟩, by decide⟩
theorem ok_X9_277 : OkV "SpeaksInTurnModel" 277 mi_X9_workOut 2 := ⟨⟨q1470, q1472, q46, q110, q1473⟩, ⟨by decide +kernel, by decide +kernel, by decide +kernel⟩, by decide⟩
theorem ok_X9_292 : OkV "SpeaksInTurnModel" 292 mi_X9_knows 2 := ⟨⟨q1549, q1551, q64, q110, q1552⟩, ⟨by decide +kernel, by decide +kernel, by decide +kernel⟩, by decide⟩
theorem ok_X9_296 : OkV "SpeaksInTurnModel" 296 mi_X9_isSaid 1 := ⟨⟨q1541, q1543, q62, q110, q1544⟩, ⟨by decide +kernel, by decide +kernel, by decide +kernel⟩, by decide⟩
theorem ok_X9_299 : OkV "SpeaksInTurnModel" 299 mi_X9_isThere 1 := ⟨⟨q1545, q1547, q63, q110, q1548⟩, ⟨by decide +kernel, by decide +kernel, by decide +kernel⟩, by decide⟩
theorem ok_X9_302 : OkV "SpeaksInTurnModel" 302 mi_X9_wishes 1 := ⟨⟨q1569, q1571, q69, q110, q1572⟩, ⟨by decide +kernel, by decide +kernel, by decide +kernel⟩, by decide⟩
theorem ok_X9_308 : OkV "SpeaksInTurnModel" 308 mi_X9_mostWishing 2 := ⟨⟨q1581, q1583, q72, q110, q1584⟩, ⟨by decide +kernel, by decide +kernel, by decide +kernel⟩, by decide⟩
theorem ok_X9_312 : OkV "SpeaksInTurnModel" 312 mi_X9_byTurns 0 := ⟨⟨q1565, q1567, q68, q110, q1568⟩, ⟨by decide +kernel, by decide +kernel, by decide +kernel⟩, by decide⟩
theorem ok_X9_315 : OkV "SpeaksInTurnModel" 315 mi_X9_leastSpoken 0 := ⟨⟨q1573, q1575, q70, q110, q1576⟩, ⟨by decide +kernel, by decide +kernel, by decide +kernel⟩, by decide⟩
theorem ok_X9_318 : OkV "SpeaksInTurnModel" 318 mi_X9_chiefLast 0 := ⟨⟨q1577, q1579, q71, q110, q1580⟩, ⟨by decide +kernel, by decide +kernel, by decide +kernel⟩, by decide⟩
theorem ok_X9_324 : OkV "SpeaksInTurnModel" 324 mi_X9_unsaid 2 := ⟨⟨q1553, q1555, q65, q110, q1556⟩, ⟨by decide +kernel, by decide +kernel, by decide +kernel⟩, by decide⟩
theorem ok_X9_327 : OkV "SpeaksInTurnModel" 327 mi_X9_stopper 1 := ⟨⟨q1589, q1591, q74, q110, q1592⟩, ⟨by decide +kernel, by decide +kernel, by decide +kernel⟩, by decide⟩
theorem ok_X9_330 : OkV "SpeaksInTurnModel" 330 mi_X9_saysNew 3 := ⟨⟨q1593, q1595, q75, q110, q1596⟩, ⟨by decide +kernel, by decide +kernel, by decide +kernel⟩, by decide⟩
theorem ok_X9_334 : OkV "SpeaksInTurnModel" 334 mi_X9_saysAgain 2 := ⟨⟨q1597, q1599, q76, q110, q1600⟩, ⟨by decide +kernel, by decide +kernel, by decide +kernel⟩, by decide⟩
theorem ok_X9_337 : OkV "SpeaksInTurnModel" 337 mi_X9_putsPaper 1 := ⟨⟨q1537, q1539, q61, q110, q1540⟩, ⟨by decide +kernel, by decide +kernel, by decide +kernel⟩, by decide⟩
theorem ok_X9_341 : OkV "SpeaksInTurnModel" 341 mi_X9_wishOf 6 := ⟨⟨q1557, q1559, q66, q110, q1560⟩, ⟨by decide +kernel, by decide +kernel, by decide +kernel⟩, by decide⟩
theorem ok_X9_345 : OkV "SpeaksInTurnModel" 345 mi_X9_nextSpeaker 0 := ⟨⟨q1561, q1563, q67, q110, q1564⟩, ⟨by decide +kernel, by decide +kernel, by decide +kernel⟩, by decide⟩
theorem ok_X9_348 : OkV "SpeaksInTurnModel" 348 mi_X9_speaks 2 := ⟨⟨q1585, q1587, q73, q110, q1588⟩, ⟨by decide +kernel, by decide +kernel, by decide +kernel⟩, by decide⟩
theorem ok_X9_352 : OkV "SpeaksInTurnModel" 352 mi_X9_oneThing 1 := ⟨⟨q1533, q1535, q60, q110, q1536⟩, ⟨by decide +kernel, by decide +kernel, by decide +kernel⟩, by decide⟩
theorem ok_X9_355 : OkV "SpeaksInTurnModel" 355 mi_X9_comesTo 1 := ⟨⟨q1605, q1607, q78, q110, q1608⟩, ⟨by decide +kernel, by decide +kernel, by decide +kernel⟩, by decide⟩
theorem ok_X9_358 : OkV "SpeaksInTurnModel" 358 mi_X9_isKnown 1 := ⟨⟨q1625, q1627, q83, q110, q1628⟩, ⟨by decide +kernel, by decide +kernel, by decide +kernel⟩, by decide⟩
theorem ok_X9_361 : OkV "SpeaksInTurnModel" 361 mi_X9_decided 0 := ⟨⟨q1613, q1615, q80, q110, q1616⟩, ⟨by decide +kernel, by decide +kernel, by decide +kernel⟩, by decide⟩
theorem ok_X9_364 : OkV "SpeaksInTurnModel" 364 mi_X9_shouldBe 0 := ⟨⟨q1621, q1623, q82, q110, q1624⟩, ⟨by decide +kernel, by decide +kernel, by decide +kernel⟩, by decide⟩
theorem ok_X9_367 : OkS "SpeaksInTurnModel" 367 mi_X9_bitsOf 1 := ⟨⟨q1637, q1638, q110, q1639⟩, ⟨by decide +kernel, by decide +kernel, by decide +kernel⟩, by decide⟩
theorem ok_X9_370 : OkV "SpeaksInTurnModel" 370 mi_X9_thereFor 1 := ⟨⟨q1609, q1611, q79, q110, q1612⟩, ⟨by decide +kernel, by decide +kernel, by decide +kernel⟩, by decide⟩
theorem ok_X9_373 : OkV "SpeaksInTurnModel" 373 mi_X9_isAlone 1 := ⟨⟨q1633, q1635, q85, q110, q1636⟩, ⟨by decide +kernel, by decide +kernel, by decide +kernel⟩, by decide⟩
theorem ok_X9_376 : OkS "SpeaksInTurnModel" 376 mi_X9_size 1 := ⟨⟨q1648, q1649, q110, q1650⟩, ⟨by decide +kernel, by decide +kernel, by decide +kernel⟩, by decide⟩
theorem ok_X9_388 : OkV "SpeaksInTurnModel" 388 mi_X9_plain 0 := ⟨⟨q1517, q1519, q56, q110, q1520⟩, ⟨by decide +kernel, by decide +kernel, by decide +kernel⟩, by decide⟩
theorem ok_X9_391 : OkV "SpeaksInTurnModel" 391 mi_X9_isOrder 1 := ⟨⟨q1521, q1523, q57, q110, q1524⟩, ⟨by decide +kernel, by decide +kernel, by decide +kernel⟩, by decide⟩
theorem ok_X9_394 : OkV "SpeaksInTurnModel" 394 mi_X9_isTable 0 := ⟨⟨q1525, q1527, q58, q110, q1528⟩, ⟨by decide +kernel, by decide +kernel, by decide +kernel⟩, by decide⟩
theorem ok_X9_398 : OkV "SpeaksInTurnModel" 398 mi_X9_meets 0 := ⟨⟨q1529, q1531, q59, q110, q1532⟩, ⟨by decide +kernel, by decide +kernel, by decide +kernel⟩, by decide⟩
theorem ok_X9_401 : OkV "SpeaksInTurnModel" 401 mi_X9_keepsRows 0 := ⟨⟨q1601, q1603, q77, q110, q1604⟩, ⟨by decide +kernel, by decide +kernel, by decide +kernel⟩, by decide⟩
theorem ok_X9_404 : OkV "SpeaksInTurnModel" 404 mi_X9_heldBack 0 := ⟨⟨q1617, q1619, q81, q110, q1620⟩, ⟨by decide +kernel, by decide +kernel, by decide +kernel⟩, by decide⟩
theorem ok_X9_407 : OkV "SpeaksInTurnModel" 407 mi_X9_aloneSaid 1 := ⟨⟨q1629, q1631, q84, q110, q1632⟩, ⟨by decide +kernel, by decide +kernel, by decide +kernel⟩, by decide⟩
theorem ok_X9_411 : OkV "SpeaksInTurnModel" 411 mi_X9_cost 0 := ⟨⟨q1640, q1642, q86, q110, q1643⟩, ⟨by decide +kernel, by decide +kernel, by decide +kernel⟩, by decide⟩
theorem ok_X9_414 : OkV "SpeaksInTurnModel" 414 mi_X9_shed 0 := ⟨⟨q1644, q1646, q87, q110, q1647⟩, ⟨by decide +kernel, by decide +kernel, by decide +kernel⟩, by decide⟩
theorem ok_X9_421 : OkV "SpeaksInTurnModel" 421 mi_X9_wrongMany 0 := ⟨⟨q1682, q1684, q89, q110, q1685⟩, ⟨by decide +kernel, by decide +kernel, by decide +kernel⟩, by decide⟩
theorem ok_X9_435 : OkV "SpeaksInTurnModel" 435 mi_X9_looksAt 1 := ⟨⟨q1678, q1680, q88, q110, q1681⟩, ⟨by decide +kernel, by decide +kernel, by decide +kernel⟩, by decide⟩
theorem ok_X9_438 : OkV "SpeaksInTurnModel" 438 mi_X9_bestTold 1 := ⟨⟨q1686, q1688, q90, q110, q1689⟩, ⟨by decide +kernel, by decide +kernel, by decide +kernel⟩, by decide⟩
theorem ok_X9_441 : OkV "SpeaksInTurnModel" 441 mi_X9_goesOrders 3 := ⟨⟨q1694, q1696, q91, q110, q1697⟩, ⟨by decide +kernel, by decide +kernel, by decide +kernel⟩, by decide⟩
theorem ok_X9_452 : OkV "SpeaksInTurnModel" 452 mi_X9_begins 1 := ⟨⟨q1727, q1729, q94, q110, q1730⟩, ⟨by decide +kernel, by decide +kernel, by decide +kernel⟩, by decide⟩
theorem ok_X9_455 : OkV "SpeaksInTurnModel" 455 mi_X9_knowsAs 2 := ⟨⟨q1723, q1725, q93, q110, q1726⟩, ⟨by decide +kernel, by decide +kernel, by decide +kernel⟩, by decide⟩
theorem ok_X9_461 : OkV "SpeaksInTurnModel" 461 mi_X9_speaksAs 2 := ⟨⟨q1731, q1733, q95, q110, q1734⟩, ⟨by decide +kernel, by decide +kernel, by decide +kernel⟩, by decide⟩
theorem ok_X9_467 : OkV "SpeaksInTurnModel" 467 mi_X9_stopsAs 2 := ⟨⟨q1735, q1737, q96, q110, q1738⟩, ⟨by decide +kernel, by decide +kernel, by decide +kernel⟩, by decide⟩
theorem ok_X9_470 : OkV "SpeaksInTurnModel" 470 mi_X9_decidesAs 2 := ⟨⟨q1739, q1741, q97, q110, q1742⟩, ⟨by decide +kernel, by decide +kernel, by decide +kernel⟩, by decide⟩
theorem ok_X9_473 : OkV "SpeaksInTurnModel" 473 mi_X9_isBody 1 := ⟨⟨q1719, q1721, q92, q110, q1722⟩, ⟨by decide +kernel, by decide +kernel, by decide +kernel⟩, by decide⟩
theorem ok_X9_478 : OkV "SpeaksInTurnModel" 478 mi_X9_refusal 2 := ⟨⟨q1760, q1762, q98, q110, q1763⟩, ⟨by decide +kernel, by decide +kernel, by decide +kernel⟩, by decide⟩
theorem ok_X9_481 : OkS "SpeaksInTurnModel" 481 mi_X9_asSort 2 := ⟨⟨q1764, q1765, q110, q1766⟩, ⟨by decide +kernel, by decide +kernel, by decide +kernel⟩, by decide⟩
theorem ok_X9_489 : OkV "SpeaksInTurnModel" 489 mi_X9_kindOf 1 := ⟨⟨q1780, q1782, q99, q110, q1783⟩, ⟨by decide +kernel, by decide +kernel, by decide +kernel⟩, by decide⟩
theorem ok_X9_492 : OkS "SpeaksInTurnModel" 492 mi_X9_above 1 := ⟨⟨q1784, q1785, q110, q1786⟩, ⟨by decide +kernel, by decide +kernel, by decide +kernel⟩, by decide⟩
theorem fk_X0_13 : FOk "SpeaksInTurn$Acts" 13 0 6 3 true := ⟨"SpeaksInTurn$Acts", TX0, rfl, inX0, by decide, rfl, rfl, q440, tyX0_ok, nmX0⟩
theorem fk_X0_16 : FOk "SpeaksInTurn$Acts" 16 0 6 1 false := ⟨"SpeaksInTurn$Acts", TX0, rfl, inX0, by decide, rfl, rfl, q436, tyX0_ok, nmX0⟩
theorem fk_X0_23 : FOk "SpeaksInTurn$Acts" 23 0 6 4 false := ⟨"SpeaksInTurn$Acts", TX0, rfl, inX0, by decide, rfl, rfl, q441, tyX0_ok, nmX0⟩
theorem fk_X0_30 : FOk "SpeaksInTurn$Acts" 30 0 6 5 false := ⟨"SpeaksInTurn$Acts", TX0, rfl, inX0, by decide, rfl, rfl, q442, tyX0_ok, nmX0⟩
theorem fk_X0_44 : FOk "SpeaksInTurn$Acts" 44 0 6 2 false := ⟨"SpeaksInTurn$Acts", TX0, rfl, inX0, by decide, rfl, rfl, q438, tyX0_ok, nmX0⟩
theorem fk_X0_9 : FOk "SpeaksInTurn$Acts" 9 0 6 0 true := ⟨"SpeaksInTurn$Acts", TX0, rfl, inX0, by decide, rfl, rfl, q434, tyX0_ok, nmX0⟩
theorem fk_X1_13 : FOk "SpeaksInTurn$Changes" 13 1 6 1 true := ⟨"SpeaksInTurn$Changes", TX1, rfl, inX1, by decide, rfl, rfl, q259, tyX1_ok, nmX1⟩
theorem fk_X1_16 : FOk "SpeaksInTurn$Changes" 16 1 6 2 true := ⟨"SpeaksInTurn$Changes", TX1, rfl, inX1, by decide, rfl, rfl, q261, tyX1_ok, nmX1⟩
theorem fk_X1_19 : FOk "SpeaksInTurn$Changes" 19 1 6 3 true := ⟨"SpeaksInTurn$Changes", TX1, rfl, inX1, by decide, rfl, rfl, q263, tyX1_ok, nmX1⟩
theorem fk_X1_22 : FOk "SpeaksInTurn$Changes" 22 1 6 4 false := ⟨"SpeaksInTurn$Changes", TX1, rfl, inX1, by decide, rfl, rfl, q265, tyX1_ok, nmX1⟩
theorem fk_X1_29 : FOk "SpeaksInTurn$Changes" 29 1 6 5 false := ⟨"SpeaksInTurn$Changes", TX1, rfl, inX1, by decide, rfl, rfl, q267, tyX1_ok, nmX1⟩
theorem fk_X1_9 : FOk "SpeaksInTurn$Changes" 9 1 6 0 true := ⟨"SpeaksInTurn$Changes", TX1, rfl, inX1, by decide, rfl, rfl, q257, tyX1_ok, nmX1⟩
theorem fk_X2_13 : FOk "SpeaksInTurn$Law" 13 2 9 1 true := ⟨"SpeaksInTurn$Law", TX2, rfl, inX2, by decide, rfl, rfl, q141, tyX2_ok, nmX2⟩
theorem fk_X2_16 : FOk "SpeaksInTurn$Law" 16 2 9 3 false := ⟨"SpeaksInTurn$Law", TX2, rfl, inX2, by decide, rfl, rfl, q144, tyX2_ok, nmX2⟩
theorem fk_X2_19 : FOk "SpeaksInTurn$Law" 19 2 9 4 false := ⟨"SpeaksInTurn$Law", TX2, rfl, inX2, by decide, rfl, rfl, q145, tyX2_ok, nmX2⟩
theorem fk_X2_22 : FOk "SpeaksInTurn$Law" 22 2 9 2 false := ⟨"SpeaksInTurn$Law", TX2, rfl, inX2, by decide, rfl, rfl, q142, tyX2_ok, nmX2⟩
theorem fk_X2_26 : FOk "SpeaksInTurn$Law" 26 2 9 7 false := ⟨"SpeaksInTurn$Law", TX2, rfl, inX2, by decide, rfl, rfl, q148, tyX2_ok, nmX2⟩
theorem fk_X2_29 : FOk "SpeaksInTurn$Law" 29 2 9 8 false := ⟨"SpeaksInTurn$Law", TX2, rfl, inX2, by decide, rfl, rfl, q149, tyX2_ok, nmX2⟩
theorem fk_X2_32 : FOk "SpeaksInTurn$Law" 32 2 9 6 false := ⟨"SpeaksInTurn$Law", TX2, rfl, inX2, by decide, rfl, rfl, q147, tyX2_ok, nmX2⟩
theorem fk_X2_45 : FOk "SpeaksInTurn$Law" 45 2 9 5 false := ⟨"SpeaksInTurn$Law", TX2, rfl, inX2, by decide, rfl, rfl, q146, tyX2_ok, nmX2⟩
theorem fk_X2_9 : FOk "SpeaksInTurn$Law" 9 2 9 0 true := ⟨"SpeaksInTurn$Law", TX2, rfl, inX2, by decide, rfl, rfl, q140, tyX2_ok, nmX2⟩
theorem fk_X3_105 : FOk "SpeaksInTurn$Meeting" 105 6 17 3 true := ⟨"SpeaksInTurn$Table", TX6, rfl, inX6, by decide, rfl, rfl, q177, tyX6_ok, nmX6⟩
theorem fk_X3_108 : FOk "SpeaksInTurn$Meeting" 108 6 17 13 false := ⟨"SpeaksInTurn$Table", TX6, rfl, inX6, by decide, rfl, rfl, q203, tyX6_ok, nmX6⟩
theorem fk_X3_115 : FOk "SpeaksInTurn$Meeting" 115 6 17 10 true := ⟨"SpeaksInTurn$Table", TX6, rfl, inX6, by decide, rfl, rfl, q193, tyX6_ok, nmX6⟩
theorem fk_X3_121 : FOk "SpeaksInTurn$Meeting" 121 6 17 11 true := ⟨"SpeaksInTurn$Table", TX6, rfl, inX6, by decide, rfl, rfl, q195, tyX6_ok, nmX6⟩
theorem fk_X3_128 : FOk "SpeaksInTurn$Meeting" 128 6 17 15 false := ⟨"SpeaksInTurn$Table", TX6, rfl, inX6, by decide, rfl, rfl, q212, tyX6_ok, nmX6⟩
theorem fk_X3_131 : FOk "SpeaksInTurn$Meeting" 131 6 17 12 true := ⟨"SpeaksInTurn$Table", TX6, rfl, inX6, by decide, rfl, rfl, q198, tyX6_ok, nmX6⟩
theorem fk_X3_143 : FOk "SpeaksInTurn$Meeting" 143 6 17 0 true := ⟨"SpeaksInTurn$Table", TX6, rfl, inX6, by decide, rfl, rfl, q171, tyX6_ok, nmX6⟩
theorem fk_X3_146 : FOk "SpeaksInTurn$Meeting" 146 6 17 1 true := ⟨"SpeaksInTurn$Table", TX6, rfl, inX6, by decide, rfl, rfl, q173, tyX6_ok, nmX6⟩
theorem fk_X3_149 : FOk "SpeaksInTurn$Meeting" 149 6 17 5 true := ⟨"SpeaksInTurn$Table", TX6, rfl, inX6, by decide, rfl, rfl, q182, tyX6_ok, nmX6⟩
theorem fk_X3_15 : FOk "SpeaksInTurn$Meeting" 15 3 19 1 true := ⟨"SpeaksInTurn$Meeting", TX3, rfl, inX3, by decide, rfl, rfl, q297, tyX3_ok, nmX3⟩
theorem fk_X3_18 : FOk "SpeaksInTurn$Meeting" 18 3 19 2 true := ⟨"SpeaksInTurn$Meeting", TX3, rfl, inX3, by decide, rfl, rfl, q300, tyX3_ok, nmX3⟩
theorem fk_X3_195 : FOk "SpeaksInTurn$Meeting" 195 6 17 9 true := ⟨"SpeaksInTurn$Table", TX6, rfl, inX6, by decide, rfl, rfl, q191, tyX6_ok, nmX6⟩
theorem fk_X3_206 : FOk "SpeaksInTurn$Meeting" 206 6 17 2 true := ⟨"SpeaksInTurn$Table", TX6, rfl, inX6, by decide, rfl, rfl, q175, tyX6_ok, nmX6⟩
theorem fk_X3_21 : FOk "SpeaksInTurn$Meeting" 21 3 19 3 true := ⟨"SpeaksInTurn$Meeting", TX3, rfl, inX3, by decide, rfl, rfl, q302, tyX3_ok, nmX3⟩
theorem fk_X3_24 : FOk "SpeaksInTurn$Meeting" 24 3 19 4 true := ⟨"SpeaksInTurn$Meeting", TX3, rfl, inX3, by decide, rfl, rfl, q304, tyX3_ok, nmX3⟩
theorem fk_X3_27 : FOk "SpeaksInTurn$Meeting" 27 3 19 5 true := ⟨"SpeaksInTurn$Meeting", TX3, rfl, inX3, by decide, rfl, rfl, q306, tyX3_ok, nmX3⟩
theorem fk_X3_30 : FOk "SpeaksInTurn$Meeting" 30 3 19 6 true := ⟨"SpeaksInTurn$Meeting", TX3, rfl, inX3, by decide, rfl, rfl, q308, tyX3_ok, nmX3⟩
theorem fk_X3_35 : FOk "SpeaksInTurn$Meeting" 35 3 19 11 true := ⟨"SpeaksInTurn$Meeting", TX3, rfl, inX3, by decide, rfl, rfl, q319, tyX3_ok, nmX3⟩
theorem fk_X3_38 : FOk "SpeaksInTurn$Meeting" 38 3 19 12 true := ⟨"SpeaksInTurn$Meeting", TX3, rfl, inX3, by decide, rfl, rfl, q320, tyX3_ok, nmX3⟩
theorem fk_X3_41 : FOk "SpeaksInTurn$Meeting" 41 3 19 13 true := ⟨"SpeaksInTurn$Meeting", TX3, rfl, inX3, by decide, rfl, rfl, q321, tyX3_ok, nmX3⟩
theorem fk_X3_44 : FOk "SpeaksInTurn$Meeting" 44 3 19 14 true := ⟨"SpeaksInTurn$Meeting", TX3, rfl, inX3, by decide, rfl, rfl, q322, tyX3_ok, nmX3⟩
theorem fk_X3_47 : FOk "SpeaksInTurn$Meeting" 47 3 19 10 true := ⟨"SpeaksInTurn$Meeting", TX3, rfl, inX3, by decide, rfl, rfl, q318, tyX3_ok, nmX3⟩
theorem fk_X3_57 : FOk "SpeaksInTurn$Meeting" 57 3 19 7 false := ⟨"SpeaksInTurn$Meeting", TX3, rfl, inX3, by decide, rfl, rfl, q310, tyX3_ok, nmX3⟩
theorem fk_X3_61 : FOk "SpeaksInTurn$Meeting" 61 3 19 8 false := ⟨"SpeaksInTurn$Meeting", TX3, rfl, inX3, by decide, rfl, rfl, q314, tyX3_ok, nmX3⟩
theorem fk_X3_64 : FOk "SpeaksInTurn$Meeting" 64 3 19 9 false := ⟨"SpeaksInTurn$Meeting", TX3, rfl, inX3, by decide, rfl, rfl, q316, tyX3_ok, nmX3⟩
theorem fk_X3_67 : FOk "SpeaksInTurn$Meeting" 67 3 19 18 false := ⟨"SpeaksInTurn$Meeting", TX3, rfl, inX3, by decide, rfl, rfl, q326, tyX3_ok, nmX3⟩
theorem fk_X3_73 : FOk "SpeaksInTurn$Meeting" 73 3 19 15 false := ⟨"SpeaksInTurn$Meeting", TX3, rfl, inX3, by decide, rfl, rfl, q323, tyX3_ok, nmX3⟩
theorem fk_X3_76 : FOk "SpeaksInTurn$Meeting" 76 3 19 16 false := ⟨"SpeaksInTurn$Meeting", TX3, rfl, inX3, by decide, rfl, rfl, q324, tyX3_ok, nmX3⟩
theorem fk_X3_79 : FOk "SpeaksInTurn$Meeting" 79 3 19 17 false := ⟨"SpeaksInTurn$Meeting", TX3, rfl, inX3, by decide, rfl, rfl, q325, tyX3_ok, nmX3⟩
theorem fk_X3_82 : FOk "SpeaksInTurn$Meeting" 82 6 17 14 false := ⟨"SpeaksInTurn$Table", TX6, rfl, inX6, by decide, rfl, rfl, q208, tyX6_ok, nmX6⟩
theorem fk_X3_9 : FOk "SpeaksInTurn$Meeting" 9 3 19 0 true := ⟨"SpeaksInTurn$Meeting", TX3, rfl, inX3, by decide, rfl, rfl, q294, tyX3_ok, nmX3⟩
theorem fk_X4_120 : FOk "SpeaksInTurn$Minutes" 120 3 19 1 true := ⟨"SpeaksInTurn$Meeting", TX3, rfl, inX3, by decide, rfl, rfl, q298, tyX3_ok, nmX3⟩
theorem fk_X4_123 : FOk "SpeaksInTurn$Minutes" 123 6 17 4 true := ⟨"SpeaksInTurn$Table", TX6, rfl, inX6, by decide, rfl, rfl, q179, tyX6_ok, nmX6⟩
theorem fk_X4_131 : FOk "SpeaksInTurn$Minutes" 131 3 19 6 true := ⟨"SpeaksInTurn$Meeting", TX3, rfl, inX3, by decide, rfl, rfl, q309, tyX3_ok, nmX3⟩
theorem fk_X4_134 : FOk "SpeaksInTurn$Minutes" 134 3 19 4 true := ⟨"SpeaksInTurn$Meeting", TX3, rfl, inX3, by decide, rfl, rfl, q305, tyX3_ok, nmX3⟩
theorem fk_X4_137 : FOk "SpeaksInTurn$Minutes" 137 3 19 5 true := ⟨"SpeaksInTurn$Meeting", TX3, rfl, inX3, by decide, rfl, rfl, q307, tyX3_ok, nmX3⟩
theorem fk_X4_15 : FOk "SpeaksInTurn$Minutes" 15 4 11 2 true := ⟨"SpeaksInTurn$Minutes", TX4, rfl, inX4, by decide, rfl, rfl, q370, tyX4_ok, nmX4⟩
theorem fk_X4_18 : FOk "SpeaksInTurn$Minutes" 18 4 11 6 true := ⟨"SpeaksInTurn$Minutes", TX4, rfl, inX4, by decide, rfl, rfl, q376, tyX4_ok, nmX4⟩
theorem fk_X4_21 : FOk "SpeaksInTurn$Minutes" 21 4 11 7 true := ⟨"SpeaksInTurn$Minutes", TX4, rfl, inX4, by decide, rfl, rfl, q377, tyX4_ok, nmX4⟩
theorem fk_X4_24 : FOk "SpeaksInTurn$Minutes" 24 4 11 4 true := ⟨"SpeaksInTurn$Minutes", TX4, rfl, inX4, by decide, rfl, rfl, q374, tyX4_ok, nmX4⟩
theorem fk_X4_33 : FOk "SpeaksInTurn$Minutes" 33 4 11 0 true := ⟨"SpeaksInTurn$Minutes", TX4, rfl, inX4, by decide, rfl, rfl, q366, tyX4_ok, nmX4⟩
theorem fk_X4_37 : FOk "SpeaksInTurn$Minutes" 37 4 11 5 true := ⟨"SpeaksInTurn$Minutes", TX4, rfl, inX4, by decide, rfl, rfl, q375, tyX4_ok, nmX4⟩
theorem fk_X4_44 : FOk "SpeaksInTurn$Minutes" 44 6 17 14 false := ⟨"SpeaksInTurn$Table", TX6, rfl, inX6, by decide, rfl, rfl, q205, tyX6_ok, nmX6⟩
theorem fk_X4_50 : FOk "SpeaksInTurn$Minutes" 50 6 17 9 true := ⟨"SpeaksInTurn$Table", TX6, rfl, inX6, by decide, rfl, rfl, q188, tyX6_ok, nmX6⟩
theorem fk_X4_57 : FOk "SpeaksInTurn$Minutes" 57 4 11 3 false := ⟨"SpeaksInTurn$Minutes", TX4, rfl, inX4, by decide, rfl, rfl, q372, tyX4_ok, nmX4⟩
theorem fk_X4_61 : FOk "SpeaksInTurn$Minutes" 61 6 17 13 false := ⟨"SpeaksInTurn$Table", TX6, rfl, inX6, by decide, rfl, rfl, q202, tyX6_ok, nmX6⟩
theorem fk_X4_64 : FOk "SpeaksInTurn$Minutes" 64 4 11 8 false := ⟨"SpeaksInTurn$Minutes", TX4, rfl, inX4, by decide, rfl, rfl, q378, tyX4_ok, nmX4⟩
theorem fk_X4_65 : FOk "SpeaksInTurn$Minutes" 65 4 11 9 false := ⟨"SpeaksInTurn$Minutes", TX4, rfl, inX4, by decide, rfl, rfl, q379, tyX4_ok, nmX4⟩
theorem fk_X4_66 : FOk "SpeaksInTurn$Minutes" 66 6 17 15 false := ⟨"SpeaksInTurn$Table", TX6, rfl, inX6, by decide, rfl, rfl, q209, tyX6_ok, nmX6⟩
theorem fk_X4_69 : FOk "SpeaksInTurn$Minutes" 69 4 11 10 false := ⟨"SpeaksInTurn$Minutes", TX4, rfl, inX4, by decide, rfl, rfl, q380, tyX4_ok, nmX4⟩
theorem fk_X4_70 : FOk "SpeaksInTurn$Minutes" 70 3 19 9 false := ⟨"SpeaksInTurn$Meeting", TX3, rfl, inX3, by decide, rfl, rfl, q317, tyX3_ok, nmX3⟩
theorem fk_X4_88 : FOk "SpeaksInTurn$Minutes" 88 3 19 8 false := ⟨"SpeaksInTurn$Meeting", TX3, rfl, inX3, by decide, rfl, rfl, q315, tyX3_ok, nmX3⟩
theorem fk_X4_9 : FOk "SpeaksInTurn$Minutes" 9 4 11 1 true := ⟨"SpeaksInTurn$Minutes", TX4, rfl, inX4, by decide, rfl, rfl, q368, tyX4_ok, nmX4⟩
theorem fk_X4_94 : FOk "SpeaksInTurn$Minutes" 94 3 19 7 false := ⟨"SpeaksInTurn$Meeting", TX3, rfl, inX3, by decide, rfl, rfl, q311, tyX3_ok, nmX3⟩
theorem fk_X5_15 : FOk "SpeaksInTurn$Shelf" 15 5 4 1 false := ⟨"SpeaksInTurn$Shelf", TX5, rfl, inX5, by decide, rfl, rfl, q465, tyX5_ok, nmX5⟩
theorem fk_X5_18 : FOk "SpeaksInTurn$Shelf" 18 5 4 3 true := ⟨"SpeaksInTurn$Shelf", TX5, rfl, inX5, by decide, rfl, rfl, q469, tyX5_ok, nmX5⟩
theorem fk_X5_22 : FOk "SpeaksInTurn$Shelf" 22 5 4 2 false := ⟨"SpeaksInTurn$Shelf", TX5, rfl, inX5, by decide, rfl, rfl, q467, tyX5_ok, nmX5⟩
theorem fk_X5_9 : FOk "SpeaksInTurn$Shelf" 9 5 4 0 false := ⟨"SpeaksInTurn$Shelf", TX5, rfl, inX5, by decide, rfl, rfl, q463, tyX5_ok, nmX5⟩
theorem fk_X6_15 : FOk "SpeaksInTurn$Table" 15 6 17 1 true := ⟨"SpeaksInTurn$Table", TX6, rfl, inX6, by decide, rfl, rfl, q172, tyX6_ok, nmX6⟩
theorem fk_X6_18 : FOk "SpeaksInTurn$Table" 18 6 17 2 true := ⟨"SpeaksInTurn$Table", TX6, rfl, inX6, by decide, rfl, rfl, q174, tyX6_ok, nmX6⟩
theorem fk_X6_21 : FOk "SpeaksInTurn$Table" 21 6 17 3 true := ⟨"SpeaksInTurn$Table", TX6, rfl, inX6, by decide, rfl, rfl, q176, tyX6_ok, nmX6⟩
theorem fk_X6_24 : FOk "SpeaksInTurn$Table" 24 6 17 4 true := ⟨"SpeaksInTurn$Table", TX6, rfl, inX6, by decide, rfl, rfl, q178, tyX6_ok, nmX6⟩
theorem fk_X6_27 : FOk "SpeaksInTurn$Table" 27 6 17 5 true := ⟨"SpeaksInTurn$Table", TX6, rfl, inX6, by decide, rfl, rfl, q181, tyX6_ok, nmX6⟩
theorem fk_X6_30 : FOk "SpeaksInTurn$Table" 30 6 17 6 true := ⟨"SpeaksInTurn$Table", TX6, rfl, inX6, by decide, rfl, rfl, q184, tyX6_ok, nmX6⟩
theorem fk_X6_33 : FOk "SpeaksInTurn$Table" 33 6 17 7 true := ⟨"SpeaksInTurn$Table", TX6, rfl, inX6, by decide, rfl, rfl, q185, tyX6_ok, nmX6⟩
theorem fk_X6_36 : FOk "SpeaksInTurn$Table" 36 6 17 8 true := ⟨"SpeaksInTurn$Table", TX6, rfl, inX6, by decide, rfl, rfl, q186, tyX6_ok, nmX6⟩
theorem fk_X6_42 : FOk "SpeaksInTurn$Table" 42 6 17 10 true := ⟨"SpeaksInTurn$Table", TX6, rfl, inX6, by decide, rfl, rfl, q192, tyX6_ok, nmX6⟩
theorem fk_X6_45 : FOk "SpeaksInTurn$Table" 45 6 17 11 true := ⟨"SpeaksInTurn$Table", TX6, rfl, inX6, by decide, rfl, rfl, q194, tyX6_ok, nmX6⟩
theorem fk_X6_55 : FOk "SpeaksInTurn$Table" 55 6 17 13 false := ⟨"SpeaksInTurn$Table", TX6, rfl, inX6, by decide, rfl, rfl, q200, tyX6_ok, nmX6⟩
theorem fk_X6_59 : FOk "SpeaksInTurn$Table" 59 6 17 14 false := ⟨"SpeaksInTurn$Table", TX6, rfl, inX6, by decide, rfl, rfl, q204, tyX6_ok, nmX6⟩
theorem fk_X6_62 : FOk "SpeaksInTurn$Table" 62 6 17 16 false := ⟨"SpeaksInTurn$Table", TX6, rfl, inX6, by decide, rfl, rfl, q214, tyX6_ok, nmX6⟩
theorem fk_X6_65 : FOk "SpeaksInTurn$Table" 65 6 17 15 false := ⟨"SpeaksInTurn$Table", TX6, rfl, inX6, by decide, rfl, rfl, q211, tyX6_ok, nmX6⟩
theorem fk_X6_74 : FOk "SpeaksInTurn$Table" 74 5 4 3 true := ⟨"SpeaksInTurn$Shelf", TX5, rfl, inX5, by decide, rfl, rfl, q470, tyX5_ok, nmX5⟩
theorem fk_X6_9 : FOk "SpeaksInTurn$Table" 9 6 17 0 true := ⟨"SpeaksInTurn$Table", TX6, rfl, inX6, by decide, rfl, rfl, q170, tyX6_ok, nmX6⟩
theorem fk_X7_104 : FOk "SpeaksInTurn$Thought" 104 5 4 3 true := ⟨"SpeaksInTurn$Shelf", TX5, rfl, inX5, by decide, rfl, rfl, q471, tyX5_ok, nmX5⟩
theorem fk_X7_108 : FOk "SpeaksInTurn$Thought" 108 3 19 0 true := ⟨"SpeaksInTurn$Meeting", TX3, rfl, inX3, by decide, rfl, rfl, q295, tyX3_ok, nmX3⟩
theorem fk_X7_114 : FOk "SpeaksInTurn$Thought" 114 6 17 12 true := ⟨"SpeaksInTurn$Table", TX6, rfl, inX6, by decide, rfl, rfl, q199, tyX6_ok, nmX6⟩
theorem fk_X7_15 : FOk "SpeaksInTurn$Thought" 15 7 5 3 true := ⟨"SpeaksInTurn$Thought", TX7, rfl, inX7, by decide, rfl, rfl, q415, tyX7_ok, nmX7⟩
theorem fk_X7_18 : FOk "SpeaksInTurn$Thought" 18 7 5 4 true := ⟨"SpeaksInTurn$Thought", TX7, rfl, inX7, by decide, rfl, rfl, q416, tyX7_ok, nmX7⟩
theorem fk_X7_21 : FOk "SpeaksInTurn$Thought" 21 7 5 0 true := ⟨"SpeaksInTurn$Thought", TX7, rfl, inX7, by decide, rfl, rfl, q412, tyX7_ok, nmX7⟩
theorem fk_X7_30 : FOk "SpeaksInTurn$Thought" 30 7 5 1 true := ⟨"SpeaksInTurn$Thought", TX7, rfl, inX7, by decide, rfl, rfl, q413, tyX7_ok, nmX7⟩
theorem fk_X7_40 : FOk "SpeaksInTurn$Thought" 40 6 17 14 false := ⟨"SpeaksInTurn$Table", TX6, rfl, inX6, by decide, rfl, rfl, q206, tyX6_ok, nmX6⟩
theorem fk_X7_44 : FOk "SpeaksInTurn$Thought" 44 6 17 16 false := ⟨"SpeaksInTurn$Table", TX6, rfl, inX6, by decide, rfl, rfl, q213, tyX6_ok, nmX6⟩
theorem fk_X7_59 : FOk "SpeaksInTurn$Thought" 59 6 17 9 true := ⟨"SpeaksInTurn$Table", TX6, rfl, inX6, by decide, rfl, rfl, q189, tyX6_ok, nmX6⟩
theorem fk_X7_9 : FOk "SpeaksInTurn$Thought" 9 7 5 2 true := ⟨"SpeaksInTurn$Thought", TX7, rfl, inX7, by decide, rfl, rfl, q414, tyX7_ok, nmX7⟩
theorem fk_X7_96 : FOk "SpeaksInTurn$Thought" 96 3 19 7 false := ⟨"SpeaksInTurn$Meeting", TX3, rfl, inX3, by decide, rfl, rfl, q312, tyX3_ok, nmX3⟩
theorem fk_X7_99 : FOk "SpeaksInTurn$Thought" 99 5 4 2 false := ⟨"SpeaksInTurn$Shelf", TX5, rfl, inX5, by decide, rfl, rfl, q468, tyX5_ok, nmX5⟩
theorem fk_X8_10 : FOk "SpeaksInTurn" 10 8 6 0 true := ⟨"SpeaksInTurn", TX8, rfl, inX8, by decide, rfl, rfl, q483, tyX8_ok, nmX8⟩
theorem fk_X8_107 : FOk "SpeaksInTurn" 107 6 17 16 false := ⟨"SpeaksInTurn$Table", TX6, rfl, inX6, by decide, rfl, rfl, q215, tyX6_ok, nmX6⟩
theorem fk_X8_117 : FOk "SpeaksInTurn" 117 6 17 9 true := ⟨"SpeaksInTurn$Table", TX6, rfl, inX6, by decide, rfl, rfl, q190, tyX6_ok, nmX6⟩
theorem fk_X8_142 : FOk "SpeaksInTurn" 142 6 17 4 true := ⟨"SpeaksInTurn$Table", TX6, rfl, inX6, by decide, rfl, rfl, q180, tyX6_ok, nmX6⟩
theorem fk_X8_145 : FOk "SpeaksInTurn" 145 6 17 5 true := ⟨"SpeaksInTurn$Table", TX6, rfl, inX6, by decide, rfl, rfl, q183, tyX6_ok, nmX6⟩
theorem fk_X8_160 : FOk "SpeaksInTurn" 160 4 11 3 false := ⟨"SpeaksInTurn$Minutes", TX4, rfl, inX4, by decide, rfl, rfl, q373, tyX4_ok, nmX4⟩
theorem fk_X8_164 : FOk "SpeaksInTurn" 164 4 11 1 true := ⟨"SpeaksInTurn$Minutes", TX4, rfl, inX4, by decide, rfl, rfl, q369, tyX4_ok, nmX4⟩
theorem fk_X8_167 : FOk "SpeaksInTurn" 167 4 11 0 true := ⟨"SpeaksInTurn$Minutes", TX4, rfl, inX4, by decide, rfl, rfl, q367, tyX4_ok, nmX4⟩
theorem fk_X8_171 : FOk "SpeaksInTurn" 171 3 19 7 false := ⟨"SpeaksInTurn$Meeting", TX3, rfl, inX3, by decide, rfl, rfl, q313, tyX3_ok, nmX3⟩
theorem fk_X8_176 : FOk "SpeaksInTurn" 176 3 19 0 true := ⟨"SpeaksInTurn$Meeting", TX3, rfl, inX3, by decide, rfl, rfl, q296, tyX3_ok, nmX3⟩
theorem fk_X8_182 : FOk "SpeaksInTurn" 182 3 19 1 true := ⟨"SpeaksInTurn$Meeting", TX3, rfl, inX3, by decide, rfl, rfl, q299, tyX3_ok, nmX3⟩
theorem fk_X8_185 : FOk "SpeaksInTurn" 185 4 11 2 true := ⟨"SpeaksInTurn$Minutes", TX4, rfl, inX4, by decide, rfl, rfl, q371, tyX4_ok, nmX4⟩
theorem fk_X8_19 : FOk "SpeaksInTurn" 19 8 6 1 true := ⟨"SpeaksInTurn", TX8, rfl, inX8, by decide, rfl, rfl, q484, tyX8_ok, nmX8⟩
theorem fk_X8_195 : FOk "SpeaksInTurn" 195 3 19 2 true := ⟨"SpeaksInTurn$Meeting", TX3, rfl, inX3, by decide, rfl, rfl, q301, tyX3_ok, nmX3⟩
theorem fk_X8_198 : FOk "SpeaksInTurn" 198 3 19 3 true := ⟨"SpeaksInTurn$Meeting", TX3, rfl, inX3, by decide, rfl, rfl, q303, tyX3_ok, nmX3⟩
theorem fk_X8_214 : FOk "SpeaksInTurn" 214 1 6 4 false := ⟨"SpeaksInTurn$Changes", TX1, rfl, inX1, by decide, rfl, rfl, q266, tyX1_ok, nmX1⟩
theorem fk_X8_217 : FOk "SpeaksInTurn" 217 1 6 0 true := ⟨"SpeaksInTurn$Changes", TX1, rfl, inX1, by decide, rfl, rfl, q258, tyX1_ok, nmX1⟩
theorem fk_X8_220 : FOk "SpeaksInTurn" 220 1 6 1 true := ⟨"SpeaksInTurn$Changes", TX1, rfl, inX1, by decide, rfl, rfl, q260, tyX1_ok, nmX1⟩
theorem fk_X8_223 : FOk "SpeaksInTurn" 223 1 6 2 true := ⟨"SpeaksInTurn$Changes", TX1, rfl, inX1, by decide, rfl, rfl, q262, tyX1_ok, nmX1⟩
theorem fk_X8_229 : FOk "SpeaksInTurn" 229 1 6 3 true := ⟨"SpeaksInTurn$Changes", TX1, rfl, inX1, by decide, rfl, rfl, q264, tyX1_ok, nmX1⟩
theorem fk_X8_232 : FOk "SpeaksInTurn" 232 1 6 5 false := ⟨"SpeaksInTurn$Changes", TX1, rfl, inX1, by decide, rfl, rfl, q268, tyX1_ok, nmX1⟩
theorem fk_X8_235 : FOk "SpeaksInTurn" 235 0 6 1 false := ⟨"SpeaksInTurn$Acts", TX0, rfl, inX0, by decide, rfl, rfl, q437, tyX0_ok, nmX0⟩
theorem fk_X8_241 : FOk "SpeaksInTurn" 241 0 6 2 false := ⟨"SpeaksInTurn$Acts", TX0, rfl, inX0, by decide, rfl, rfl, q439, tyX0_ok, nmX0⟩
theorem fk_X8_247 : FOk "SpeaksInTurn" 247 0 6 0 true := ⟨"SpeaksInTurn$Acts", TX0, rfl, inX0, by decide, rfl, rfl, q435, tyX0_ok, nmX0⟩
theorem fk_X8_269 : FOk "SpeaksInTurn" 269 5 4 3 true := ⟨"SpeaksInTurn$Shelf", TX5, rfl, inX5, by decide, rfl, rfl, q472, tyX5_ok, nmX5⟩
theorem fk_X8_28 : FOk "SpeaksInTurn" 28 8 6 2 true := ⟨"SpeaksInTurn", TX8, rfl, inX8, by decide, rfl, rfl, q485, tyX8_ok, nmX8⟩
theorem fk_X8_283 : FOk "SpeaksInTurn" 283 5 4 1 false := ⟨"SpeaksInTurn$Shelf", TX5, rfl, inX5, by decide, rfl, rfl, q466, tyX5_ok, nmX5⟩
theorem fk_X8_292 : FOk "SpeaksInTurn" 292 2 9 2 false := ⟨"SpeaksInTurn$Law", TX2, rfl, inX2, by decide, rfl, rfl, q143, tyX2_ok, nmX2⟩
theorem fk_X8_35 : FOk "SpeaksInTurn" 35 8 6 3 true := ⟨"SpeaksInTurn", TX8, rfl, inX8, by decide, rfl, rfl, q486, tyX8_ok, nmX8⟩
theorem fk_X8_42 : FOk "SpeaksInTurn" 42 8 6 4 true := ⟨"SpeaksInTurn", TX8, rfl, inX8, by decide, rfl, rfl, q487, tyX8_ok, nmX8⟩
theorem fk_X8_48 : FOk "SpeaksInTurn" 48 8 6 5 true := ⟨"SpeaksInTurn", TX8, rfl, inX8, by decide, rfl, rfl, q488, tyX8_ok, nmX8⟩
theorem fk_X8_53 : FOk "SpeaksInTurn" 53 6 17 13 false := ⟨"SpeaksInTurn$Table", TX6, rfl, inX6, by decide, rfl, rfl, q201, tyX6_ok, nmX6⟩
theorem fk_X8_61 : FOk "SpeaksInTurn" 61 6 17 14 false := ⟨"SpeaksInTurn$Table", TX6, rfl, inX6, by decide, rfl, rfl, q207, tyX6_ok, nmX6⟩
theorem fk_X8_71 : FOk "SpeaksInTurn" 71 6 17 15 false := ⟨"SpeaksInTurn$Table", TX6, rfl, inX6, by decide, rfl, rfl, q210, tyX6_ok, nmX6⟩
theorem fk_X8_82 : FOk "SpeaksInTurn" 82 5 4 0 false := ⟨"SpeaksInTurn$Shelf", TX5, rfl, inX5, by decide, rfl, rfl, q464, tyX5_ok, nmX5⟩
theorem fk_X8_89 : FOk "SpeaksInTurn" 89 6 17 12 true := ⟨"SpeaksInTurn$Table", TX6, rfl, inX6, by decide, rfl, rfl, q197, tyX6_ok, nmX6⟩
theorem fk_X9_100 : FOk "SpeaksInTurnModel" 100 9 76 55 true := ⟨"SpeaksInTurnModel", TX9, rfl, inX9, by decide, rfl, rfl, q1206, tyX9_ok, nmX9⟩
theorem fk_X9_103 : FOk "SpeaksInTurnModel" 103 9 76 56 true := ⟨"SpeaksInTurnModel", TX9, rfl, inX9, by decide, rfl, rfl, q1207, tyX9_ok, nmX9⟩
theorem fk_X9_106 : FOk "SpeaksInTurnModel" 106 9 76 57 true := ⟨"SpeaksInTurnModel", TX9, rfl, inX9, by decide, rfl, rfl, q1208, tyX9_ok, nmX9⟩
theorem fk_X9_109 : FOk "SpeaksInTurnModel" 109 9 76 58 true := ⟨"SpeaksInTurnModel", TX9, rfl, inX9, by decide, rfl, rfl, q1209, tyX9_ok, nmX9⟩
theorem fk_X9_112 : FOk "SpeaksInTurnModel" 112 9 76 59 true := ⟨"SpeaksInTurnModel", TX9, rfl, inX9, by decide, rfl, rfl, q1210, tyX9_ok, nmX9⟩
theorem fk_X9_115 : FOk "SpeaksInTurnModel" 115 9 76 60 true := ⟨"SpeaksInTurnModel", TX9, rfl, inX9, by decide, rfl, rfl, q1211, tyX9_ok, nmX9⟩
theorem fk_X9_118 : FOk "SpeaksInTurnModel" 118 9 76 61 true := ⟨"SpeaksInTurnModel", TX9, rfl, inX9, by decide, rfl, rfl, q1212, tyX9_ok, nmX9⟩
theorem fk_X9_121 : FOk "SpeaksInTurnModel" 121 9 76 62 true := ⟨"SpeaksInTurnModel", TX9, rfl, inX9, by decide, rfl, rfl, q1213, tyX9_ok, nmX9⟩
theorem fk_X9_124 : FOk "SpeaksInTurnModel" 124 9 76 67 true := ⟨"SpeaksInTurnModel", TX9, rfl, inX9, by decide, rfl, rfl, q1218, tyX9_ok, nmX9⟩
theorem fk_X9_127 : FOk "SpeaksInTurnModel" 127 9 76 68 true := ⟨"SpeaksInTurnModel", TX9, rfl, inX9, by decide, rfl, rfl, q1219, tyX9_ok, nmX9⟩
theorem fk_X9_13 : FOk "SpeaksInTurnModel" 13 9 76 1 true := ⟨"SpeaksInTurnModel", TX9, rfl, inX9, by decide, rfl, rfl, q1152, tyX9_ok, nmX9⟩
theorem fk_X9_130 : FOk "SpeaksInTurnModel" 130 9 76 72 true := ⟨"SpeaksInTurnModel", TX9, rfl, inX9, by decide, rfl, rfl, q1223, tyX9_ok, nmX9⟩
theorem fk_X9_133 : FOk "SpeaksInTurnModel" 133 9 76 73 true := ⟨"SpeaksInTurnModel", TX9, rfl, inX9, by decide, rfl, rfl, q1224, tyX9_ok, nmX9⟩
theorem fk_X9_136 : FOk "SpeaksInTurnModel" 136 9 76 74 true := ⟨"SpeaksInTurnModel", TX9, rfl, inX9, by decide, rfl, rfl, q1225, tyX9_ok, nmX9⟩
theorem fk_X9_140 : FOk "SpeaksInTurnModel" 140 9 76 75 true := ⟨"SpeaksInTurnModel", TX9, rfl, inX9, by decide, rfl, rfl, q1226, tyX9_ok, nmX9⟩
theorem fk_X9_143 : FOk "SpeaksInTurnModel" 143 9 76 19 false := ⟨"SpeaksInTurnModel", TX9, rfl, inX9, by decide, rfl, rfl, q1170, tyX9_ok, nmX9⟩
theorem fk_X9_147 : FOk "SpeaksInTurnModel" 147 9 76 15 false := ⟨"SpeaksInTurnModel", TX9, rfl, inX9, by decide, rfl, rfl, q1166, tyX9_ok, nmX9⟩
theorem fk_X9_150 : FOk "SpeaksInTurnModel" 150 9 76 46 false := ⟨"SpeaksInTurnModel", TX9, rfl, inX9, by decide, rfl, rfl, q1197, tyX9_ok, nmX9⟩
theorem fk_X9_153 : FOk "SpeaksInTurnModel" 153 9 76 5 false := ⟨"SpeaksInTurnModel", TX9, rfl, inX9, by decide, rfl, rfl, q1156, tyX9_ok, nmX9⟩
theorem fk_X9_156 : FOk "SpeaksInTurnModel" 156 9 76 4 false := ⟨"SpeaksInTurnModel", TX9, rfl, inX9, by decide, rfl, rfl, q1155, tyX9_ok, nmX9⟩
theorem fk_X9_159 : FOk "SpeaksInTurnModel" 159 9 76 6 false := ⟨"SpeaksInTurnModel", TX9, rfl, inX9, by decide, rfl, rfl, q1157, tyX9_ok, nmX9⟩
theorem fk_X9_16 : FOk "SpeaksInTurnModel" 16 9 76 2 true := ⟨"SpeaksInTurnModel", TX9, rfl, inX9, by decide, rfl, rfl, q1153, tyX9_ok, nmX9⟩
theorem fk_X9_166 : FOk "SpeaksInTurnModel" 166 9 76 8 false := ⟨"SpeaksInTurnModel", TX9, rfl, inX9, by decide, rfl, rfl, q1159, tyX9_ok, nmX9⟩
theorem fk_X9_169 : FOk "SpeaksInTurnModel" 169 9 76 9 false := ⟨"SpeaksInTurnModel", TX9, rfl, inX9, by decide, rfl, rfl, q1160, tyX9_ok, nmX9⟩
theorem fk_X9_19 : FOk "SpeaksInTurnModel" 19 9 76 3 true := ⟨"SpeaksInTurnModel", TX9, rfl, inX9, by decide, rfl, rfl, q1154, tyX9_ok, nmX9⟩
theorem fk_X9_205 : FOk "SpeaksInTurnModel" 205 9 76 13 false := ⟨"SpeaksInTurnModel", TX9, rfl, inX9, by decide, rfl, rfl, q1164, tyX9_ok, nmX9⟩
theorem fk_X9_208 : FOk "SpeaksInTurnModel" 208 9 76 14 false := ⟨"SpeaksInTurnModel", TX9, rfl, inX9, by decide, rfl, rfl, q1165, tyX9_ok, nmX9⟩
theorem fk_X9_22 : FOk "SpeaksInTurnModel" 22 9 76 7 true := ⟨"SpeaksInTurnModel", TX9, rfl, inX9, by decide, rfl, rfl, q1158, tyX9_ok, nmX9⟩
theorem fk_X9_227 : FOk "SpeaksInTurnModel" 227 9 76 17 false := ⟨"SpeaksInTurnModel", TX9, rfl, inX9, by decide, rfl, rfl, q1168, tyX9_ok, nmX9⟩
theorem fk_X9_230 : FOk "SpeaksInTurnModel" 230 9 76 21 false := ⟨"SpeaksInTurnModel", TX9, rfl, inX9, by decide, rfl, rfl, q1172, tyX9_ok, nmX9⟩
theorem fk_X9_233 : FOk "SpeaksInTurnModel" 233 9 76 22 false := ⟨"SpeaksInTurnModel", TX9, rfl, inX9, by decide, rfl, rfl, q1173, tyX9_ok, nmX9⟩
theorem fk_X9_236 : FOk "SpeaksInTurnModel" 236 9 76 20 false := ⟨"SpeaksInTurnModel", TX9, rfl, inX9, by decide, rfl, rfl, q1171, tyX9_ok, nmX9⟩
theorem fk_X9_239 : FOk "SpeaksInTurnModel" 239 9 76 23 false := ⟨"SpeaksInTurnModel", TX9, rfl, inX9, by decide, rfl, rfl, q1174, tyX9_ok, nmX9⟩
theorem fk_X9_25 : FOk "SpeaksInTurnModel" 25 9 76 10 true := ⟨"SpeaksInTurnModel", TX9, rfl, inX9, by decide, rfl, rfl, q1161, tyX9_ok, nmX9⟩
theorem fk_X9_264 : FOk "SpeaksInTurnModel" 264 9 76 24 false := ⟨"SpeaksInTurnModel", TX9, rfl, inX9, by decide, rfl, rfl, q1175, tyX9_ok, nmX9⟩
theorem fk_X9_28 : FOk "SpeaksInTurnModel" 28 9 76 11 true := ⟨"SpeaksInTurnModel", TX9, rfl, inX9, by decide, rfl, rfl, q1162, tyX9_ok, nmX9⟩
theorem fk_X9_280 : FOk "SpeaksInTurnModel" 280 9 76 26 false := ⟨"SpeaksInTurnModel", TX9, rfl, inX9, by decide, rfl, rfl, q1177, tyX9_ok, nmX9⟩
theorem fk_X9_283 : FOk "SpeaksInTurnModel" 283 9 76 27 false := ⟨"SpeaksInTurnModel", TX9, rfl, inX9, by decide, rfl, rfl, q1178, tyX9_ok, nmX9⟩
theorem fk_X9_286 : FOk "SpeaksInTurnModel" 286 9 76 28 false := ⟨"SpeaksInTurnModel", TX9, rfl, inX9, by decide, rfl, rfl, q1179, tyX9_ok, nmX9⟩
theorem fk_X9_289 : FOk "SpeaksInTurnModel" 289 9 76 29 false := ⟨"SpeaksInTurnModel", TX9, rfl, inX9, by decide, rfl, rfl, q1180, tyX9_ok, nmX9⟩
theorem fk_X9_305 : FOk "SpeaksInTurnModel" 305 9 76 31 false := ⟨"SpeaksInTurnModel", TX9, rfl, inX9, by decide, rfl, rfl, q1182, tyX9_ok, nmX9⟩
theorem fk_X9_31 : FOk "SpeaksInTurnModel" 31 9 76 12 true := ⟨"SpeaksInTurnModel", TX9, rfl, inX9, by decide, rfl, rfl, q1163, tyX9_ok, nmX9⟩
theorem fk_X9_321 : FOk "SpeaksInTurnModel" 321 9 76 30 false := ⟨"SpeaksInTurnModel", TX9, rfl, inX9, by decide, rfl, rfl, q1181, tyX9_ok, nmX9⟩
theorem fk_X9_34 : FOk "SpeaksInTurnModel" 34 9 76 16 true := ⟨"SpeaksInTurnModel", TX9, rfl, inX9, by decide, rfl, rfl, q1167, tyX9_ok, nmX9⟩
theorem fk_X9_37 : FOk "SpeaksInTurnModel" 37 9 76 18 true := ⟨"SpeaksInTurnModel", TX9, rfl, inX9, by decide, rfl, rfl, q1169, tyX9_ok, nmX9⟩
theorem fk_X9_379 : FOk "SpeaksInTurnModel" 379 9 76 47 false := ⟨"SpeaksInTurnModel", TX9, rfl, inX9, by decide, rfl, rfl, q1198, tyX9_ok, nmX9⟩
theorem fk_X9_382 : FOk "SpeaksInTurnModel" 382 9 76 48 false := ⟨"SpeaksInTurnModel", TX9, rfl, inX9, by decide, rfl, rfl, q1199, tyX9_ok, nmX9⟩
theorem fk_X9_385 : FOk "SpeaksInTurnModel" 385 9 76 49 false := ⟨"SpeaksInTurnModel", TX9, rfl, inX9, by decide, rfl, rfl, q1200, tyX9_ok, nmX9⟩
theorem fk_X9_40 : FOk "SpeaksInTurnModel" 40 9 76 25 true := ⟨"SpeaksInTurnModel", TX9, rfl, inX9, by decide, rfl, rfl, q1176, tyX9_ok, nmX9⟩
theorem fk_X9_424 : FOk "SpeaksInTurnModel" 424 9 76 63 false := ⟨"SpeaksInTurnModel", TX9, rfl, inX9, by decide, rfl, rfl, q1214, tyX9_ok, nmX9⟩
theorem fk_X9_427 : FOk "SpeaksInTurnModel" 427 9 76 64 false := ⟨"SpeaksInTurnModel", TX9, rfl, inX9, by decide, rfl, rfl, q1215, tyX9_ok, nmX9⟩
theorem fk_X9_43 : FOk "SpeaksInTurnModel" 43 9 76 32 true := ⟨"SpeaksInTurnModel", TX9, rfl, inX9, by decide, rfl, rfl, q1183, tyX9_ok, nmX9⟩
theorem fk_X9_430 : FOk "SpeaksInTurnModel" 430 9 76 65 false := ⟨"SpeaksInTurnModel", TX9, rfl, inX9, by decide, rfl, rfl, q1216, tyX9_ok, nmX9⟩
theorem fk_X9_444 : FOk "SpeaksInTurnModel" 444 9 76 66 false := ⟨"SpeaksInTurnModel", TX9, rfl, inX9, by decide, rfl, rfl, q1217, tyX9_ok, nmX9⟩
theorem fk_X9_449 : FOk "SpeaksInTurnModel" 449 9 76 69 false := ⟨"SpeaksInTurnModel", TX9, rfl, inX9, by decide, rfl, rfl, q1220, tyX9_ok, nmX9⟩
theorem fk_X9_458 : FOk "SpeaksInTurnModel" 458 9 76 71 false := ⟨"SpeaksInTurnModel", TX9, rfl, inX9, by decide, rfl, rfl, q1222, tyX9_ok, nmX9⟩
theorem fk_X9_46 : FOk "SpeaksInTurnModel" 46 9 76 33 true := ⟨"SpeaksInTurnModel", TX9, rfl, inX9, by decide, rfl, rfl, q1184, tyX9_ok, nmX9⟩
theorem fk_X9_464 : FOk "SpeaksInTurnModel" 464 9 76 70 false := ⟨"SpeaksInTurnModel", TX9, rfl, inX9, by decide, rfl, rfl, q1221, tyX9_ok, nmX9⟩
theorem fk_X9_49 : FOk "SpeaksInTurnModel" 49 9 76 34 true := ⟨"SpeaksInTurnModel", TX9, rfl, inX9, by decide, rfl, rfl, q1185, tyX9_ok, nmX9⟩
theorem fk_X9_52 : FOk "SpeaksInTurnModel" 52 9 76 35 true := ⟨"SpeaksInTurnModel", TX9, rfl, inX9, by decide, rfl, rfl, q1186, tyX9_ok, nmX9⟩
theorem fk_X9_55 : FOk "SpeaksInTurnModel" 55 9 76 36 true := ⟨"SpeaksInTurnModel", TX9, rfl, inX9, by decide, rfl, rfl, q1187, tyX9_ok, nmX9⟩
theorem fk_X9_58 : FOk "SpeaksInTurnModel" 58 9 76 37 true := ⟨"SpeaksInTurnModel", TX9, rfl, inX9, by decide, rfl, rfl, q1188, tyX9_ok, nmX9⟩
theorem fk_X9_61 : FOk "SpeaksInTurnModel" 61 9 76 38 true := ⟨"SpeaksInTurnModel", TX9, rfl, inX9, by decide, rfl, rfl, q1189, tyX9_ok, nmX9⟩
theorem fk_X9_64 : FOk "SpeaksInTurnModel" 64 9 76 39 true := ⟨"SpeaksInTurnModel", TX9, rfl, inX9, by decide, rfl, rfl, q1190, tyX9_ok, nmX9⟩
theorem fk_X9_67 : FOk "SpeaksInTurnModel" 67 9 76 40 true := ⟨"SpeaksInTurnModel", TX9, rfl, inX9, by decide, rfl, rfl, q1191, tyX9_ok, nmX9⟩
theorem fk_X9_70 : FOk "SpeaksInTurnModel" 70 9 76 41 true := ⟨"SpeaksInTurnModel", TX9, rfl, inX9, by decide, rfl, rfl, q1192, tyX9_ok, nmX9⟩
theorem fk_X9_73 : FOk "SpeaksInTurnModel" 73 9 76 42 true := ⟨"SpeaksInTurnModel", TX9, rfl, inX9, by decide, rfl, rfl, q1193, tyX9_ok, nmX9⟩
theorem fk_X9_76 : FOk "SpeaksInTurnModel" 76 9 76 43 true := ⟨"SpeaksInTurnModel", TX9, rfl, inX9, by decide, rfl, rfl, q1194, tyX9_ok, nmX9⟩
theorem fk_X9_79 : FOk "SpeaksInTurnModel" 79 9 76 44 true := ⟨"SpeaksInTurnModel", TX9, rfl, inX9, by decide, rfl, rfl, q1195, tyX9_ok, nmX9⟩
theorem fk_X9_82 : FOk "SpeaksInTurnModel" 82 9 76 45 true := ⟨"SpeaksInTurnModel", TX9, rfl, inX9, by decide, rfl, rfl, q1196, tyX9_ok, nmX9⟩
theorem fk_X9_85 : FOk "SpeaksInTurnModel" 85 9 76 50 true := ⟨"SpeaksInTurnModel", TX9, rfl, inX9, by decide, rfl, rfl, q1201, tyX9_ok, nmX9⟩
theorem fk_X9_88 : FOk "SpeaksInTurnModel" 88 9 76 51 true := ⟨"SpeaksInTurnModel", TX9, rfl, inX9, by decide, rfl, rfl, q1202, tyX9_ok, nmX9⟩
theorem fk_X9_9 : FOk "SpeaksInTurnModel" 9 9 76 0 true := ⟨"SpeaksInTurnModel", TX9, rfl, inX9, by decide, rfl, rfl, q1151, tyX9_ok, nmX9⟩
theorem fk_X9_91 : FOk "SpeaksInTurnModel" 91 9 76 52 true := ⟨"SpeaksInTurnModel", TX9, rfl, inX9, by decide, rfl, rfl, q1203, tyX9_ok, nmX9⟩
theorem fk_X9_94 : FOk "SpeaksInTurnModel" 94 9 76 53 true := ⟨"SpeaksInTurnModel", TX9, rfl, inX9, by decide, rfl, rfl, q1204, tyX9_ok, nmX9⟩
theorem fk_X9_97 : FOk "SpeaksInTurnModel" 97 9 76 54 true := ⟨"SpeaksInTurnModel", TX9, rfl, inX9, by decide, rfl, rfl, q1205, tyX9_ok, nmX9⟩
