/-! THE CLAIM OUT OF ONE WALK OF THE LAW'S BODY. Your part is whole_start (and what it stands on); all else here is the same for every law, but numbers. -/
def R_law : String := "SpeaksInTurnLaw"
def lw_P (b : Addr) (xs : List Int32) (args : Array Value) (s : State) : Prop := args = #[.ref b] ∧ s.IntsAt b xs ∧ xs.length ≤ 384 ∧ (Jvm.Cond.and given_1 narrow_1).before args s = true
def lw_Q (_ : Array Value) (s : State) (o : Outcome) (t : State) : Prop := o = .returned (some (.int 1)) ∧ Framed s o t [] 600000 7302250
def lw_Z (below : List Frame) (a : Array Value) (s : State) : State → Prop := fun t => ∃ o, t.status = .running ∧ Ended t below o ∧ lw_Q a s o t
/-- the law's own end, with 1 on the stack, nothing written that was there before, its room as the claim has it -/
theorem lw_ret {p : Program} {l : Launch} {e : Env} {s : State} {m : MethodId} {below : List Frame} {meth : Method} {c : Code} {b : Nat} (hx : p.tables.exec = Jvm.exec) (hb : c.code = code) (hr : meth.sig.returnType = ret) (hlocks : meth.locks = false) {pc : Nat} {H : Heap} {ls : Array Slot} (hdg : decode code pc = .ok (.ireturn, 1)) : W p l e room_1 s m #[Value.ref b] below meth c H [] 600000 7302250 (lw_Z below #[Value.ref b] s) (F0 m pc ls [.int 1]) := by
  intro T hT X
  obtain ⟨fs, hret, hrun, hended, hW, hframe⟩ := X.leave (v := some (.int 1)) (hlocks := hlocks) (fun h => by rw [hr] at h; cases h)
  have hmeth' : T.vm.method? m = some meth := X.method'
  refine ⟨T.setFrames fs, ?_, .returned (some (.int 1)), hrun, hended, rfl, ⟨_, rfl⟩, hW, hframe⟩
  jvm_step X.here [X.here.top, hx, hb, hdg, hmeth', hr, ret, narrow_b1]
  (try refine ⟨rfl, ?_⟩); (try refine ⟨rfl, ?_⟩)
  first | (intro acts; rw [hret _ acts rfl rfl rfl]) | rw [hret _ _ rfl rfl rfl]
  exact Steps.refl _
/-- what holds at the law's entry: the machine, the code, the tables' words (any of lw_tbl by 'hts w (by decide +kernel)'), the script of L ints xs at the cell b, what the Statement gives of the start (any of its parts by flat_of_before) -/
def lw_At (p : Program) (s : State) (m : MethodId) (meth : Method) (c : Code) (b L : Nat) (xs : Nat → Int32) : Prop :=
  p.tables.exec = Jvm.exec ∧ c.code = code ∧ meth.sig.returnType = ret ∧ c.maxLocals = 4 ∧ s.vm.findClass R_law = some m.cls ∧ (∀ w ∈ lw_tbl, w.before #[Value.ref b] s = true) ∧ va_X b L xs s s.heap ∧ b < s.heap.size ∧ meth.locks = false ∧ (Jvm.Cond.and given_1 narrow_1).before #[Value.ref b] s = true

abbrev WpK (g : Gx) (d : Nat) (mi : Mi) (kc ks pc : Nat) (L : List (Option Value)) (st : List Value) (m : Mem) (Z : En) : Prop := Wp g d mi pc L st kc ks shF m.1 m.2.1 (rF m.2.2) Z
section
variable {g : Gx} {d : Nat} {mi : Mi} {pc pc' kc ks : Nat} {L : List (Option Value)} {st : List Value} {m : Mem} {Z : En} {Q : Qy} {T : Type} {t : T}
theorem wk_mask {L' : List (Option Value)} (bs : List Bool) (hL : msk bs L = L') (k : WpK g d mi kc ks pc L' st m Z) : WpK g d mi kc ks pc L st m Z := by
  subst hL
  exact wp_forget (fun i v h => msk_at h) k
theorem wk_list {L' : List (Option Value)} (hL : L = L') (k : WpK g d mi kc ks pc L' st m Z) : WpK g d mi kc ks pc L st m Z := hL ▸ k
theorem wk_sld {i : Int32} {K : Option T} (hd : decode (miC mi) pc = .ok (.iaload, 1)) (hp : pc + 1 = pc') (h : ck i (gN g) K = some t) (kk : K = some t → WpK g d mi kc ks pc' L (.int (gX g (ix i)) :: st) m Z) : WpK g d mi kc ks pc L (.int i :: .ref 1100 :: st) m Z :=
  wp_sld hd (ck_s h).1 hp (kk (ck_s h).2)
theorem wk_inc {j : Nat} {n : Int} {x : Int32} {c : Int32} {K : Int32 → Option T} (hd : decode (miC mi) pc = .ok (.iinc j n, 3)) (hl : L[j]? = some (some (.int x))) (hc : Int32.ofInt n = c) (hn : j < miL mi) (ho : okAt L j = true) (hp : pc + 3 = pc') (h : bnd (x + c) K = some t) (k : ∀ y, K y = some t → WpK g d mi kc ks pc' (L.set j (some (.int y))) st m Z) : WpK g d mi kc ks pc L st m Z :=
  wp_inc hd hl hc hn ho rfl hp (k _ h)
theorem wk_icmp_eq {x y : Int32} {off : Int} {A B : Option T} (tgt : Nat) (hd : decode (miC mi) pc = .ok (.if_icmp .eq off, 3)) (ht : (pc : Int) + off = (tgt : Int)) (hp : pc + 3 = pc') (h : (if x = y then A else B) = some t) (kt : A = some t → WpK g d mi kc ks tgt L st m Z) (kf : B = some t → WpK g d mi kc ks pc' L st m Z) : WpK g d mi kc ks pc L (.int y :: .int x :: st) m Z :=
  wp_icmp_eq tgt hd ht hp (fun c => kt ((if_pos c).symm.trans h)) (fun c => kf ((if_neg c).symm.trans h))
theorem wk_icmp_gt {x y : Int32} {off : Int} {A B : Option T} (tgt : Nat) (hd : decode (miC mi) pc = .ok (.if_icmp .gt off, 3)) (ht : (pc : Int) + off = (tgt : Int)) (hp : pc + 3 = pc') (h : (if y < x then A else B) = some t) (kt : A = some t → WpK g d mi kc ks tgt L st m Z) (kf : B = some t → WpK g d mi kc ks pc' L st m Z) : WpK g d mi kc ks pc L (.int y :: .int x :: st) m Z :=
  wp_icmp_gt tgt hd ht hp (fun c => kt ((if_pos c).symm.trans h)) (fun c => kf ((if_neg c).symm.trans h))
theorem wk_if_eq {x : Int32} {off : Int} {A B : Option T} (tgt : Nat) (hd : decode (miC mi) pc = .ok (.ifCond .eq off, 3)) (ht : (pc : Int) + off = (tgt : Int)) (hp : pc + 3 = pc') (h : (if x = 0 then A else B) = some t) (kt : A = some t → WpK g d mi kc ks tgt L st m Z) (kf : B = some t → WpK g d mi kc ks pc' L st m Z) : WpK g d mi kc ks pc L (.int x :: st) m Z :=
  wp_if_eq tgt hd ht hp (fun c => kt ((if_pos c).symm.trans h)) (fun c => kf ((if_neg c).symm.trans h))
theorem wk_tsw {dflt lo hi : Int} {offs : Array Int} {len : Nat} {x : Int32} {cs' : List (Int32 × Option T)} {D : Option T} (cs : List (Int32 × Nat)) (td : Nat) (hd : decode (miC mi) pc = .ok (.tableswitch dflt lo hi offs, len)) (hdt : (pc : Int) + dflt = (td : Int)) (hlo : -2147483648 ≤ lo ∧ lo + offs.size = hi + 1 ∧ hi ≤ 2147483647)
    (hc : ∀ j : Nat, j < offs.size → ∃ q ∈ cs, q.1.toInt = lo + j ∧ (offs[j]?.map fun o => (pc : Int) + o) = some (q.2 : Int)) (ho : ∀ q ∈ cs, lo ≤ q.1.toInt ∧ q.1.toInt ≤ hi) (hf : ∀ q ∈ cs, ∀ q2 ∈ cs, q.1 = q2.1 → q.2 = q2.2)
    (h : sw x cs' D = some t) (he : cs.map (·.1) = cs'.map (·.1)) (kin : swG t (fun n => WpK g d mi kc ks n L st m Z) cs cs') (kout : D = some t → WpK g d mi kc ks td L st m Z) : WpK g d mi kc ks pc L (.int x :: st) m Z := by
  have hh := swG_H (P := fun n => WpK g d mi kc ks n L st m Z) (td := td) kout he h kin
  exact wp_tsw cs td hd hdt hlo hc ho (swH_K hh hf (fun _ hq => hq)) (swH_D hh (fun q hq hx => ⟨q, hq, hx⟩))
theorem wk_callVI {idx d' b cn n : Nat} {mi' : Mi} {As rest : List Value} {Fc : Option (Int32 × Mem)} {K : Int32 × Mem → Option T} (hd : decode (miC mi) pc = .ok (.invokevirtual idx, 3)) (ok : OkV (miY mi).cls idx mi' As.length) (hdd : d' + 1 ≤ d) (hst : st = As.reverse ++ .ref b :: rest) (hb : shF[b]? = some (cn + 3, n)) (hc : ∃ T, vwCl[cn]? = some ((miY mi').cls, T, n)) (hcat : (rest.map fun v => v.category).sum ≤ 8) (hk : miK mi' = 0 ∧ miM mi' = 0) (hkk : kc ≤ miK mi ∧ ks ≤ miM mi) (hp : pc + 3 = pc')
    (hM : ∀ t', Fc = some t' → MxM g d' mi' (.ref b :: As) m (qI t')) (h : Fc.bind K = some t) (kk : ∀ q, K q = some t → WpK g d mi kc ks pc' L (.int q.1 :: rest) q.2 Z) : WpK g d mi kc ks pc L st m Z := by
  obtain ⟨q, h1, h2⟩ := Option.bind_eq_some_iff.mp h
  subst hp
  refine wp_callV hd ok (hM q h1) hdd hst hb hc hcat (by rw [hk.1]; exact hkk.1) (by rw [hk.2]; exact hkk.2) (fun v sh' u' w' r' hq => ?_)
  obtain ⟨e1, e2, e3, e4, e5⟩ := hq
  subst e1; subst e2; subst e3; subst e4; subst e5
  rw [hk.1, hk.2]
  exact kk q h2
theorem wk_callVL {idx d' b cn n : Nat} {mi' : Mi} {As rest : List Value} {Fc : Option (Int64 × Mem)} {K : Int64 × Mem → Option T} (hd : decode (miC mi) pc = .ok (.invokevirtual idx, 3)) (ok : OkV (miY mi).cls idx mi' As.length) (hdd : d' + 1 ≤ d) (hst : st = As.reverse ++ .ref b :: rest) (hb : shF[b]? = some (cn + 3, n)) (hc : ∃ T, vwCl[cn]? = some ((miY mi').cls, T, n)) (hcat : (rest.map fun v => v.category).sum ≤ 8) (hk : miK mi' = 0 ∧ miM mi' = 0) (hkk : kc ≤ miK mi ∧ ks ≤ miM mi) (hp : pc + 3 = pc')
    (hM : ∀ t', Fc = some t' → MxM g d' mi' (.ref b :: As) m (qL t')) (h : Fc.bind K = some t) (kk : ∀ q, K q = some t → WpK g d mi kc ks pc' L (.long q.1 :: rest) q.2 Z) : WpK g d mi kc ks pc L st m Z := by
  obtain ⟨q, h1, h2⟩ := Option.bind_eq_some_iff.mp h
  subst hp
  refine wp_callV hd ok (hM q h1) hdd hst hb hc hcat (by rw [hk.1]; exact hkk.1) (by rw [hk.2]; exact hkk.2) (fun v sh' u' w' r' hq => ?_)
  obtain ⟨e1, e2, e3, e4, e5⟩ := hq
  subst e1; subst e2; subst e3; subst e4; subst e5
  rw [hk.1, hk.2]
  exact kk q h2
end
def zL (g : Gx) : En := fun args s below t => s.heap.size = gB g → lw_Z below args s t
theorem lw_ret2 {R : Room} {p : Program} {l : Launch} {e : Env} {s : State} {m : MethodId} {args : Array Value} {below : List Frame} {meth : Method} {c : Code} (hx : p.tables.exec = Jvm.exec) (hb : c.code = code) (hr : meth.sig.returnType = ret) (hlocks : meth.locks = false) {pc : Nat} {H : Heap} {ls : Array Slot} (hdg : decode code pc = .ok (.ireturn, 1)) : W p l e R s m args below meth c H [] 600000 7302250 (lw_Z below args s) (F0 m pc ls [.int 1]) := by
  intro T hT X
  obtain ⟨fs, hret, hrun, hended, hW, hframe⟩ := X.leave (v := some (.int 1)) (hlocks := hlocks) (fun h => by rw [hr] at h; cases h)
  have hmeth' : T.vm.method? m = some meth := X.method'
  refine ⟨T.setFrames fs, ?_, .returned (some (.int 1)), hrun, hended, rfl, ⟨_, rfl⟩, hW, hframe⟩
  jvm_step X.here [X.here.top, hx, hb, hdg, hmeth', hr, ret, narrow_b1]
  (try refine ⟨rfl, ?_⟩); (try refine ⟨rfl, ?_⟩)
  first | (intro acts; rw [hret _ acts rfl rfl rfl]) | rw [hret _ _ rfl rfl rfl]
  exact Steps.refl _
abbrev mi_law : Mi := (⟨"SpeaksInTurnLaw", "law", "([I)Z"⟩, code, 4, some .boolean, 600000, 7302250)
theorem room_law {p : Program} {l : Launch} {e : Env} {s : State} {m : MethodId} {args : Array Value} {below : List Frame} {meth : Method} {c : Code} {H : Heap} {locs : List Loc} {kc ks : Nat} {R : Room} {Q Q' : State → Prop} {f : JFrame} (h : W p l e R s m args below meth c H locs kc ks Q f) (hq : ∀ t, Q t → Q' t) : W p l e R s m args below meth c H locs kc ks Q' f := by
  intro T hT X
  obtain ⟨t, a, b⟩ := h T hT X
  exact ⟨t, a, hq t b⟩
theorem w_stay {p : Program} {l : Launch} {e : Env} {s : State} {m : MethodId} {args : Array Value} {below : List Frame} {meth : Method} {c : Code} {H : Heap} {locs : List Loc} {kc ks : Nat} {R : Room} {Q : State → Prop} {f : JFrame} (h : ∀ t, Q t) : W p l e R s m args below meth c H locs kc ks Q f := fun T _ _ => ⟨_, Steps.refl _, h _⟩

theorem ok_L_100 : OkV "SpeaksInTurnLaw" 100 mi_X9_undo 0 := ⟨⟨q1380, q1381, q1382, q110, q1383⟩, ⟨by decide +kernel, by decide +kernel, by decide +kernel⟩, by decide⟩
theorem ok_L_101 : OkV "SpeaksInTurnLaw" 101 mi_X8_redo 0 := ⟨⟨q1047, q1048, q1049, q101, q1050⟩, ⟨by decide +kernel, by decide +kernel, by decide +kernel⟩, by decide⟩
theorem ok_L_104 : OkV "SpeaksInTurnLaw" 104 mi_X9_redo 0 := ⟨⟨q1384, q1385, q1386, q110, q1387⟩, ⟨by decide +kernel, by decide +kernel, by decide +kernel⟩, by decide⟩
theorem ok_L_105 : OkV "SpeaksInTurnLaw" 105 mi_X8_body 1 := ⟨⟨q1055, q1056, q1057, q101, q1058⟩, ⟨by decide +kernel, by decide +kernel, by decide +kernel⟩, by decide⟩
theorem ok_L_108 : OkV "SpeaksInTurnLaw" 108 mi_X9_body 1 := ⟨⟨q1710, q1711, q1712, q110, q1713⟩, ⟨by decide +kernel, by decide +kernel, by decide +kernel⟩, by decide⟩
theorem ok_L_109 : OkV "SpeaksInTurnLaw" 109 mi_X8_act 3 := ⟨⟨q1063, q1064, q1065, q101, q1066⟩, ⟨by decide +kernel, by decide +kernel, by decide +kernel⟩, by decide⟩
theorem ok_L_112 : OkV "SpeaksInTurnLaw" 112 mi_X9_act 3 := ⟨⟨q1715, q1716, q1717, q110, q1718⟩, ⟨by decide +kernel, by decide +kernel, by decide +kernel⟩, by decide⟩
theorem ok_L_113 : OkV "SpeaksInTurnLaw" 113 mi_X8_trace 1 := ⟨⟨q1087, q1088, q1089, q101, q1090⟩, ⟨by decide +kernel, by decide +kernel, by decide +kernel⟩, by decide⟩
theorem ok_L_116 : OkV "SpeaksInTurnLaw" 116 mi_X9_trace 1 := ⟨⟨q1743, q1744, q1745, q110, q1746⟩, ⟨by decide +kernel, by decide +kernel, by decide +kernel⟩, by decide⟩
theorem ok_L_117 : OkV "SpeaksInTurnLaw" 117 mi_X8_keep 2 := ⟨⟨q1091, q1092, q1093, q101, q1094⟩, ⟨by decide +kernel, by decide +kernel, by decide +kernel⟩, by decide⟩
theorem ok_L_120 : OkV "SpeaksInTurnLaw" 120 mi_X9_keep 2 := ⟨⟨q1747, q1748, q1749, q110, q1750⟩, ⟨by decide +kernel, by decide +kernel, by decide +kernel⟩, by decide⟩
theorem ok_L_121 : OkV "SpeaksInTurnLaw" 121 mi_X8_row 3 := ⟨⟨q1099, q1100, q1101, q101, q1102⟩, ⟨by decide +kernel, by decide +kernel, by decide +kernel⟩, by decide⟩
theorem ok_L_124 : OkV "SpeaksInTurnLaw" 124 mi_X9_row 3 := ⟨⟨q1751, q1752, q1753, q110, q1754⟩, ⟨by decide +kernel, by decide +kernel, by decide +kernel⟩, by decide⟩
theorem ok_L_127 : OkV "SpeaksInTurnLaw" 127 mi_X8_put 3 := ⟨⟨q1110, q1111, q1112, q101, q1113⟩, ⟨by decide +kernel, by decide +kernel, by decide +kernel⟩, by decide⟩
theorem ok_L_13 : OkV "SpeaksInTurnLaw" 13 mi_X8_person 2 := ⟨⟨q502, q503, q504, q101, q505⟩, ⟨by decide +kernel, by decide +kernel, by decide +kernel⟩, by decide⟩
theorem ok_L_131 : OkV "SpeaksInTurnLaw" 131 mi_X9_put 3 := ⟨⟨q1756, q1757, q1758, q110, q1759⟩, ⟨by decide +kernel, by decide +kernel, by decide +kernel⟩, by decide⟩
theorem ok_L_132 : OkV "SpeaksInTurnLaw" 132 mi_X8_element 2 := ⟨⟨q1122, q1123, q1124, q101, q1125⟩, ⟨by decide +kernel, by decide +kernel, by decide +kernel⟩, by decide⟩
theorem ok_L_136 : OkV "SpeaksInTurnLaw" 136 mi_X9_element 2 := ⟨⟨q1767, q1768, q1769, q110, q1770⟩, ⟨by decide +kernel, by decide +kernel, by decide +kernel⟩, by decide⟩
theorem ok_L_137 : OkV "SpeaksInTurnLaw" 137 mi_X8_shift 5 := ⟨⟨q1127, q1128, q1129, q101, q1130⟩, ⟨by decide +kernel, by decide +kernel, by decide +kernel⟩, by decide⟩
theorem ok_L_141 : OkV "SpeaksInTurnLaw" 141 mi_X9_shift 5 := ⟨⟨q1772, q1773, q1774, q110, q1775⟩, ⟨by decide +kernel, by decide +kernel, by decide +kernel⟩, by decide⟩
theorem ok_L_142 : OkV "SpeaksInTurnLaw" 142 mi_X8_taken 2 := ⟨⟨q1133, q1134, q1135, q101, q1136⟩, ⟨by decide +kernel, by decide +kernel, by decide +kernel⟩, by decide⟩
theorem ok_L_145 : OkV "SpeaksInTurnLaw" 145 mi_X9_taken 2 := ⟨⟨q1776, q1777, q1778, q110, q1779⟩, ⟨by decide +kernel, by decide +kernel, by decide +kernel⟩, by decide⟩
theorem ok_L_146 : OkV "SpeaksInTurnLaw" 146 mi_X8_count 1 := ⟨⟨q1141, q1142, q1143, q101, q1144⟩, ⟨by decide +kernel, by decide +kernel, by decide +kernel⟩, by decide⟩
theorem ok_L_149 : OkV "SpeaksInTurnLaw" 149 mi_X9_count 1 := ⟨⟨q1787, q1788, q1789, q110, q1790⟩, ⟨by decide +kernel, by decide +kernel, by decide +kernel⟩, by decide⟩
theorem ok_L_17 : OkV "SpeaksInTurnLaw" 17 mi_X9_person 2 := ⟨⟨q1388, q1389, q1390, q110, q1391⟩, ⟨by decide +kernel, by decide +kernel, by decide +kernel⟩, by decide⟩
theorem ok_L_18 : OkV "SpeaksInTurnLaw" 18 mi_X8_thing 2 := ⟨⟨q510, q511, q512, q101, q513⟩, ⟨by decide +kernel, by decide +kernel, by decide +kernel⟩, by decide⟩
theorem ok_L_21 : OkV "SpeaksInTurnLaw" 21 mi_X9_thing 2 := ⟨⟨q1397, q1398, q1399, q110, q1400⟩, ⟨by decide +kernel, by decide +kernel, by decide +kernel⟩, by decide⟩
theorem ok_L_22 : OkV "SpeaksInTurnLaw" 22 mi_X8_card 3 := ⟨⟨q518, q519, q520, q101, q521⟩, ⟨by decide +kernel, by decide +kernel, by decide +kernel⟩, by decide⟩
theorem ok_L_26 : OkV "SpeaksInTurnLaw" 26 mi_X9_card 3 := ⟨⟨q1409, q1410, q1411, q110, q1412⟩, ⟨by decide +kernel, by decide +kernel, by decide +kernel⟩, by decide⟩
theorem ok_L_27 : OkV "SpeaksInTurnLaw" 27 mi_X8_cards 3 := ⟨⟨q530, q531, q532, q101, q533⟩, ⟨by decide +kernel, by decide +kernel, by decide +kernel⟩, by decide⟩
theorem ok_L_30 : OkV "SpeaksInTurnLaw" 30 mi_X9_cards 3 := ⟨⟨q1423, q1424, q1425, q110, q1426⟩, ⟨by decide +kernel, by decide +kernel, by decide +kernel⟩, by decide⟩
theorem ok_L_31 : OkV "SpeaksInTurnLaw" 31 mi_X8_feed 1 := ⟨⟨q547, q548, q549, q101, q550⟩, ⟨by decide +kernel, by decide +kernel, by decide +kernel⟩, by decide⟩
theorem ok_L_35 : OkV "SpeaksInTurnLaw" 35 mi_X9_feed 1 := ⟨⟨q1461, q1462, q1463, q110, q1464⟩, ⟨by decide +kernel, by decide +kernel, by decide +kernel⟩, by decide⟩
theorem ok_L_36 : OkV "SpeaksInTurnLaw" 36 mi_X8_law 0 := ⟨⟨q559, q560, q561, q101, q562⟩, ⟨by decide +kernel, by decide +kernel, by decide +kernel⟩, by decide⟩
theorem ok_L_40 : OkV "SpeaksInTurnLaw" 40 mi_X9_law 0 := ⟨⟨q1466, q1467, q1468, q110, q1469⟩, ⟨by decide +kernel, by decide +kernel, by decide +kernel⟩, by decide⟩
theorem ok_L_41 : OkV "SpeaksInTurnLaw" 41 mi_X8_set 2 := ⟨⟨q706, q707, q708, q101, q709⟩, ⟨by decide +kernel, by decide +kernel, by decide +kernel⟩, by decide⟩
theorem ok_L_44 : OkV "SpeaksInTurnLaw" 44 mi_X9_set 2 := ⟨⟨q1432, q1433, q1434, q110, q1435⟩, ⟨by decide +kernel, by decide +kernel, by decide +kernel⟩, by decide⟩
theorem ok_L_45 : OkV "SpeaksInTurnLaw" 45 mi_X8_mend 3 := ⟨⟨q714, q715, q716, q101, q717⟩, ⟨by decide +kernel, by decide +kernel, by decide +kernel⟩, by decide⟩
theorem ok_L_48 : OkV "SpeaksInTurnLaw" 48 mi_X9_mend 3 := ⟨⟨q1436, q1437, q1438, q110, q1439⟩, ⟨by decide +kernel, by decide +kernel, by decide +kernel⟩, by decide⟩
theorem ok_L_49 : OkV "SpeaksInTurnLaw" 49 mi_X8_of 2 := ⟨⟨q743, q744, q745, q101, q746⟩, ⟨by decide +kernel, by decide +kernel, by decide +kernel⟩, by decide⟩
theorem ok_L_52 : OkV "SpeaksInTurnLaw" 52 mi_X9_of 2 := ⟨⟨q1453, q1454, q1455, q110, q1456⟩, ⟨by decide +kernel, by decide +kernel, by decide +kernel⟩, by decide⟩
theorem ok_L_53 : OkV "SpeaksInTurnLaw" 53 mi_X8_meet 1 := ⟨⟨q755, q756, q757, q101, q758⟩, ⟨by decide +kernel, by decide +kernel, by decide +kernel⟩, by decide⟩
theorem ok_L_56 : OkV "SpeaksInTurnLaw" 56 mi_X9_meet 1 := ⟨⟨q1513, q1514, q1515, q110, q1516⟩, ⟨by decide +kernel, by decide +kernel, by decide +kernel⟩, by decide⟩
theorem ok_L_57 : OkV "SpeaksInTurnLaw" 57 mi_X8_told 1 := ⟨⟨q930, q931, q932, q101, q933⟩, ⟨by decide +kernel, by decide +kernel, by decide +kernel⟩, by decide⟩
theorem ok_L_60 : OkV "SpeaksInTurnLaw" 60 mi_X9_told 1 := ⟨⟨q1651, q1652, q1653, q110, q1654⟩, ⟨by decide +kernel, by decide +kernel, by decide +kernel⟩, by decide⟩
theorem ok_L_61 : OkV "SpeaksInTurnLaw" 61 mi_X8_saying 2 := ⟨⟨q934, q935, q936, q101, q937⟩, ⟨by decide +kernel, by decide +kernel, by decide +kernel⟩, by decide⟩
theorem ok_L_64 : OkV "SpeaksInTurnLaw" 64 mi_X9_saying 2 := ⟨⟨q1655, q1656, q1657, q110, q1658⟩, ⟨by decide +kernel, by decide +kernel, by decide +kernel⟩, by decide⟩
theorem ok_L_65 : OkV "SpeaksInTurnLaw" 65 mi_X8_took 2 := ⟨⟨q938, q939, q940, q101, q941⟩, ⟨by decide +kernel, by decide +kernel, by decide +kernel⟩, by decide⟩
theorem ok_L_68 : OkV "SpeaksInTurnLaw" 68 mi_X9_took 2 := ⟨⟨q1660, q1661, q1662, q110, q1663⟩, ⟨by decide +kernel, by decide +kernel, by decide +kernel⟩, by decide⟩
theorem ok_L_69 : OkV "SpeaksInTurnLaw" 69 mi_X8_did 2 := ⟨⟨q946, q947, q948, q101, q949⟩, ⟨by decide +kernel, by decide +kernel, by decide +kernel⟩, by decide⟩
theorem ok_L_72 : OkV "SpeaksInTurnLaw" 72 mi_X9_did 2 := ⟨⟨q1664, q1665, q1666, q110, q1667⟩, ⟨by decide +kernel, by decide +kernel, by decide +kernel⟩, by decide⟩
theorem ok_L_73 : OkV "SpeaksInTurnLaw" 73 mi_X8_first 2 := ⟨⟨q958, q959, q960, q101, q961⟩, ⟨by decide +kernel, by decide +kernel, by decide +kernel⟩, by decide⟩
theorem ok_L_76 : OkV "SpeaksInTurnLaw" 76 mi_X9_first 2 := ⟨⟨q1669, q1670, q1671, q110, q1672⟩, ⟨by decide +kernel, by decide +kernel, by decide +kernel⟩, by decide⟩
theorem ok_L_77 : OkV "SpeaksInTurnLaw" 77 mi_X8_rule 1 := ⟨⟨q966, q967, q968, q101, q969⟩, ⟨by decide +kernel, by decide +kernel, by decide +kernel⟩, by decide⟩
theorem ok_L_80 : OkV "SpeaksInTurnLaw" 80 mi_X9_rule 1 := ⟨⟨q1673, q1674, q1675, q110, q1676⟩, ⟨by decide +kernel, by decide +kernel, by decide +kernel⟩, by decide⟩
theorem ok_L_81 : OkV "SpeaksInTurnLaw" 81 mi_X8_order 1 := ⟨⟨q1008, q1009, q1010, q101, q1011⟩, ⟨by decide +kernel, by decide +kernel, by decide +kernel⟩, by decide⟩
theorem ok_L_84 : OkV "SpeaksInTurnLaw" 84 mi_X9_order 1 := ⟨⟨q1690, q1691, q1692, q110, q1693⟩, ⟨by decide +kernel, by decide +kernel, by decide +kernel⟩, by decide⟩
theorem ok_L_85 : OkV "SpeaksInTurnLaw" 85 mi_X8_times 1 := ⟨⟨q1012, q1013, q1014, q101, q1015⟩, ⟨by decide +kernel, by decide +kernel, by decide +kernel⟩, by decide⟩
theorem ok_L_88 : OkV "SpeaksInTurnLaw" 88 mi_X9_times 1 := ⟨⟨q1698, q1699, q1700, q110, q1701⟩, ⟨by decide +kernel, by decide +kernel, by decide +kernel⟩, by decide⟩
theorem ok_L_89 : OkV "SpeaksInTurnLaw" 89 mi_X8_film 1 := ⟨⟨q1016, q1017, q1018, q101, q1019⟩, ⟨by decide +kernel, by decide +kernel, by decide +kernel⟩, by decide⟩
theorem ok_L_92 : OkV "SpeaksInTurnLaw" 92 mi_X9_film 1 := ⟨⟨q1702, q1703, q1704, q110, q1705⟩, ⟨by decide +kernel, by decide +kernel, by decide +kernel⟩, by decide⟩
theorem ok_L_93 : OkV "SpeaksInTurnLaw" 93 mi_X8_wish 2 := ⟨⟨q1028, q1029, q1030, q101, q1031⟩, ⟨by decide +kernel, by decide +kernel, by decide +kernel⟩, by decide⟩
theorem ok_L_96 : OkV "SpeaksInTurnLaw" 96 mi_X9_wish 2 := ⟨⟨q1706, q1707, q1708, q110, q1709⟩, ⟨by decide +kernel, by decide +kernel, by decide +kernel⟩, by decide⟩
theorem ok_L_97 : OkV "SpeaksInTurnLaw" 97 mi_X8_undo 0 := ⟨⟨q1039, q1040, q1041, q101, q1042⟩, ⟨by decide +kernel, by decide +kernel, by decide +kernel⟩, by decide⟩
theorem ib_31 : (Int8.ofInt (31)).toInt32 = (31 : Int32) := by decide +kernel
theorem ib_32 : (Int8.ofInt (32)).toInt32 = (32 : Int32) := by decide +kernel
theorem ii_6 : Int32.ofInt (6) = (6 : Int32) := by decide +kernel
theorem wk_lret {g : Gx} {pc : Nat} {v : Int32} {L : List (Option Value)} {m : Mem} {t : Int32 × Mem} (hd : decode code pc = .ok (.ireturn, 1)) (h : bz v (some (v, m)) = some t) (hq : t.1 = 1) : WpK g 1000 mi_law 130 9984 pc L [.int v] m (zL g) := by
  obtain ⟨-, h2⟩ := bz_s h
  cases h2
  simp only at hq
  subst hq
  intro p e R s m0 args below meth c F H locs ls hz hP hS hl
  by_cases hg : s.heap.size = gB g
  · refine room_law (Q := lw_Z below args s) ?_ (fun t ht _ => ht)
    refine va_forget (fun q hq => by rw [hg]; exact hS.2.2 q hq) ?_
    refine W.widen (k := 600000) (n := 7302250) (by decide) (by decide) ?_
    exact lw_ret2 F.1.1 F.1.2.1 F.1.2.2.2.1 F.1.2.2.2.2.1 hd
  · exact w_stay (fun t h => absurd h hg)
abbrev A_law_18 (g : Gx) (s : Int32 × Mem) : Prop := WpK g 1000 mi_law 130 9984 18 [some (.ref 1100), some (.ref 0), some (.ref 85), some (.int s.1)] [] s.2 (zL g)
abbrev P_law_18 (g : Gx) : ((Int32 × Mem) ⊕ (Int32 × Mem)) → Prop := pS (A_law_18 g) (fun t => t.1 = 1)
noncomputable def f_law_L18 (g : Gx) (s : Int32 × Mem) : Option ((Int32 × Mem) ⊕ (Int32 × Mem)) := if ((nI (gN g)) - (6 : Int32)) < s.1 then up (bz (1 : Int32) (some ((1 : Int32), s.2))) else ck s.1 (gN g) (sw ((gX g (ix s.1)) &&& (31 : Int32)) [((0 : Int32), ck (s.1 + (1 : Int32)) (gN g) (ck (s.1 + (2 : Int32)) (gN g) ((f_X8_person (gX g (ix (s.1 + (1 : Int32)))) (gX g (ix (s.1 + (2 : Int32)))) s.2).bind (fun q1 => ck (s.1 + (1 : Int32)) (gN g) (ck (s.1 + (2 : Int32)) (gN g) ((f_X9_person (gX g (ix (s.1 + (1 : Int32)))) (gX g (ix (s.1 + (2 : Int32)))) q1.2).bind (fun q2 => if q1.1 = q2.1 then bnd (s.1 + (6 : Int32)) (fun y3 => some (Sum.inl (y3, q2.2))) else up (bz (0 : Int32) (some ((0 : Int32), q2.2)))))))))), ((1 : Int32), ck (s.1 + (1 : Int32)) (gN g) (ck (s.1 + (2 : Int32)) (gN g) ((f_X8_thing (gX g (ix (s.1 + (1 : Int32)))) (gX g (ix (s.1 + (2 : Int32)))) s.2).bind (fun q4 => ck (s.1 + (1 : Int32)) (gN g) (ck (s.1 + (2 : Int32)) (gN g) ((f_X9_thing (gX g (ix (s.1 + (1 : Int32)))) (gX g (ix (s.1 + (2 : Int32)))) q4.2).bind (fun q5 => if q4.1 = q5.1 then bnd (s.1 + (6 : Int32)) (fun y6 => some (Sum.inl (y6, q5.2))) else up (bz (0 : Int32) (some ((0 : Int32), q5.2)))))))))), ((2 : Int32), ck (s.1 + (1 : Int32)) (gN g) (ck (s.1 + (2 : Int32)) (gN g) (ck (s.1 + (3 : Int32)) (gN g) ((f_X8_card (gX g (ix (s.1 + (1 : Int32)))) (gX g (ix (s.1 + (2 : Int32)))) (gX g (ix (s.1 + (3 : Int32)))) s.2).bind (fun q7 => ck (s.1 + (1 : Int32)) (gN g) (ck (s.1 + (2 : Int32)) (gN g) (ck (s.1 + (3 : Int32)) (gN g) ((f_X9_card (gX g (ix (s.1 + (1 : Int32)))) (gX g (ix (s.1 + (2 : Int32)))) (gX g (ix (s.1 + (3 : Int32)))) q7.2).bind (fun q8 => if q7.1 = q8.1 then bnd (s.1 + (6 : Int32)) (fun y9 => some (Sum.inl (y9, q8.2))) else up (bz (0 : Int32) (some ((0 : Int32), q8.2)))))))))))), ((3 : Int32), ck (s.1 + (1 : Int32)) (gN g) (ck (s.1 + (2 : Int32)) (gN g) (ck (s.1 + (3 : Int32)) (gN g) ((f_X8_cards (gX g (ix (s.1 + (1 : Int32)))) (gX g (ix (s.1 + (2 : Int32)))) (gX g (ix (s.1 + (3 : Int32)))) s.2).bind (fun q10 => ck (s.1 + (1 : Int32)) (gN g) (ck (s.1 + (2 : Int32)) (gN g) (ck (s.1 + (3 : Int32)) (gN g) ((f_X9_cards (gX g (ix (s.1 + (1 : Int32)))) (gX g (ix (s.1 + (2 : Int32)))) (gX g (ix (s.1 + (3 : Int32)))) q10.2).bind (fun q11 => if q10.1 = q11.1 then bnd (s.1 + (6 : Int32)) (fun y12 => some (Sum.inl (y12, q11.2))) else up (bz (0 : Int32) (some ((0 : Int32), q11.2)))))))))))), ((4 : Int32), ck (s.1 + (1 : Int32)) (gN g) ((f_X8_feed (gX g (ix (s.1 + (1 : Int32)))) s.2).bind (fun q13 => ck (s.1 + (1 : Int32)) (gN g) ((f_X9_feed (gX g (ix (s.1 + (1 : Int32)))) q13.2).bind (fun q14 => if q13.1 = q14.1 then bnd (s.1 + (6 : Int32)) (fun y15 => some (Sum.inl (y15, q14.2))) else up (bz (0 : Int32) (some ((0 : Int32), q14.2)))))))), ((5 : Int32), (f_X8_law s.2).bind (fun q16 => (f_X9_law q16.2).bind (fun q17 => if q16.1 = q17.1 then bnd (s.1 + (6 : Int32)) (fun y18 => some (Sum.inl (y18, q17.2))) else up (bz (0 : Int32) (some ((0 : Int32), q17.2)))))), ((6 : Int32), ck (s.1 + (1 : Int32)) (gN g) (ck (s.1 + (2 : Int32)) (gN g) ((f_X8_set (gX g (ix (s.1 + (1 : Int32)))) (gX g (ix (s.1 + (2 : Int32)))) s.2).bind (fun q19 => ck (s.1 + (1 : Int32)) (gN g) (ck (s.1 + (2 : Int32)) (gN g) ((f_X9_set (gX g (ix (s.1 + (1 : Int32)))) (gX g (ix (s.1 + (2 : Int32)))) q19.2).bind (fun q20 => if q19.1 = q20.1 then bnd (s.1 + (6 : Int32)) (fun y21 => some (Sum.inl (y21, q20.2))) else up (bz (0 : Int32) (some ((0 : Int32), q20.2)))))))))), ((7 : Int32), ck (s.1 + (1 : Int32)) (gN g) (ck (s.1 + (2 : Int32)) (gN g) (ck (s.1 + (3 : Int32)) (gN g) ((f_X8_mend (gX g (ix (s.1 + (1 : Int32)))) (gX g (ix (s.1 + (2 : Int32)))) (gX g (ix (s.1 + (3 : Int32)))) s.2).bind (fun q22 => ck (s.1 + (1 : Int32)) (gN g) (ck (s.1 + (2 : Int32)) (gN g) (ck (s.1 + (3 : Int32)) (gN g) ((f_X9_mend (gX g (ix (s.1 + (1 : Int32)))) (gX g (ix (s.1 + (2 : Int32)))) (gX g (ix (s.1 + (3 : Int32)))) q22.2).bind (fun q23 => if q22.1 = q23.1 then bnd (s.1 + (6 : Int32)) (fun y24 => some (Sum.inl (y24, q23.2))) else up (bz (0 : Int32) (some ((0 : Int32), q23.2)))))))))))), ((8 : Int32), ck (s.1 + (1 : Int32)) (gN g) (ck (s.1 + (2 : Int32)) (gN g) ((f_X8_of (gX g (ix (s.1 + (1 : Int32)))) (gX g (ix (s.1 + (2 : Int32)))) s.2).bind (fun q25 => ck (s.1 + (1 : Int32)) (gN g) (ck (s.1 + (2 : Int32)) (gN g) ((f_X9_of (gX g (ix (s.1 + (1 : Int32)))) (gX g (ix (s.1 + (2 : Int32)))) q25.2).bind (fun q26 => if q25.1 = q26.1 then bnd (s.1 + (6 : Int32)) (fun y27 => some (Sum.inl (y27, q26.2))) else up (bz (0 : Int32) (some ((0 : Int32), q26.2)))))))))), ((9 : Int32), ck (s.1 + (1 : Int32)) (gN g) ((f_X8_meet (gX g (ix (s.1 + (1 : Int32)))) s.2).bind (fun q28 => ck (s.1 + (1 : Int32)) (gN g) ((f_X9_meet (gX g (ix (s.1 + (1 : Int32)))) q28.2).bind (fun q29 => if q28.1 = q29.1 then bnd (s.1 + (6 : Int32)) (fun y30 => some (Sum.inl (y30, q29.2))) else up (bz (0 : Int32) (some ((0 : Int32), q29.2)))))))), ((10 : Int32), ck (s.1 + (1 : Int32)) (gN g) ((f_X8_told (gX g (ix (s.1 + (1 : Int32)))) s.2).bind (fun q31 => ck (s.1 + (1 : Int32)) (gN g) ((f_X9_told (gX g (ix (s.1 + (1 : Int32)))) q31.2).bind (fun q32 => if q31.1 = q32.1 then bnd (s.1 + (6 : Int32)) (fun y33 => some (Sum.inl (y33, q32.2))) else up (bz (0 : Int32) (some ((0 : Int32), q32.2)))))))), ((11 : Int32), ck (s.1 + (1 : Int32)) (gN g) (ck (s.1 + (2 : Int32)) (gN g) ((f_X8_saying (gX g (ix (s.1 + (1 : Int32)))) (gX g (ix (s.1 + (2 : Int32)))) s.2).bind (fun q34 => ck (s.1 + (1 : Int32)) (gN g) (ck (s.1 + (2 : Int32)) (gN g) ((f_X9_saying (gX g (ix (s.1 + (1 : Int32)))) (gX g (ix (s.1 + (2 : Int32)))) q34.2).bind (fun q35 => if q34.1 = q35.1 then bnd (s.1 + (6 : Int32)) (fun y36 => some (Sum.inl (y36, q35.2))) else up (bz (0 : Int32) (some ((0 : Int32), q35.2)))))))))), ((12 : Int32), ck (s.1 + (1 : Int32)) (gN g) (ck (s.1 + (2 : Int32)) (gN g) ((f_X8_took (gX g (ix (s.1 + (1 : Int32)))) (gX g (ix (s.1 + (2 : Int32)))) s.2).bind (fun q37 => ck (s.1 + (1 : Int32)) (gN g) (ck (s.1 + (2 : Int32)) (gN g) ((f_X9_took (gX g (ix (s.1 + (1 : Int32)))) (gX g (ix (s.1 + (2 : Int32)))) q37.2).bind (fun q38 => if q37.1 = q38.1 then bnd (s.1 + (6 : Int32)) (fun y39 => some (Sum.inl (y39, q38.2))) else up (bz (0 : Int32) (some ((0 : Int32), q38.2)))))))))), ((13 : Int32), ck (s.1 + (1 : Int32)) (gN g) (ck (s.1 + (2 : Int32)) (gN g) ((f_X8_did (gX g (ix (s.1 + (1 : Int32)))) (gX g (ix (s.1 + (2 : Int32)))) s.2).bind (fun q40 => ck (s.1 + (1 : Int32)) (gN g) (ck (s.1 + (2 : Int32)) (gN g) ((f_X9_did (gX g (ix (s.1 + (1 : Int32)))) (gX g (ix (s.1 + (2 : Int32)))) q40.2).bind (fun q41 => if q40.1 = q41.1 then bnd (s.1 + (6 : Int32)) (fun y42 => some (Sum.inl (y42, q41.2))) else up (bz (0 : Int32) (some ((0 : Int32), q41.2)))))))))), ((14 : Int32), ck (s.1 + (1 : Int32)) (gN g) (ck (s.1 + (2 : Int32)) (gN g) ((f_X8_first (gX g (ix (s.1 + (1 : Int32)))) (gX g (ix (s.1 + (2 : Int32)))) s.2).bind (fun q43 => ck (s.1 + (1 : Int32)) (gN g) (ck (s.1 + (2 : Int32)) (gN g) ((f_X9_first (gX g (ix (s.1 + (1 : Int32)))) (gX g (ix (s.1 + (2 : Int32)))) q43.2).bind (fun q44 => if q43.1 = q44.1 then bnd (s.1 + (6 : Int32)) (fun y45 => some (Sum.inl (y45, q44.2))) else up (bz (0 : Int32) (some ((0 : Int32), q44.2)))))))))), ((15 : Int32), ck (s.1 + (1 : Int32)) (gN g) ((f_X8_rule (gX g (ix (s.1 + (1 : Int32)))) s.2).bind (fun q46 => ck (s.1 + (1 : Int32)) (gN g) ((f_X9_rule (gX g (ix (s.1 + (1 : Int32)))) q46.2).bind (fun q47 => if q46.1 = q47.1 then bnd (s.1 + (6 : Int32)) (fun y48 => some (Sum.inl (y48, q47.2))) else up (bz (0 : Int32) (some ((0 : Int32), q47.2)))))))), ((16 : Int32), ck (s.1 + (1 : Int32)) (gN g) ((f_X8_order (gX g (ix (s.1 + (1 : Int32)))) s.2).bind (fun q49 => ck (s.1 + (1 : Int32)) (gN g) ((f_X9_order (gX g (ix (s.1 + (1 : Int32)))) q49.2).bind (fun q50 => if q49.1 = q50.1 then bnd (s.1 + (6 : Int32)) (fun y51 => some (Sum.inl (y51, q50.2))) else up (bz (0 : Int32) (some ((0 : Int32), q50.2)))))))), ((17 : Int32), ck (s.1 + (1 : Int32)) (gN g) ((f_X8_times (gX g (ix (s.1 + (1 : Int32)))) s.2).bind (fun q52 => ck (s.1 + (1 : Int32)) (gN g) ((f_X9_times (gX g (ix (s.1 + (1 : Int32)))) q52.2).bind (fun q53 => if q52.1 = q53.1 then bnd (s.1 + (6 : Int32)) (fun y54 => some (Sum.inl (y54, q53.2))) else up (bz (0 : Int32) (some ((0 : Int32), q53.2)))))))), ((18 : Int32), ck (s.1 + (1 : Int32)) (gN g) ((f_X8_film (gX g (ix (s.1 + (1 : Int32)))) s.2).bind (fun q55 => ck (s.1 + (1 : Int32)) (gN g) ((f_X9_film (gX g (ix (s.1 + (1 : Int32)))) q55.2).bind (fun q56 => if q55.1 = q56.1 then bnd (s.1 + (6 : Int32)) (fun y57 => some (Sum.inl (y57, q56.2))) else up (bz (0 : Int32) (some ((0 : Int32), q56.2)))))))), ((19 : Int32), ck (s.1 + (1 : Int32)) (gN g) (ck (s.1 + (2 : Int32)) (gN g) ((f_X8_wish (gX g (ix (s.1 + (1 : Int32)))) (gX g (ix (s.1 + (2 : Int32)))) s.2).bind (fun q58 => ck (s.1 + (1 : Int32)) (gN g) (ck (s.1 + (2 : Int32)) (gN g) ((f_X9_wish (gX g (ix (s.1 + (1 : Int32)))) (gX g (ix (s.1 + (2 : Int32)))) q58.2).bind (fun q59 => if q58.1 = q59.1 then bnd (s.1 + (6 : Int32)) (fun y60 => some (Sum.inl (y60, q59.2))) else up (bz (0 : Int32) (some ((0 : Int32), q59.2)))))))))), ((20 : Int32), (f_X8_undo s.2).bind (fun q61 => (f_X9_undo q61.2).bind (fun q62 => if q61.1 = q62.1 then bnd (s.1 + (6 : Int32)) (fun y63 => some (Sum.inl (y63, q62.2))) else up (bz (0 : Int32) (some ((0 : Int32), q62.2)))))), ((21 : Int32), (f_X8_redo s.2).bind (fun q64 => (f_X9_redo q64.2).bind (fun q65 => if q64.1 = q65.1 then bnd (s.1 + (6 : Int32)) (fun y66 => some (Sum.inl (y66, q65.2))) else up (bz (0 : Int32) (some ((0 : Int32), q65.2)))))), ((22 : Int32), ck (s.1 + (1 : Int32)) (gN g) ((f_X8_body (gX g (ix (s.1 + (1 : Int32)))) s.2).bind (fun q67 => ck (s.1 + (1 : Int32)) (gN g) ((f_X9_body (gX g (ix (s.1 + (1 : Int32)))) q67.2).bind (fun q68 => if q67.1 = q68.1 then bnd (s.1 + (6 : Int32)) (fun y69 => some (Sum.inl (y69, q68.2))) else up (bz (0 : Int32) (some ((0 : Int32), q68.2)))))))), ((23 : Int32), ck (s.1 + (1 : Int32)) (gN g) (ck (s.1 + (2 : Int32)) (gN g) (ck (s.1 + (3 : Int32)) (gN g) ((f_X8_act (gX g (ix (s.1 + (1 : Int32)))) (gX g (ix (s.1 + (2 : Int32)))) (gX g (ix (s.1 + (3 : Int32)))) s.2).bind (fun q70 => ck (s.1 + (1 : Int32)) (gN g) (ck (s.1 + (2 : Int32)) (gN g) (ck (s.1 + (3 : Int32)) (gN g) ((f_X9_act (gX g (ix (s.1 + (1 : Int32)))) (gX g (ix (s.1 + (2 : Int32)))) (gX g (ix (s.1 + (3 : Int32)))) q70.2).bind (fun q71 => if q70.1 = q71.1 then bnd (s.1 + (6 : Int32)) (fun y72 => some (Sum.inl (y72, q71.2))) else up (bz (0 : Int32) (some ((0 : Int32), q71.2)))))))))))), ((24 : Int32), ck (s.1 + (1 : Int32)) (gN g) ((f_X8_trace (gX g (ix (s.1 + (1 : Int32)))) s.2).bind (fun q73 => ck (s.1 + (1 : Int32)) (gN g) ((f_X9_trace (gX g (ix (s.1 + (1 : Int32)))) q73.2).bind (fun q74 => if q73.1 = q74.1 then bnd (s.1 + (6 : Int32)) (fun y75 => some (Sum.inl (y75, q74.2))) else up (bz (0 : Int32) (some ((0 : Int32), q74.2)))))))), ((25 : Int32), ck (s.1 + (1 : Int32)) (gN g) (ck (s.1 + (2 : Int32)) (gN g) ((f_X8_keep (gX g (ix (s.1 + (1 : Int32)))) (gX g (ix (s.1 + (2 : Int32)))) s.2).bind (fun q76 => ck (s.1 + (1 : Int32)) (gN g) (ck (s.1 + (2 : Int32)) (gN g) ((f_X9_keep (gX g (ix (s.1 + (1 : Int32)))) (gX g (ix (s.1 + (2 : Int32)))) q76.2).bind (fun q77 => if q76.1 = q77.1 then bnd (s.1 + (6 : Int32)) (fun y78 => some (Sum.inl (y78, q77.2))) else up (bz (0 : Int32) (some ((0 : Int32), q77.2)))))))))), ((26 : Int32), ck (s.1 + (1 : Int32)) (gN g) (ck (s.1 + (2 : Int32)) (gN g) (ck (s.1 + (3 : Int32)) (gN g) ((f_X8_row (gX g (ix (s.1 + (1 : Int32)))) (gX g (ix (s.1 + (2 : Int32)))) (gX g (ix (s.1 + (3 : Int32)))) s.2).bind (fun q79 => ck (s.1 + (1 : Int32)) (gN g) (ck (s.1 + (2 : Int32)) (gN g) (ck (s.1 + (3 : Int32)) (gN g) ((f_X9_row (gX g (ix (s.1 + (1 : Int32)))) (gX g (ix (s.1 + (2 : Int32)))) (gX g (ix (s.1 + (3 : Int32)))) q79.2).bind (fun q80 => if q79.1 = q80.1 then bnd (s.1 + (6 : Int32)) (fun y81 => some (Sum.inl (y81, q80.2))) else up (bz (0 : Int32) (some ((0 : Int32), q80.2)))))))))))), ((27 : Int32), ck (s.1 + (1 : Int32)) (gN g) (ck (s.1 + (2 : Int32)) (gN g) (ck (s.1 + (3 : Int32)) (gN g) (ck (s.1 + (4 : Int32)) (gN g) ((f_X8_put (gX g (ix (s.1 + (1 : Int32)))) (gX g (ix (s.1 + (2 : Int32)))) (((gX g (ix (s.1 + (3 : Int32)))).toInt64 <<< ((32 : Int32).toInt64 &&& 63)) ||| ((gX g (ix (s.1 + (4 : Int32)))).toInt64 &&& (4294967295 : Int64))) s.2).bind (fun q82 => ck (s.1 + (1 : Int32)) (gN g) (ck (s.1 + (2 : Int32)) (gN g) (ck (s.1 + (3 : Int32)) (gN g) (ck (s.1 + (4 : Int32)) (gN g) ((f_X9_put (gX g (ix (s.1 + (1 : Int32)))) (gX g (ix (s.1 + (2 : Int32)))) (((gX g (ix (s.1 + (3 : Int32)))).toInt64 <<< ((32 : Int32).toInt64 &&& 63)) ||| ((gX g (ix (s.1 + (4 : Int32)))).toInt64 &&& (4294967295 : Int64))) q82.2).bind (fun q83 => if q82.1 = q83.1 then bnd (s.1 + (6 : Int32)) (fun y84 => some (Sum.inl (y84, q83.2))) else up (bz (0 : Int32) (some ((0 : Int32), q83.2)))))))))))))), ((28 : Int32), ck (s.1 + (1 : Int32)) (gN g) (ck (s.1 + (2 : Int32)) (gN g) ((f_X8_element (gX g (ix (s.1 + (1 : Int32)))) (gX g (ix (s.1 + (2 : Int32)))) s.2).bind (fun q85 => ck (s.1 + (1 : Int32)) (gN g) (ck (s.1 + (2 : Int32)) (gN g) ((f_X9_element (gX g (ix (s.1 + (1 : Int32)))) (gX g (ix (s.1 + (2 : Int32)))) q85.2).bind (fun q86 => if (lg_cmp q85.1 q86.1) = 0 then bnd (s.1 + (6 : Int32)) (fun y87 => some (Sum.inl (y87, q86.2))) else up (bz (0 : Int32) (some ((0 : Int32), q86.2)))))))))), ((29 : Int32), ck (s.1 + (1 : Int32)) (gN g) (ck (s.1 + (2 : Int32)) (gN g) (ck (s.1 + (3 : Int32)) (gN g) (ck (s.1 + (4 : Int32)) (gN g) (ck (s.1 + (5 : Int32)) (gN g) ((f_X8_shift (gX g (ix (s.1 + (1 : Int32)))) (gX g (ix (s.1 + (2 : Int32)))) (gX g (ix (s.1 + (3 : Int32)))) (gX g (ix (s.1 + (4 : Int32)))) (gX g (ix (s.1 + (5 : Int32)))) s.2).bind (fun q88 => ck (s.1 + (1 : Int32)) (gN g) (ck (s.1 + (2 : Int32)) (gN g) (ck (s.1 + (3 : Int32)) (gN g) (ck (s.1 + (4 : Int32)) (gN g) (ck (s.1 + (5 : Int32)) (gN g) ((f_X9_shift (gX g (ix (s.1 + (1 : Int32)))) (gX g (ix (s.1 + (2 : Int32)))) (gX g (ix (s.1 + (3 : Int32)))) (gX g (ix (s.1 + (4 : Int32)))) (gX g (ix (s.1 + (5 : Int32)))) q88.2).bind (fun q89 => if q88.1 = q89.1 then bnd (s.1 + (6 : Int32)) (fun y90 => some (Sum.inl (y90, q89.2))) else up (bz (0 : Int32) (some ((0 : Int32), q89.2)))))))))))))))), ((30 : Int32), ck (s.1 + (1 : Int32)) (gN g) (ck (s.1 + (2 : Int32)) (gN g) ((f_X8_taken (gX g (ix (s.1 + (1 : Int32)))) (gX g (ix (s.1 + (2 : Int32)))) s.2).bind (fun q91 => ck (s.1 + (1 : Int32)) (gN g) (ck (s.1 + (2 : Int32)) (gN g) ((f_X9_taken (gX g (ix (s.1 + (1 : Int32)))) (gX g (ix (s.1 + (2 : Int32)))) q91.2).bind (fun q92 => if q91.1 = q92.1 then bnd (s.1 + (6 : Int32)) (fun y93 => some (Sum.inl (y93, q92.2))) else up (bz (0 : Int32) (some ((0 : Int32), q92.2)))))))))), ((31 : Int32), ck (s.1 + (1 : Int32)) (gN g) ((f_X8_count (gX g (ix (s.1 + (1 : Int32)))) s.2).bind (fun q94 => ck (s.1 + (1 : Int32)) (gN g) ((f_X9_count (gX g (ix (s.1 + (1 : Int32)))) q94.2).bind (fun q95 => if q94.1 = q95.1 then bnd (s.1 + (6 : Int32)) (fun y96 => some (Sum.inl (y96, q95.2))) else up (bz (0 : Int32) (some ((0 : Int32), q95.2))))))))] (bnd (s.1 + (6 : Int32)) (fun y97 => some (Sum.inl (y97, s.2)))))
theorem k_law_L18 {g : Gx} {s : Int32 × Mem} {t : (Int32 × Mem) ⊕ (Int32 × Mem)} (h : f_law_L18 g s = some t) (hP : P_law_18 g t) : A_law_18 g s := by
  refine wp_iload_n dL_law_18 rfl rfl ?_
  refine wp_aload_n dL_law_19 rfl rfl ?_
  refine wp_slen dL_law_20 rfl ?_
  refine wp_bipush (6 : Int32) dL_law_21 ib_6 rfl ?_
  refine wp_isub dL_law_23 rfl ?_
  refine wk_icmp_gt 1199 dL_law_24 rfl rfl h (fun h => ?_) (fun h => ?_)
  · refine wm_up h hP (fun r h hP => ?_)
    refine wp_iconst (1 : Int32) dL_law_1199 ic_1 rfl ?_
    exact wk_lret dL_law_1200 h hP
  · refine wp_aload_n dL_law_27 rfl rfl ?_
    refine wp_iload_n dL_law_28 rfl rfl ?_
    refine wk_sld dL_law_29 rfl h (fun h => ?_)
    refine wp_bipush (31 : Int32) dL_law_30 ib_31 rfl ?_
    refine wp_iand dL_law_32 rfl ?_
    refine wk_tsw [((0 : Int32), 176), ((1 : Int32), 209), ((2 : Int32), 242), ((3 : Int32), 285), ((4 : Int32), 328), ((5 : Int32), 351), ((6 : Int32), 364), ((7 : Int32), 397), ((8 : Int32), 440), ((9 : Int32), 473), ((10 : Int32), 496), ((11 : Int32), 519), ((12 : Int32), 552), ((13 : Int32), 585), ((14 : Int32), 618), ((15 : Int32), 651), ((16 : Int32), 674), ((17 : Int32), 697), ((18 : Int32), 720), ((19 : Int32), 743), ((20 : Int32), 776), ((21 : Int32), 789), ((22 : Int32), 802), ((23 : Int32), 825), ((24 : Int32), 868), ((25 : Int32), 891), ((26 : Int32), 924), ((27 : Int32), 967), ((28 : Int32), 1040), ((29 : Int32), 1074), ((30 : Int32), 1137), ((31 : Int32), 1170)] 1193 dL_law_33 rfl (by decide) (by decide +kernel) (by decide +kernel) (by decide +kernel) h rfl ⟨fun h => ?_, fun h => ?_, fun h => ?_, fun h => ?_, fun h => ?_, fun h => ?_, fun h => ?_, fun h => ?_, fun h => ?_, fun h => ?_, fun h => ?_, fun h => ?_, fun h => ?_, fun h => ?_, fun h => ?_, fun h => ?_, fun h => ?_, fun h => ?_, fun h => ?_, fun h => ?_, fun h => ?_, fun h => ?_, fun h => ?_, fun h => ?_, fun h => ?_, fun h => ?_, fun h => ?_, fun h => ?_, fun h => ?_, fun h => ?_, fun h => ?_, fun h => ?_, trivial⟩ (fun h => ?_)
    · refine wp_aload_n dL_law_176 rfl rfl ?_
      refine wp_aload_n dL_law_177 rfl rfl ?_
      refine wp_iload_n dL_law_178 rfl rfl ?_
      refine wp_iconst (1 : Int32) dL_law_179 ic_1 rfl ?_
      refine wp_iadd dL_law_180 rfl ?_
      refine wk_sld dL_law_181 rfl h (fun h => ?_)
      refine wp_aload_n dL_law_182 rfl rfl ?_
      refine wp_iload_n dL_law_183 rfl rfl ?_
      refine wp_iconst (2 : Int32) dL_law_184 ic_2 rfl ?_
      refine wp_iadd dL_law_185 rfl ?_
      refine wk_sld dL_law_186 rfl h (fun h => ?_)
      refine wk_callVI (As := [.int (gX g (ix (s.1 + (1 : Int32)))), .int (gX g (ix (s.1 + (2 : Int32))))]) (rest := []) dL_law_187 ok_L_13 (by decide) rfl s_0 ⟨_, rfl⟩ (Nat.le_of_ble_eq_true rfl) ⟨rfl, rfl⟩ ⟨by decide, by decide⟩ rfl (fun t h => o_X8_person h) h (fun q1 h => ?_)
      refine wp_aload_n dL_law_190 rfl rfl ?_
      refine wp_aload_n dL_law_191 rfl rfl ?_
      refine wp_iload_n dL_law_192 rfl rfl ?_
      refine wp_iconst (1 : Int32) dL_law_193 ic_1 rfl ?_
      refine wp_iadd dL_law_194 rfl ?_
      refine wk_sld dL_law_195 rfl h (fun h => ?_)
      refine wp_aload_n dL_law_196 rfl rfl ?_
      refine wp_iload_n dL_law_197 rfl rfl ?_
      refine wp_iconst (2 : Int32) dL_law_198 ic_2 rfl ?_
      refine wp_iadd dL_law_199 rfl ?_
      refine wk_sld dL_law_200 rfl h (fun h => ?_)
      refine wk_callVI (As := [.int (gX g (ix (s.1 + (1 : Int32)))), .int (gX g (ix (s.1 + (2 : Int32))))]) (rest := [.int q1.1]) dL_law_201 ok_L_17 (by decide) rfl s_85 ⟨_, rfl⟩ (Nat.le_of_ble_eq_true rfl) ⟨rfl, rfl⟩ ⟨by decide, by decide⟩ rfl (fun t h => o_X9_person h) h (fun q2 h => ?_)
      refine wk_icmp_eq 1193 dL_law_204 rfl rfl h (fun h => ?_) (fun h => ?_)
      · refine wk_inc dL_law_1193 rfl ii_6 (by decide) rfl rfl h (fun y3 h => ?_)
        refine wk_list (L' := [some (.ref 1100), some (.ref 0), some (.ref 85), some (.int y3)]) rfl ?_
        refine wp_goto 18 dL_law_1196 rfl ?_
        have hB := wm_back h hP
        exact wk_mask (L' := [some (.ref 1100), some (.ref 0), some (.ref 85), some (.int y3)]) [true, true, true, true] rfl (hB)
      · refine wm_up h hP (fun r h hP => ?_)
        refine wp_iconst (0 : Int32) dL_law_207 ic_0 rfl ?_
        exact wk_lret dL_law_208 h hP
    · refine wp_aload_n dL_law_209 rfl rfl ?_
      refine wp_aload_n dL_law_210 rfl rfl ?_
      refine wp_iload_n dL_law_211 rfl rfl ?_
      refine wp_iconst (1 : Int32) dL_law_212 ic_1 rfl ?_
      refine wp_iadd dL_law_213 rfl ?_
      refine wk_sld dL_law_214 rfl h (fun h => ?_)
      refine wp_aload_n dL_law_215 rfl rfl ?_
      refine wp_iload_n dL_law_216 rfl rfl ?_
      refine wp_iconst (2 : Int32) dL_law_217 ic_2 rfl ?_
      refine wp_iadd dL_law_218 rfl ?_
      refine wk_sld dL_law_219 rfl h (fun h => ?_)
      refine wk_callVI (As := [.int (gX g (ix (s.1 + (1 : Int32)))), .int (gX g (ix (s.1 + (2 : Int32))))]) (rest := []) dL_law_220 ok_L_18 (by decide) rfl s_0 ⟨_, rfl⟩ (Nat.le_of_ble_eq_true rfl) ⟨rfl, rfl⟩ ⟨by decide, by decide⟩ rfl (fun t h => o_X8_thing h) h (fun q4 h => ?_)
      refine wp_aload_n dL_law_223 rfl rfl ?_
      refine wp_aload_n dL_law_224 rfl rfl ?_
      refine wp_iload_n dL_law_225 rfl rfl ?_
      refine wp_iconst (1 : Int32) dL_law_226 ic_1 rfl ?_
      refine wp_iadd dL_law_227 rfl ?_
      refine wk_sld dL_law_228 rfl h (fun h => ?_)
      refine wp_aload_n dL_law_229 rfl rfl ?_
      refine wp_iload_n dL_law_230 rfl rfl ?_
      refine wp_iconst (2 : Int32) dL_law_231 ic_2 rfl ?_
      refine wp_iadd dL_law_232 rfl ?_
      refine wk_sld dL_law_233 rfl h (fun h => ?_)
      refine wk_callVI (As := [.int (gX g (ix (s.1 + (1 : Int32)))), .int (gX g (ix (s.1 + (2 : Int32))))]) (rest := [.int q4.1]) dL_law_234 ok_L_21 (by decide) rfl s_85 ⟨_, rfl⟩ (Nat.le_of_ble_eq_true rfl) ⟨rfl, rfl⟩ ⟨by decide, by decide⟩ rfl (fun t h => o_X9_thing h) h (fun q5 h => ?_)
      refine wk_icmp_eq 1193 dL_law_237 rfl rfl h (fun h => ?_) (fun h => ?_)
      · refine wk_inc dL_law_1193 rfl ii_6 (by decide) rfl rfl h (fun y6 h => ?_)
        refine wk_list (L' := [some (.ref 1100), some (.ref 0), some (.ref 85), some (.int y6)]) rfl ?_
        refine wp_goto 18 dL_law_1196 rfl ?_
        have hB := wm_back h hP
        exact wk_mask (L' := [some (.ref 1100), some (.ref 0), some (.ref 85), some (.int y6)]) [true, true, true, true] rfl (hB)
      · refine wm_up h hP (fun r h hP => ?_)
        refine wp_iconst (0 : Int32) dL_law_240 ic_0 rfl ?_
        exact wk_lret dL_law_241 h hP
    · refine wp_aload_n dL_law_242 rfl rfl ?_
      refine wp_aload_n dL_law_243 rfl rfl ?_
      refine wp_iload_n dL_law_244 rfl rfl ?_
      refine wp_iconst (1 : Int32) dL_law_245 ic_1 rfl ?_
      refine wp_iadd dL_law_246 rfl ?_
      refine wk_sld dL_law_247 rfl h (fun h => ?_)
      refine wp_aload_n dL_law_248 rfl rfl ?_
      refine wp_iload_n dL_law_249 rfl rfl ?_
      refine wp_iconst (2 : Int32) dL_law_250 ic_2 rfl ?_
      refine wp_iadd dL_law_251 rfl ?_
      refine wk_sld dL_law_252 rfl h (fun h => ?_)
      refine wp_aload_n dL_law_253 rfl rfl ?_
      refine wp_iload_n dL_law_254 rfl rfl ?_
      refine wp_iconst (3 : Int32) dL_law_255 ic_3 rfl ?_
      refine wp_iadd dL_law_256 rfl ?_
      refine wk_sld dL_law_257 rfl h (fun h => ?_)
      refine wk_callVI (As := [.int (gX g (ix (s.1 + (1 : Int32)))), .int (gX g (ix (s.1 + (2 : Int32)))), .int (gX g (ix (s.1 + (3 : Int32))))]) (rest := []) dL_law_258 ok_L_22 (by decide) rfl s_0 ⟨_, rfl⟩ (Nat.le_of_ble_eq_true rfl) ⟨rfl, rfl⟩ ⟨by decide, by decide⟩ rfl (fun t h => o_X8_card h) h (fun q7 h => ?_)
      refine wp_aload_n dL_law_261 rfl rfl ?_
      refine wp_aload_n dL_law_262 rfl rfl ?_
      refine wp_iload_n dL_law_263 rfl rfl ?_
      refine wp_iconst (1 : Int32) dL_law_264 ic_1 rfl ?_
      refine wp_iadd dL_law_265 rfl ?_
      refine wk_sld dL_law_266 rfl h (fun h => ?_)
      refine wp_aload_n dL_law_267 rfl rfl ?_
      refine wp_iload_n dL_law_268 rfl rfl ?_
      refine wp_iconst (2 : Int32) dL_law_269 ic_2 rfl ?_
      refine wp_iadd dL_law_270 rfl ?_
      refine wk_sld dL_law_271 rfl h (fun h => ?_)
      refine wp_aload_n dL_law_272 rfl rfl ?_
      refine wp_iload_n dL_law_273 rfl rfl ?_
      refine wp_iconst (3 : Int32) dL_law_274 ic_3 rfl ?_
      refine wp_iadd dL_law_275 rfl ?_
      refine wk_sld dL_law_276 rfl h (fun h => ?_)
      refine wk_callVI (As := [.int (gX g (ix (s.1 + (1 : Int32)))), .int (gX g (ix (s.1 + (2 : Int32)))), .int (gX g (ix (s.1 + (3 : Int32))))]) (rest := [.int q7.1]) dL_law_277 ok_L_26 (by decide) rfl s_85 ⟨_, rfl⟩ (Nat.le_of_ble_eq_true rfl) ⟨rfl, rfl⟩ ⟨by decide, by decide⟩ rfl (fun t h => o_X9_card h) h (fun q8 h => ?_)
      refine wk_icmp_eq 1193 dL_law_280 rfl rfl h (fun h => ?_) (fun h => ?_)
      · refine wk_inc dL_law_1193 rfl ii_6 (by decide) rfl rfl h (fun y9 h => ?_)
        refine wk_list (L' := [some (.ref 1100), some (.ref 0), some (.ref 85), some (.int y9)]) rfl ?_
        refine wp_goto 18 dL_law_1196 rfl ?_
        have hB := wm_back h hP
        exact wk_mask (L' := [some (.ref 1100), some (.ref 0), some (.ref 85), some (.int y9)]) [true, true, true, true] rfl (hB)
      · refine wm_up h hP (fun r h hP => ?_)
        refine wp_iconst (0 : Int32) dL_law_283 ic_0 rfl ?_
        exact wk_lret dL_law_284 h hP
    · refine wp_aload_n dL_law_285 rfl rfl ?_
      refine wp_aload_n dL_law_286 rfl rfl ?_
      refine wp_iload_n dL_law_287 rfl rfl ?_
      refine wp_iconst (1 : Int32) dL_law_288 ic_1 rfl ?_
      refine wp_iadd dL_law_289 rfl ?_
      refine wk_sld dL_law_290 rfl h (fun h => ?_)
      refine wp_aload_n dL_law_291 rfl rfl ?_
      refine wp_iload_n dL_law_292 rfl rfl ?_
      refine wp_iconst (2 : Int32) dL_law_293 ic_2 rfl ?_
      refine wp_iadd dL_law_294 rfl ?_
      refine wk_sld dL_law_295 rfl h (fun h => ?_)
      refine wp_aload_n dL_law_296 rfl rfl ?_
      refine wp_iload_n dL_law_297 rfl rfl ?_
      refine wp_iconst (3 : Int32) dL_law_298 ic_3 rfl ?_
      refine wp_iadd dL_law_299 rfl ?_
      refine wk_sld dL_law_300 rfl h (fun h => ?_)
      refine wk_callVI (As := [.int (gX g (ix (s.1 + (1 : Int32)))), .int (gX g (ix (s.1 + (2 : Int32)))), .int (gX g (ix (s.1 + (3 : Int32))))]) (rest := []) dL_law_301 ok_L_27 (by decide) rfl s_0 ⟨_, rfl⟩ (Nat.le_of_ble_eq_true rfl) ⟨rfl, rfl⟩ ⟨by decide, by decide⟩ rfl (fun t h => o_X8_cards h) h (fun q10 h => ?_)
      refine wp_aload_n dL_law_304 rfl rfl ?_
      refine wp_aload_n dL_law_305 rfl rfl ?_
      refine wp_iload_n dL_law_306 rfl rfl ?_
      refine wp_iconst (1 : Int32) dL_law_307 ic_1 rfl ?_
      refine wp_iadd dL_law_308 rfl ?_
      refine wk_sld dL_law_309 rfl h (fun h => ?_)
      refine wp_aload_n dL_law_310 rfl rfl ?_
      refine wp_iload_n dL_law_311 rfl rfl ?_
      refine wp_iconst (2 : Int32) dL_law_312 ic_2 rfl ?_
      refine wp_iadd dL_law_313 rfl ?_
      refine wk_sld dL_law_314 rfl h (fun h => ?_)
      refine wp_aload_n dL_law_315 rfl rfl ?_
      refine wp_iload_n dL_law_316 rfl rfl ?_
      refine wp_iconst (3 : Int32) dL_law_317 ic_3 rfl ?_
      refine wp_iadd dL_law_318 rfl ?_
      refine wk_sld dL_law_319 rfl h (fun h => ?_)
      refine wk_callVI (As := [.int (gX g (ix (s.1 + (1 : Int32)))), .int (gX g (ix (s.1 + (2 : Int32)))), .int (gX g (ix (s.1 + (3 : Int32))))]) (rest := [.int q10.1]) dL_law_320 ok_L_30 (by decide) rfl s_85 ⟨_, rfl⟩ (Nat.le_of_ble_eq_true rfl) ⟨rfl, rfl⟩ ⟨by decide, by decide⟩ rfl (fun t h => o_X9_cards h) h (fun q11 h => ?_)
      refine wk_icmp_eq 1193 dL_law_323 rfl rfl h (fun h => ?_) (fun h => ?_)
      · refine wk_inc dL_law_1193 rfl ii_6 (by decide) rfl rfl h (fun y12 h => ?_)
        refine wk_list (L' := [some (.ref 1100), some (.ref 0), some (.ref 85), some (.int y12)]) rfl ?_
        refine wp_goto 18 dL_law_1196 rfl ?_
        have hB := wm_back h hP
        exact wk_mask (L' := [some (.ref 1100), some (.ref 0), some (.ref 85), some (.int y12)]) [true, true, true, true] rfl (hB)
      · refine wm_up h hP (fun r h hP => ?_)
        refine wp_iconst (0 : Int32) dL_law_326 ic_0 rfl ?_
        exact wk_lret dL_law_327 h hP
    · refine wp_aload_n dL_law_328 rfl rfl ?_
      refine wp_aload_n dL_law_329 rfl rfl ?_
      refine wp_iload_n dL_law_330 rfl rfl ?_
      refine wp_iconst (1 : Int32) dL_law_331 ic_1 rfl ?_
      refine wp_iadd dL_law_332 rfl ?_
      refine wk_sld dL_law_333 rfl h (fun h => ?_)
      refine wk_callVI (As := [.int (gX g (ix (s.1 + (1 : Int32))))]) (rest := []) dL_law_334 ok_L_31 (by decide) rfl s_0 ⟨_, rfl⟩ (Nat.le_of_ble_eq_true rfl) ⟨rfl, rfl⟩ ⟨by decide, by decide⟩ rfl (fun t h => o_X8_feed h) h (fun q13 h => ?_)
      refine wp_aload_n dL_law_337 rfl rfl ?_
      refine wp_aload_n dL_law_338 rfl rfl ?_
      refine wp_iload_n dL_law_339 rfl rfl ?_
      refine wp_iconst (1 : Int32) dL_law_340 ic_1 rfl ?_
      refine wp_iadd dL_law_341 rfl ?_
      refine wk_sld dL_law_342 rfl h (fun h => ?_)
      refine wk_callVI (As := [.int (gX g (ix (s.1 + (1 : Int32))))]) (rest := [.int q13.1]) dL_law_343 ok_L_35 (by decide) rfl s_85 ⟨_, rfl⟩ (Nat.le_of_ble_eq_true rfl) ⟨rfl, rfl⟩ ⟨by decide, by decide⟩ rfl (fun t h => o_X9_feed h) h (fun q14 h => ?_)
      refine wk_icmp_eq 1193 dL_law_346 rfl rfl h (fun h => ?_) (fun h => ?_)
      · refine wk_inc dL_law_1193 rfl ii_6 (by decide) rfl rfl h (fun y15 h => ?_)
        refine wk_list (L' := [some (.ref 1100), some (.ref 0), some (.ref 85), some (.int y15)]) rfl ?_
        refine wp_goto 18 dL_law_1196 rfl ?_
        have hB := wm_back h hP
        exact wk_mask (L' := [some (.ref 1100), some (.ref 0), some (.ref 85), some (.int y15)]) [true, true, true, true] rfl (hB)
      · refine wm_up h hP (fun r h hP => ?_)
        refine wp_iconst (0 : Int32) dL_law_349 ic_0 rfl ?_
        exact wk_lret dL_law_350 h hP
    · refine wp_aload_n dL_law_351 rfl rfl ?_
      refine wk_callVI (As := []) (rest := []) dL_law_352 ok_L_36 (by decide) rfl s_0 ⟨_, rfl⟩ (Nat.le_of_ble_eq_true rfl) ⟨rfl, rfl⟩ ⟨by decide, by decide⟩ rfl (fun t h => o_X8_law h) h (fun q16 h => ?_)
      refine wp_aload_n dL_law_355 rfl rfl ?_
      refine wk_callVI (As := []) (rest := [.int q16.1]) dL_law_356 ok_L_40 (by decide) rfl s_85 ⟨_, rfl⟩ (Nat.le_of_ble_eq_true rfl) ⟨rfl, rfl⟩ ⟨by decide, by decide⟩ rfl (fun t h => o_X9_law h) h (fun q17 h => ?_)
      refine wk_icmp_eq 1193 dL_law_359 rfl rfl h (fun h => ?_) (fun h => ?_)
      · refine wk_inc dL_law_1193 rfl ii_6 (by decide) rfl rfl h (fun y18 h => ?_)
        refine wk_list (L' := [some (.ref 1100), some (.ref 0), some (.ref 85), some (.int y18)]) rfl ?_
        refine wp_goto 18 dL_law_1196 rfl ?_
        have hB := wm_back h hP
        exact wk_mask (L' := [some (.ref 1100), some (.ref 0), some (.ref 85), some (.int y18)]) [true, true, true, true] rfl (hB)
      · refine wm_up h hP (fun r h hP => ?_)
        refine wp_iconst (0 : Int32) dL_law_362 ic_0 rfl ?_
        exact wk_lret dL_law_363 h hP
    · refine wp_aload_n dL_law_364 rfl rfl ?_
      refine wp_aload_n dL_law_365 rfl rfl ?_
      refine wp_iload_n dL_law_366 rfl rfl ?_
      refine wp_iconst (1 : Int32) dL_law_367 ic_1 rfl ?_
      refine wp_iadd dL_law_368 rfl ?_
      refine wk_sld dL_law_369 rfl h (fun h => ?_)
      refine wp_aload_n dL_law_370 rfl rfl ?_
      refine wp_iload_n dL_law_371 rfl rfl ?_
      refine wp_iconst (2 : Int32) dL_law_372 ic_2 rfl ?_
      refine wp_iadd dL_law_373 rfl ?_
      refine wk_sld dL_law_374 rfl h (fun h => ?_)
      refine wk_callVI (As := [.int (gX g (ix (s.1 + (1 : Int32)))), .int (gX g (ix (s.1 + (2 : Int32))))]) (rest := []) dL_law_375 ok_L_41 (by decide) rfl s_0 ⟨_, rfl⟩ (Nat.le_of_ble_eq_true rfl) ⟨rfl, rfl⟩ ⟨by decide, by decide⟩ rfl (fun t h => o_X8_set h) h (fun q19 h => ?_)
      refine wp_aload_n dL_law_378 rfl rfl ?_
      refine wp_aload_n dL_law_379 rfl rfl ?_
      refine wp_iload_n dL_law_380 rfl rfl ?_
      refine wp_iconst (1 : Int32) dL_law_381 ic_1 rfl ?_
      refine wp_iadd dL_law_382 rfl ?_
      refine wk_sld dL_law_383 rfl h (fun h => ?_)
      refine wp_aload_n dL_law_384 rfl rfl ?_
      refine wp_iload_n dL_law_385 rfl rfl ?_
      refine wp_iconst (2 : Int32) dL_law_386 ic_2 rfl ?_
      refine wp_iadd dL_law_387 rfl ?_
      refine wk_sld dL_law_388 rfl h (fun h => ?_)
      refine wk_callVI (As := [.int (gX g (ix (s.1 + (1 : Int32)))), .int (gX g (ix (s.1 + (2 : Int32))))]) (rest := [.int q19.1]) dL_law_389 ok_L_44 (by decide) rfl s_85 ⟨_, rfl⟩ (Nat.le_of_ble_eq_true rfl) ⟨rfl, rfl⟩ ⟨by decide, by decide⟩ rfl (fun t h => o_X9_set h) h (fun q20 h => ?_)
      refine wk_icmp_eq 1193 dL_law_392 rfl rfl h (fun h => ?_) (fun h => ?_)
      · refine wk_inc dL_law_1193 rfl ii_6 (by decide) rfl rfl h (fun y21 h => ?_)
        refine wk_list (L' := [some (.ref 1100), some (.ref 0), some (.ref 85), some (.int y21)]) rfl ?_
        refine wp_goto 18 dL_law_1196 rfl ?_
        have hB := wm_back h hP
        exact wk_mask (L' := [some (.ref 1100), some (.ref 0), some (.ref 85), some (.int y21)]) [true, true, true, true] rfl (hB)
      · refine wm_up h hP (fun r h hP => ?_)
        refine wp_iconst (0 : Int32) dL_law_395 ic_0 rfl ?_
        exact wk_lret dL_law_396 h hP
    · refine wp_aload_n dL_law_397 rfl rfl ?_
      refine wp_aload_n dL_law_398 rfl rfl ?_
      refine wp_iload_n dL_law_399 rfl rfl ?_
      refine wp_iconst (1 : Int32) dL_law_400 ic_1 rfl ?_
      refine wp_iadd dL_law_401 rfl ?_
      refine wk_sld dL_law_402 rfl h (fun h => ?_)
      refine wp_aload_n dL_law_403 rfl rfl ?_
      refine wp_iload_n dL_law_404 rfl rfl ?_
      refine wp_iconst (2 : Int32) dL_law_405 ic_2 rfl ?_
      refine wp_iadd dL_law_406 rfl ?_
      refine wk_sld dL_law_407 rfl h (fun h => ?_)
      refine wp_aload_n dL_law_408 rfl rfl ?_
      refine wp_iload_n dL_law_409 rfl rfl ?_
      refine wp_iconst (3 : Int32) dL_law_410 ic_3 rfl ?_
      refine wp_iadd dL_law_411 rfl ?_
      refine wk_sld dL_law_412 rfl h (fun h => ?_)
      refine wk_callVI (As := [.int (gX g (ix (s.1 + (1 : Int32)))), .int (gX g (ix (s.1 + (2 : Int32)))), .int (gX g (ix (s.1 + (3 : Int32))))]) (rest := []) dL_law_413 ok_L_45 (by decide) rfl s_0 ⟨_, rfl⟩ (Nat.le_of_ble_eq_true rfl) ⟨rfl, rfl⟩ ⟨by decide, by decide⟩ rfl (fun t h => o_X8_mend h) h (fun q22 h => ?_)
      refine wp_aload_n dL_law_416 rfl rfl ?_
      refine wp_aload_n dL_law_417 rfl rfl ?_
      refine wp_iload_n dL_law_418 rfl rfl ?_
      refine wp_iconst (1 : Int32) dL_law_419 ic_1 rfl ?_
      refine wp_iadd dL_law_420 rfl ?_
      refine wk_sld dL_law_421 rfl h (fun h => ?_)
      refine wp_aload_n dL_law_422 rfl rfl ?_
      refine wp_iload_n dL_law_423 rfl rfl ?_
      refine wp_iconst (2 : Int32) dL_law_424 ic_2 rfl ?_
      refine wp_iadd dL_law_425 rfl ?_
      refine wk_sld dL_law_426 rfl h (fun h => ?_)
      refine wp_aload_n dL_law_427 rfl rfl ?_
      refine wp_iload_n dL_law_428 rfl rfl ?_
      refine wp_iconst (3 : Int32) dL_law_429 ic_3 rfl ?_
      refine wp_iadd dL_law_430 rfl ?_
      refine wk_sld dL_law_431 rfl h (fun h => ?_)
      refine wk_callVI (As := [.int (gX g (ix (s.1 + (1 : Int32)))), .int (gX g (ix (s.1 + (2 : Int32)))), .int (gX g (ix (s.1 + (3 : Int32))))]) (rest := [.int q22.1]) dL_law_432 ok_L_48 (by decide) rfl s_85 ⟨_, rfl⟩ (Nat.le_of_ble_eq_true rfl) ⟨rfl, rfl⟩ ⟨by decide, by decide⟩ rfl (fun t h => o_X9_mend h) h (fun q23 h => ?_)
      refine wk_icmp_eq 1193 dL_law_435 rfl rfl h (fun h => ?_) (fun h => ?_)
      · refine wk_inc dL_law_1193 rfl ii_6 (by decide) rfl rfl h (fun y24 h => ?_)
        refine wk_list (L' := [some (.ref 1100), some (.ref 0), some (.ref 85), some (.int y24)]) rfl ?_
        refine wp_goto 18 dL_law_1196 rfl ?_
        have hB := wm_back h hP
        exact wk_mask (L' := [some (.ref 1100), some (.ref 0), some (.ref 85), some (.int y24)]) [true, true, true, true] rfl (hB)
      · refine wm_up h hP (fun r h hP => ?_)
        refine wp_iconst (0 : Int32) dL_law_438 ic_0 rfl ?_
        exact wk_lret dL_law_439 h hP
    · refine wp_aload_n dL_law_440 rfl rfl ?_
      refine wp_aload_n dL_law_441 rfl rfl ?_
      refine wp_iload_n dL_law_442 rfl rfl ?_
      refine wp_iconst (1 : Int32) dL_law_443 ic_1 rfl ?_
      refine wp_iadd dL_law_444 rfl ?_
      refine wk_sld dL_law_445 rfl h (fun h => ?_)
      refine wp_aload_n dL_law_446 rfl rfl ?_
      refine wp_iload_n dL_law_447 rfl rfl ?_
      refine wp_iconst (2 : Int32) dL_law_448 ic_2 rfl ?_
      refine wp_iadd dL_law_449 rfl ?_
      refine wk_sld dL_law_450 rfl h (fun h => ?_)
      refine wk_callVI (As := [.int (gX g (ix (s.1 + (1 : Int32)))), .int (gX g (ix (s.1 + (2 : Int32))))]) (rest := []) dL_law_451 ok_L_49 (by decide) rfl s_0 ⟨_, rfl⟩ (Nat.le_of_ble_eq_true rfl) ⟨rfl, rfl⟩ ⟨by decide, by decide⟩ rfl (fun t h => o_X8_of h) h (fun q25 h => ?_)
      refine wp_aload_n dL_law_454 rfl rfl ?_
      refine wp_aload_n dL_law_455 rfl rfl ?_
      refine wp_iload_n dL_law_456 rfl rfl ?_
      refine wp_iconst (1 : Int32) dL_law_457 ic_1 rfl ?_
      refine wp_iadd dL_law_458 rfl ?_
      refine wk_sld dL_law_459 rfl h (fun h => ?_)
      refine wp_aload_n dL_law_460 rfl rfl ?_
      refine wp_iload_n dL_law_461 rfl rfl ?_
      refine wp_iconst (2 : Int32) dL_law_462 ic_2 rfl ?_
      refine wp_iadd dL_law_463 rfl ?_
      refine wk_sld dL_law_464 rfl h (fun h => ?_)
      refine wk_callVI (As := [.int (gX g (ix (s.1 + (1 : Int32)))), .int (gX g (ix (s.1 + (2 : Int32))))]) (rest := [.int q25.1]) dL_law_465 ok_L_52 (by decide) rfl s_85 ⟨_, rfl⟩ (Nat.le_of_ble_eq_true rfl) ⟨rfl, rfl⟩ ⟨by decide, by decide⟩ rfl (fun t h => o_X9_of h) h (fun q26 h => ?_)
      refine wk_icmp_eq 1193 dL_law_468 rfl rfl h (fun h => ?_) (fun h => ?_)
      · refine wk_inc dL_law_1193 rfl ii_6 (by decide) rfl rfl h (fun y27 h => ?_)
        refine wk_list (L' := [some (.ref 1100), some (.ref 0), some (.ref 85), some (.int y27)]) rfl ?_
        refine wp_goto 18 dL_law_1196 rfl ?_
        have hB := wm_back h hP
        exact wk_mask (L' := [some (.ref 1100), some (.ref 0), some (.ref 85), some (.int y27)]) [true, true, true, true] rfl (hB)
      · refine wm_up h hP (fun r h hP => ?_)
        refine wp_iconst (0 : Int32) dL_law_471 ic_0 rfl ?_
        exact wk_lret dL_law_472 h hP
    · refine wp_aload_n dL_law_473 rfl rfl ?_
      refine wp_aload_n dL_law_474 rfl rfl ?_
      refine wp_iload_n dL_law_475 rfl rfl ?_
      refine wp_iconst (1 : Int32) dL_law_476 ic_1 rfl ?_
      refine wp_iadd dL_law_477 rfl ?_
      refine wk_sld dL_law_478 rfl h (fun h => ?_)
      refine wk_callVI (As := [.int (gX g (ix (s.1 + (1 : Int32))))]) (rest := []) dL_law_479 ok_L_53 (by decide) rfl s_0 ⟨_, rfl⟩ (Nat.le_of_ble_eq_true rfl) ⟨rfl, rfl⟩ ⟨by decide, by decide⟩ rfl (fun t h => o_X8_meet h) h (fun q28 h => ?_)
      refine wp_aload_n dL_law_482 rfl rfl ?_
      refine wp_aload_n dL_law_483 rfl rfl ?_
      refine wp_iload_n dL_law_484 rfl rfl ?_
      refine wp_iconst (1 : Int32) dL_law_485 ic_1 rfl ?_
      refine wp_iadd dL_law_486 rfl ?_
      refine wk_sld dL_law_487 rfl h (fun h => ?_)
      refine wk_callVI (As := [.int (gX g (ix (s.1 + (1 : Int32))))]) (rest := [.int q28.1]) dL_law_488 ok_L_56 (by decide) rfl s_85 ⟨_, rfl⟩ (Nat.le_of_ble_eq_true rfl) ⟨rfl, rfl⟩ ⟨by decide, by decide⟩ rfl (fun t h => o_X9_meet h) h (fun q29 h => ?_)
      refine wk_icmp_eq 1193 dL_law_491 rfl rfl h (fun h => ?_) (fun h => ?_)
      · refine wk_inc dL_law_1193 rfl ii_6 (by decide) rfl rfl h (fun y30 h => ?_)
        refine wk_list (L' := [some (.ref 1100), some (.ref 0), some (.ref 85), some (.int y30)]) rfl ?_
        refine wp_goto 18 dL_law_1196 rfl ?_
        have hB := wm_back h hP
        exact wk_mask (L' := [some (.ref 1100), some (.ref 0), some (.ref 85), some (.int y30)]) [true, true, true, true] rfl (hB)
      · refine wm_up h hP (fun r h hP => ?_)
        refine wp_iconst (0 : Int32) dL_law_494 ic_0 rfl ?_
        exact wk_lret dL_law_495 h hP
    · refine wp_aload_n dL_law_496 rfl rfl ?_
      refine wp_aload_n dL_law_497 rfl rfl ?_
      refine wp_iload_n dL_law_498 rfl rfl ?_
      refine wp_iconst (1 : Int32) dL_law_499 ic_1 rfl ?_
      refine wp_iadd dL_law_500 rfl ?_
      refine wk_sld dL_law_501 rfl h (fun h => ?_)
      refine wk_callVI (As := [.int (gX g (ix (s.1 + (1 : Int32))))]) (rest := []) dL_law_502 ok_L_57 (by decide) rfl s_0 ⟨_, rfl⟩ (Nat.le_of_ble_eq_true rfl) ⟨rfl, rfl⟩ ⟨by decide, by decide⟩ rfl (fun t h => o_X8_told h) h (fun q31 h => ?_)
      refine wp_aload_n dL_law_505 rfl rfl ?_
      refine wp_aload_n dL_law_506 rfl rfl ?_
      refine wp_iload_n dL_law_507 rfl rfl ?_
      refine wp_iconst (1 : Int32) dL_law_508 ic_1 rfl ?_
      refine wp_iadd dL_law_509 rfl ?_
      refine wk_sld dL_law_510 rfl h (fun h => ?_)
      refine wk_callVI (As := [.int (gX g (ix (s.1 + (1 : Int32))))]) (rest := [.int q31.1]) dL_law_511 ok_L_60 (by decide) rfl s_85 ⟨_, rfl⟩ (Nat.le_of_ble_eq_true rfl) ⟨rfl, rfl⟩ ⟨by decide, by decide⟩ rfl (fun t h => o_X9_told h) h (fun q32 h => ?_)
      refine wk_icmp_eq 1193 dL_law_514 rfl rfl h (fun h => ?_) (fun h => ?_)
      · refine wk_inc dL_law_1193 rfl ii_6 (by decide) rfl rfl h (fun y33 h => ?_)
        refine wk_list (L' := [some (.ref 1100), some (.ref 0), some (.ref 85), some (.int y33)]) rfl ?_
        refine wp_goto 18 dL_law_1196 rfl ?_
        have hB := wm_back h hP
        exact wk_mask (L' := [some (.ref 1100), some (.ref 0), some (.ref 85), some (.int y33)]) [true, true, true, true] rfl (hB)
      · refine wm_up h hP (fun r h hP => ?_)
        refine wp_iconst (0 : Int32) dL_law_517 ic_0 rfl ?_
        exact wk_lret dL_law_518 h hP
    · refine wp_aload_n dL_law_519 rfl rfl ?_
      refine wp_aload_n dL_law_520 rfl rfl ?_
      refine wp_iload_n dL_law_521 rfl rfl ?_
      refine wp_iconst (1 : Int32) dL_law_522 ic_1 rfl ?_
      refine wp_iadd dL_law_523 rfl ?_
      refine wk_sld dL_law_524 rfl h (fun h => ?_)
      refine wp_aload_n dL_law_525 rfl rfl ?_
      refine wp_iload_n dL_law_526 rfl rfl ?_
      refine wp_iconst (2 : Int32) dL_law_527 ic_2 rfl ?_
      refine wp_iadd dL_law_528 rfl ?_
      refine wk_sld dL_law_529 rfl h (fun h => ?_)
      refine wk_callVI (As := [.int (gX g (ix (s.1 + (1 : Int32)))), .int (gX g (ix (s.1 + (2 : Int32))))]) (rest := []) dL_law_530 ok_L_61 (by decide) rfl s_0 ⟨_, rfl⟩ (Nat.le_of_ble_eq_true rfl) ⟨rfl, rfl⟩ ⟨by decide, by decide⟩ rfl (fun t h => o_X8_saying h) h (fun q34 h => ?_)
      refine wp_aload_n dL_law_533 rfl rfl ?_
      refine wp_aload_n dL_law_534 rfl rfl ?_
      refine wp_iload_n dL_law_535 rfl rfl ?_
      refine wp_iconst (1 : Int32) dL_law_536 ic_1 rfl ?_
      refine wp_iadd dL_law_537 rfl ?_
      refine wk_sld dL_law_538 rfl h (fun h => ?_)
      refine wp_aload_n dL_law_539 rfl rfl ?_
      refine wp_iload_n dL_law_540 rfl rfl ?_
      refine wp_iconst (2 : Int32) dL_law_541 ic_2 rfl ?_
      refine wp_iadd dL_law_542 rfl ?_
      refine wk_sld dL_law_543 rfl h (fun h => ?_)
      refine wk_callVI (As := [.int (gX g (ix (s.1 + (1 : Int32)))), .int (gX g (ix (s.1 + (2 : Int32))))]) (rest := [.int q34.1]) dL_law_544 ok_L_64 (by decide) rfl s_85 ⟨_, rfl⟩ (Nat.le_of_ble_eq_true rfl) ⟨rfl, rfl⟩ ⟨by decide, by decide⟩ rfl (fun t h => o_X9_saying h) h (fun q35 h => ?_)
      refine wk_icmp_eq 1193 dL_law_547 rfl rfl h (fun h => ?_) (fun h => ?_)
      · refine wk_inc dL_law_1193 rfl ii_6 (by decide) rfl rfl h (fun y36 h => ?_)
        refine wk_list (L' := [some (.ref 1100), some (.ref 0), some (.ref 85), some (.int y36)]) rfl ?_
        refine wp_goto 18 dL_law_1196 rfl ?_
        have hB := wm_back h hP
        exact wk_mask (L' := [some (.ref 1100), some (.ref 0), some (.ref 85), some (.int y36)]) [true, true, true, true] rfl (hB)
      · refine wm_up h hP (fun r h hP => ?_)
        refine wp_iconst (0 : Int32) dL_law_550 ic_0 rfl ?_
        exact wk_lret dL_law_551 h hP
    · refine wp_aload_n dL_law_552 rfl rfl ?_
      refine wp_aload_n dL_law_553 rfl rfl ?_
      refine wp_iload_n dL_law_554 rfl rfl ?_
      refine wp_iconst (1 : Int32) dL_law_555 ic_1 rfl ?_
      refine wp_iadd dL_law_556 rfl ?_
      refine wk_sld dL_law_557 rfl h (fun h => ?_)
      refine wp_aload_n dL_law_558 rfl rfl ?_
      refine wp_iload_n dL_law_559 rfl rfl ?_
      refine wp_iconst (2 : Int32) dL_law_560 ic_2 rfl ?_
      refine wp_iadd dL_law_561 rfl ?_
      refine wk_sld dL_law_562 rfl h (fun h => ?_)
      refine wk_callVI (As := [.int (gX g (ix (s.1 + (1 : Int32)))), .int (gX g (ix (s.1 + (2 : Int32))))]) (rest := []) dL_law_563 ok_L_65 (by decide) rfl s_0 ⟨_, rfl⟩ (Nat.le_of_ble_eq_true rfl) ⟨rfl, rfl⟩ ⟨by decide, by decide⟩ rfl (fun t h => o_X8_took h) h (fun q37 h => ?_)
      refine wp_aload_n dL_law_566 rfl rfl ?_
      refine wp_aload_n dL_law_567 rfl rfl ?_
      refine wp_iload_n dL_law_568 rfl rfl ?_
      refine wp_iconst (1 : Int32) dL_law_569 ic_1 rfl ?_
      refine wp_iadd dL_law_570 rfl ?_
      refine wk_sld dL_law_571 rfl h (fun h => ?_)
      refine wp_aload_n dL_law_572 rfl rfl ?_
      refine wp_iload_n dL_law_573 rfl rfl ?_
      refine wp_iconst (2 : Int32) dL_law_574 ic_2 rfl ?_
      refine wp_iadd dL_law_575 rfl ?_
      refine wk_sld dL_law_576 rfl h (fun h => ?_)
      refine wk_callVI (As := [.int (gX g (ix (s.1 + (1 : Int32)))), .int (gX g (ix (s.1 + (2 : Int32))))]) (rest := [.int q37.1]) dL_law_577 ok_L_68 (by decide) rfl s_85 ⟨_, rfl⟩ (Nat.le_of_ble_eq_true rfl) ⟨rfl, rfl⟩ ⟨by decide, by decide⟩ rfl (fun t h => o_X9_took h) h (fun q38 h => ?_)
      refine wk_icmp_eq 1193 dL_law_580 rfl rfl h (fun h => ?_) (fun h => ?_)
      · refine wk_inc dL_law_1193 rfl ii_6 (by decide) rfl rfl h (fun y39 h => ?_)
        refine wk_list (L' := [some (.ref 1100), some (.ref 0), some (.ref 85), some (.int y39)]) rfl ?_
        refine wp_goto 18 dL_law_1196 rfl ?_
        have hB := wm_back h hP
        exact wk_mask (L' := [some (.ref 1100), some (.ref 0), some (.ref 85), some (.int y39)]) [true, true, true, true] rfl (hB)
      · refine wm_up h hP (fun r h hP => ?_)
        refine wp_iconst (0 : Int32) dL_law_583 ic_0 rfl ?_
        exact wk_lret dL_law_584 h hP
    · refine wp_aload_n dL_law_585 rfl rfl ?_
      refine wp_aload_n dL_law_586 rfl rfl ?_
      refine wp_iload_n dL_law_587 rfl rfl ?_
      refine wp_iconst (1 : Int32) dL_law_588 ic_1 rfl ?_
      refine wp_iadd dL_law_589 rfl ?_
      refine wk_sld dL_law_590 rfl h (fun h => ?_)
      refine wp_aload_n dL_law_591 rfl rfl ?_
      refine wp_iload_n dL_law_592 rfl rfl ?_
      refine wp_iconst (2 : Int32) dL_law_593 ic_2 rfl ?_
      refine wp_iadd dL_law_594 rfl ?_
      refine wk_sld dL_law_595 rfl h (fun h => ?_)
      refine wk_callVI (As := [.int (gX g (ix (s.1 + (1 : Int32)))), .int (gX g (ix (s.1 + (2 : Int32))))]) (rest := []) dL_law_596 ok_L_69 (by decide) rfl s_0 ⟨_, rfl⟩ (Nat.le_of_ble_eq_true rfl) ⟨rfl, rfl⟩ ⟨by decide, by decide⟩ rfl (fun t h => o_X8_did h) h (fun q40 h => ?_)
      refine wp_aload_n dL_law_599 rfl rfl ?_
      refine wp_aload_n dL_law_600 rfl rfl ?_
      refine wp_iload_n dL_law_601 rfl rfl ?_
      refine wp_iconst (1 : Int32) dL_law_602 ic_1 rfl ?_
      refine wp_iadd dL_law_603 rfl ?_
      refine wk_sld dL_law_604 rfl h (fun h => ?_)
      refine wp_aload_n dL_law_605 rfl rfl ?_
      refine wp_iload_n dL_law_606 rfl rfl ?_
      refine wp_iconst (2 : Int32) dL_law_607 ic_2 rfl ?_
      refine wp_iadd dL_law_608 rfl ?_
      refine wk_sld dL_law_609 rfl h (fun h => ?_)
      refine wk_callVI (As := [.int (gX g (ix (s.1 + (1 : Int32)))), .int (gX g (ix (s.1 + (2 : Int32))))]) (rest := [.int q40.1]) dL_law_610 ok_L_72 (by decide) rfl s_85 ⟨_, rfl⟩ (Nat.le_of_ble_eq_true rfl) ⟨rfl, rfl⟩ ⟨by decide, by decide⟩ rfl (fun t h => o_X9_did h) h (fun q41 h => ?_)
      refine wk_icmp_eq 1193 dL_law_613 rfl rfl h (fun h => ?_) (fun h => ?_)
      · refine wk_inc dL_law_1193 rfl ii_6 (by decide) rfl rfl h (fun y42 h => ?_)
        refine wk_list (L' := [some (.ref 1100), some (.ref 0), some (.ref 85), some (.int y42)]) rfl ?_
        refine wp_goto 18 dL_law_1196 rfl ?_
        have hB := wm_back h hP
        exact wk_mask (L' := [some (.ref 1100), some (.ref 0), some (.ref 85), some (.int y42)]) [true, true, true, true] rfl (hB)
      · refine wm_up h hP (fun r h hP => ?_)
        refine wp_iconst (0 : Int32) dL_law_616 ic_0 rfl ?_
        exact wk_lret dL_law_617 h hP
    · refine wp_aload_n dL_law_618 rfl rfl ?_
      refine wp_aload_n dL_law_619 rfl rfl ?_
      refine wp_iload_n dL_law_620 rfl rfl ?_
      refine wp_iconst (1 : Int32) dL_law_621 ic_1 rfl ?_
      refine wp_iadd dL_law_622 rfl ?_
      refine wk_sld dL_law_623 rfl h (fun h => ?_)
      refine wp_aload_n dL_law_624 rfl rfl ?_
      refine wp_iload_n dL_law_625 rfl rfl ?_
      refine wp_iconst (2 : Int32) dL_law_626 ic_2 rfl ?_
      refine wp_iadd dL_law_627 rfl ?_
      refine wk_sld dL_law_628 rfl h (fun h => ?_)
      refine wk_callVI (As := [.int (gX g (ix (s.1 + (1 : Int32)))), .int (gX g (ix (s.1 + (2 : Int32))))]) (rest := []) dL_law_629 ok_L_73 (by decide) rfl s_0 ⟨_, rfl⟩ (Nat.le_of_ble_eq_true rfl) ⟨rfl, rfl⟩ ⟨by decide, by decide⟩ rfl (fun t h => o_X8_first h) h (fun q43 h => ?_)
      refine wp_aload_n dL_law_632 rfl rfl ?_
      refine wp_aload_n dL_law_633 rfl rfl ?_
      refine wp_iload_n dL_law_634 rfl rfl ?_
      refine wp_iconst (1 : Int32) dL_law_635 ic_1 rfl ?_
      refine wp_iadd dL_law_636 rfl ?_
      refine wk_sld dL_law_637 rfl h (fun h => ?_)
      refine wp_aload_n dL_law_638 rfl rfl ?_
      refine wp_iload_n dL_law_639 rfl rfl ?_
      refine wp_iconst (2 : Int32) dL_law_640 ic_2 rfl ?_
      refine wp_iadd dL_law_641 rfl ?_
      refine wk_sld dL_law_642 rfl h (fun h => ?_)
      refine wk_callVI (As := [.int (gX g (ix (s.1 + (1 : Int32)))), .int (gX g (ix (s.1 + (2 : Int32))))]) (rest := [.int q43.1]) dL_law_643 ok_L_76 (by decide) rfl s_85 ⟨_, rfl⟩ (Nat.le_of_ble_eq_true rfl) ⟨rfl, rfl⟩ ⟨by decide, by decide⟩ rfl (fun t h => o_X9_first h) h (fun q44 h => ?_)
      refine wk_icmp_eq 1193 dL_law_646 rfl rfl h (fun h => ?_) (fun h => ?_)
      · refine wk_inc dL_law_1193 rfl ii_6 (by decide) rfl rfl h (fun y45 h => ?_)
        refine wk_list (L' := [some (.ref 1100), some (.ref 0), some (.ref 85), some (.int y45)]) rfl ?_
        refine wp_goto 18 dL_law_1196 rfl ?_
        have hB := wm_back h hP
        exact wk_mask (L' := [some (.ref 1100), some (.ref 0), some (.ref 85), some (.int y45)]) [true, true, true, true] rfl (hB)
      · refine wm_up h hP (fun r h hP => ?_)
        refine wp_iconst (0 : Int32) dL_law_649 ic_0 rfl ?_
        exact wk_lret dL_law_650 h hP
    · refine wp_aload_n dL_law_651 rfl rfl ?_
      refine wp_aload_n dL_law_652 rfl rfl ?_
      refine wp_iload_n dL_law_653 rfl rfl ?_
      refine wp_iconst (1 : Int32) dL_law_654 ic_1 rfl ?_
      refine wp_iadd dL_law_655 rfl ?_
      refine wk_sld dL_law_656 rfl h (fun h => ?_)
      refine wk_callVI (As := [.int (gX g (ix (s.1 + (1 : Int32))))]) (rest := []) dL_law_657 ok_L_77 (by decide) rfl s_0 ⟨_, rfl⟩ (Nat.le_of_ble_eq_true rfl) ⟨rfl, rfl⟩ ⟨by decide, by decide⟩ rfl (fun t h => o_X8_rule h) h (fun q46 h => ?_)
      refine wp_aload_n dL_law_660 rfl rfl ?_
      refine wp_aload_n dL_law_661 rfl rfl ?_
      refine wp_iload_n dL_law_662 rfl rfl ?_
      refine wp_iconst (1 : Int32) dL_law_663 ic_1 rfl ?_
      refine wp_iadd dL_law_664 rfl ?_
      refine wk_sld dL_law_665 rfl h (fun h => ?_)
      refine wk_callVI (As := [.int (gX g (ix (s.1 + (1 : Int32))))]) (rest := [.int q46.1]) dL_law_666 ok_L_80 (by decide) rfl s_85 ⟨_, rfl⟩ (Nat.le_of_ble_eq_true rfl) ⟨rfl, rfl⟩ ⟨by decide, by decide⟩ rfl (fun t h => o_X9_rule h) h (fun q47 h => ?_)
      refine wk_icmp_eq 1193 dL_law_669 rfl rfl h (fun h => ?_) (fun h => ?_)
      · refine wk_inc dL_law_1193 rfl ii_6 (by decide) rfl rfl h (fun y48 h => ?_)
        refine wk_list (L' := [some (.ref 1100), some (.ref 0), some (.ref 85), some (.int y48)]) rfl ?_
        refine wp_goto 18 dL_law_1196 rfl ?_
        have hB := wm_back h hP
        exact wk_mask (L' := [some (.ref 1100), some (.ref 0), some (.ref 85), some (.int y48)]) [true, true, true, true] rfl (hB)
      · refine wm_up h hP (fun r h hP => ?_)
        refine wp_iconst (0 : Int32) dL_law_672 ic_0 rfl ?_
        exact wk_lret dL_law_673 h hP
    · refine wp_aload_n dL_law_674 rfl rfl ?_
      refine wp_aload_n dL_law_675 rfl rfl ?_
      refine wp_iload_n dL_law_676 rfl rfl ?_
      refine wp_iconst (1 : Int32) dL_law_677 ic_1 rfl ?_
      refine wp_iadd dL_law_678 rfl ?_
      refine wk_sld dL_law_679 rfl h (fun h => ?_)
      refine wk_callVI (As := [.int (gX g (ix (s.1 + (1 : Int32))))]) (rest := []) dL_law_680 ok_L_81 (by decide) rfl s_0 ⟨_, rfl⟩ (Nat.le_of_ble_eq_true rfl) ⟨rfl, rfl⟩ ⟨by decide, by decide⟩ rfl (fun t h => o_X8_order h) h (fun q49 h => ?_)
      refine wp_aload_n dL_law_683 rfl rfl ?_
      refine wp_aload_n dL_law_684 rfl rfl ?_
      refine wp_iload_n dL_law_685 rfl rfl ?_
      refine wp_iconst (1 : Int32) dL_law_686 ic_1 rfl ?_
      refine wp_iadd dL_law_687 rfl ?_
      refine wk_sld dL_law_688 rfl h (fun h => ?_)
      refine wk_callVI (As := [.int (gX g (ix (s.1 + (1 : Int32))))]) (rest := [.int q49.1]) dL_law_689 ok_L_84 (by decide) rfl s_85 ⟨_, rfl⟩ (Nat.le_of_ble_eq_true rfl) ⟨rfl, rfl⟩ ⟨by decide, by decide⟩ rfl (fun t h => o_X9_order h) h (fun q50 h => ?_)
      refine wk_icmp_eq 1193 dL_law_692 rfl rfl h (fun h => ?_) (fun h => ?_)
      · refine wk_inc dL_law_1193 rfl ii_6 (by decide) rfl rfl h (fun y51 h => ?_)
        refine wk_list (L' := [some (.ref 1100), some (.ref 0), some (.ref 85), some (.int y51)]) rfl ?_
        refine wp_goto 18 dL_law_1196 rfl ?_
        have hB := wm_back h hP
        exact wk_mask (L' := [some (.ref 1100), some (.ref 0), some (.ref 85), some (.int y51)]) [true, true, true, true] rfl (hB)
      · refine wm_up h hP (fun r h hP => ?_)
        refine wp_iconst (0 : Int32) dL_law_695 ic_0 rfl ?_
        exact wk_lret dL_law_696 h hP
    · refine wp_aload_n dL_law_697 rfl rfl ?_
      refine wp_aload_n dL_law_698 rfl rfl ?_
      refine wp_iload_n dL_law_699 rfl rfl ?_
      refine wp_iconst (1 : Int32) dL_law_700 ic_1 rfl ?_
      refine wp_iadd dL_law_701 rfl ?_
      refine wk_sld dL_law_702 rfl h (fun h => ?_)
      refine wk_callVI (As := [.int (gX g (ix (s.1 + (1 : Int32))))]) (rest := []) dL_law_703 ok_L_85 (by decide) rfl s_0 ⟨_, rfl⟩ (Nat.le_of_ble_eq_true rfl) ⟨rfl, rfl⟩ ⟨by decide, by decide⟩ rfl (fun t h => o_X8_times h) h (fun q52 h => ?_)
      refine wp_aload_n dL_law_706 rfl rfl ?_
      refine wp_aload_n dL_law_707 rfl rfl ?_
      refine wp_iload_n dL_law_708 rfl rfl ?_
      refine wp_iconst (1 : Int32) dL_law_709 ic_1 rfl ?_
      refine wp_iadd dL_law_710 rfl ?_
      refine wk_sld dL_law_711 rfl h (fun h => ?_)
      refine wk_callVI (As := [.int (gX g (ix (s.1 + (1 : Int32))))]) (rest := [.int q52.1]) dL_law_712 ok_L_88 (by decide) rfl s_85 ⟨_, rfl⟩ (Nat.le_of_ble_eq_true rfl) ⟨rfl, rfl⟩ ⟨by decide, by decide⟩ rfl (fun t h => o_X9_times h) h (fun q53 h => ?_)
      refine wk_icmp_eq 1193 dL_law_715 rfl rfl h (fun h => ?_) (fun h => ?_)
      · refine wk_inc dL_law_1193 rfl ii_6 (by decide) rfl rfl h (fun y54 h => ?_)
        refine wk_list (L' := [some (.ref 1100), some (.ref 0), some (.ref 85), some (.int y54)]) rfl ?_
        refine wp_goto 18 dL_law_1196 rfl ?_
        have hB := wm_back h hP
        exact wk_mask (L' := [some (.ref 1100), some (.ref 0), some (.ref 85), some (.int y54)]) [true, true, true, true] rfl (hB)
      · refine wm_up h hP (fun r h hP => ?_)
        refine wp_iconst (0 : Int32) dL_law_718 ic_0 rfl ?_
        exact wk_lret dL_law_719 h hP
    · refine wp_aload_n dL_law_720 rfl rfl ?_
      refine wp_aload_n dL_law_721 rfl rfl ?_
      refine wp_iload_n dL_law_722 rfl rfl ?_
      refine wp_iconst (1 : Int32) dL_law_723 ic_1 rfl ?_
      refine wp_iadd dL_law_724 rfl ?_
      refine wk_sld dL_law_725 rfl h (fun h => ?_)
      refine wk_callVI (As := [.int (gX g (ix (s.1 + (1 : Int32))))]) (rest := []) dL_law_726 ok_L_89 (by decide) rfl s_0 ⟨_, rfl⟩ (Nat.le_of_ble_eq_true rfl) ⟨rfl, rfl⟩ ⟨by decide, by decide⟩ rfl (fun t h => o_X8_film h) h (fun q55 h => ?_)
      refine wp_aload_n dL_law_729 rfl rfl ?_
      refine wp_aload_n dL_law_730 rfl rfl ?_
      refine wp_iload_n dL_law_731 rfl rfl ?_
      refine wp_iconst (1 : Int32) dL_law_732 ic_1 rfl ?_
      refine wp_iadd dL_law_733 rfl ?_
      refine wk_sld dL_law_734 rfl h (fun h => ?_)
      refine wk_callVI (As := [.int (gX g (ix (s.1 + (1 : Int32))))]) (rest := [.int q55.1]) dL_law_735 ok_L_92 (by decide) rfl s_85 ⟨_, rfl⟩ (Nat.le_of_ble_eq_true rfl) ⟨rfl, rfl⟩ ⟨by decide, by decide⟩ rfl (fun t h => o_X9_film h) h (fun q56 h => ?_)
      refine wk_icmp_eq 1193 dL_law_738 rfl rfl h (fun h => ?_) (fun h => ?_)
      · refine wk_inc dL_law_1193 rfl ii_6 (by decide) rfl rfl h (fun y57 h => ?_)
        refine wk_list (L' := [some (.ref 1100), some (.ref 0), some (.ref 85), some (.int y57)]) rfl ?_
        refine wp_goto 18 dL_law_1196 rfl ?_
        have hB := wm_back h hP
        exact wk_mask (L' := [some (.ref 1100), some (.ref 0), some (.ref 85), some (.int y57)]) [true, true, true, true] rfl (hB)
      · refine wm_up h hP (fun r h hP => ?_)
        refine wp_iconst (0 : Int32) dL_law_741 ic_0 rfl ?_
        exact wk_lret dL_law_742 h hP
    · refine wp_aload_n dL_law_743 rfl rfl ?_
      refine wp_aload_n dL_law_744 rfl rfl ?_
      refine wp_iload_n dL_law_745 rfl rfl ?_
      refine wp_iconst (1 : Int32) dL_law_746 ic_1 rfl ?_
      refine wp_iadd dL_law_747 rfl ?_
      refine wk_sld dL_law_748 rfl h (fun h => ?_)
      refine wp_aload_n dL_law_749 rfl rfl ?_
      refine wp_iload_n dL_law_750 rfl rfl ?_
      refine wp_iconst (2 : Int32) dL_law_751 ic_2 rfl ?_
      refine wp_iadd dL_law_752 rfl ?_
      refine wk_sld dL_law_753 rfl h (fun h => ?_)
      refine wk_callVI (As := [.int (gX g (ix (s.1 + (1 : Int32)))), .int (gX g (ix (s.1 + (2 : Int32))))]) (rest := []) dL_law_754 ok_L_93 (by decide) rfl s_0 ⟨_, rfl⟩ (Nat.le_of_ble_eq_true rfl) ⟨rfl, rfl⟩ ⟨by decide, by decide⟩ rfl (fun t h => o_X8_wish h) h (fun q58 h => ?_)
      refine wp_aload_n dL_law_757 rfl rfl ?_
      refine wp_aload_n dL_law_758 rfl rfl ?_
      refine wp_iload_n dL_law_759 rfl rfl ?_
      refine wp_iconst (1 : Int32) dL_law_760 ic_1 rfl ?_
      refine wp_iadd dL_law_761 rfl ?_
      refine wk_sld dL_law_762 rfl h (fun h => ?_)
      refine wp_aload_n dL_law_763 rfl rfl ?_
      refine wp_iload_n dL_law_764 rfl rfl ?_
      refine wp_iconst (2 : Int32) dL_law_765 ic_2 rfl ?_
      refine wp_iadd dL_law_766 rfl ?_
      refine wk_sld dL_law_767 rfl h (fun h => ?_)
      refine wk_callVI (As := [.int (gX g (ix (s.1 + (1 : Int32)))), .int (gX g (ix (s.1 + (2 : Int32))))]) (rest := [.int q58.1]) dL_law_768 ok_L_96 (by decide) rfl s_85 ⟨_, rfl⟩ (Nat.le_of_ble_eq_true rfl) ⟨rfl, rfl⟩ ⟨by decide, by decide⟩ rfl (fun t h => o_X9_wish h) h (fun q59 h => ?_)
      refine wk_icmp_eq 1193 dL_law_771 rfl rfl h (fun h => ?_) (fun h => ?_)
      · refine wk_inc dL_law_1193 rfl ii_6 (by decide) rfl rfl h (fun y60 h => ?_)
        refine wk_list (L' := [some (.ref 1100), some (.ref 0), some (.ref 85), some (.int y60)]) rfl ?_
        refine wp_goto 18 dL_law_1196 rfl ?_
        have hB := wm_back h hP
        exact wk_mask (L' := [some (.ref 1100), some (.ref 0), some (.ref 85), some (.int y60)]) [true, true, true, true] rfl (hB)
      · refine wm_up h hP (fun r h hP => ?_)
        refine wp_iconst (0 : Int32) dL_law_774 ic_0 rfl ?_
        exact wk_lret dL_law_775 h hP
    · refine wp_aload_n dL_law_776 rfl rfl ?_
      refine wk_callVI (As := []) (rest := []) dL_law_777 ok_L_97 (by decide) rfl s_0 ⟨_, rfl⟩ (Nat.le_of_ble_eq_true rfl) ⟨rfl, rfl⟩ ⟨by decide, by decide⟩ rfl (fun t h => o_X8_undo h) h (fun q61 h => ?_)
      refine wp_aload_n dL_law_780 rfl rfl ?_
      refine wk_callVI (As := []) (rest := [.int q61.1]) dL_law_781 ok_L_100 (by decide) rfl s_85 ⟨_, rfl⟩ (Nat.le_of_ble_eq_true rfl) ⟨rfl, rfl⟩ ⟨by decide, by decide⟩ rfl (fun t h => o_X9_undo h) h (fun q62 h => ?_)
      refine wk_icmp_eq 1193 dL_law_784 rfl rfl h (fun h => ?_) (fun h => ?_)
      · refine wk_inc dL_law_1193 rfl ii_6 (by decide) rfl rfl h (fun y63 h => ?_)
        refine wk_list (L' := [some (.ref 1100), some (.ref 0), some (.ref 85), some (.int y63)]) rfl ?_
        refine wp_goto 18 dL_law_1196 rfl ?_
        have hB := wm_back h hP
        exact wk_mask (L' := [some (.ref 1100), some (.ref 0), some (.ref 85), some (.int y63)]) [true, true, true, true] rfl (hB)
      · refine wm_up h hP (fun r h hP => ?_)
        refine wp_iconst (0 : Int32) dL_law_787 ic_0 rfl ?_
        exact wk_lret dL_law_788 h hP
    · refine wp_aload_n dL_law_789 rfl rfl ?_
      refine wk_callVI (As := []) (rest := []) dL_law_790 ok_L_101 (by decide) rfl s_0 ⟨_, rfl⟩ (Nat.le_of_ble_eq_true rfl) ⟨rfl, rfl⟩ ⟨by decide, by decide⟩ rfl (fun t h => o_X8_redo h) h (fun q64 h => ?_)
      refine wp_aload_n dL_law_793 rfl rfl ?_
      refine wk_callVI (As := []) (rest := [.int q64.1]) dL_law_794 ok_L_104 (by decide) rfl s_85 ⟨_, rfl⟩ (Nat.le_of_ble_eq_true rfl) ⟨rfl, rfl⟩ ⟨by decide, by decide⟩ rfl (fun t h => o_X9_redo h) h (fun q65 h => ?_)
      refine wk_icmp_eq 1193 dL_law_797 rfl rfl h (fun h => ?_) (fun h => ?_)
      · refine wk_inc dL_law_1193 rfl ii_6 (by decide) rfl rfl h (fun y66 h => ?_)
        refine wk_list (L' := [some (.ref 1100), some (.ref 0), some (.ref 85), some (.int y66)]) rfl ?_
        refine wp_goto 18 dL_law_1196 rfl ?_
        have hB := wm_back h hP
        exact wk_mask (L' := [some (.ref 1100), some (.ref 0), some (.ref 85), some (.int y66)]) [true, true, true, true] rfl (hB)
      · refine wm_up h hP (fun r h hP => ?_)
        refine wp_iconst (0 : Int32) dL_law_800 ic_0 rfl ?_
        exact wk_lret dL_law_801 h hP
    · refine wp_aload_n dL_law_802 rfl rfl ?_
      refine wp_aload_n dL_law_803 rfl rfl ?_
      refine wp_iload_n dL_law_804 rfl rfl ?_
      refine wp_iconst (1 : Int32) dL_law_805 ic_1 rfl ?_
      refine wp_iadd dL_law_806 rfl ?_
      refine wk_sld dL_law_807 rfl h (fun h => ?_)
      refine wk_callVI (As := [.int (gX g (ix (s.1 + (1 : Int32))))]) (rest := []) dL_law_808 ok_L_105 (by decide) rfl s_0 ⟨_, rfl⟩ (Nat.le_of_ble_eq_true rfl) ⟨rfl, rfl⟩ ⟨by decide, by decide⟩ rfl (fun t h => o_X8_body h) h (fun q67 h => ?_)
      refine wp_aload_n dL_law_811 rfl rfl ?_
      refine wp_aload_n dL_law_812 rfl rfl ?_
      refine wp_iload_n dL_law_813 rfl rfl ?_
      refine wp_iconst (1 : Int32) dL_law_814 ic_1 rfl ?_
      refine wp_iadd dL_law_815 rfl ?_
      refine wk_sld dL_law_816 rfl h (fun h => ?_)
      refine wk_callVI (As := [.int (gX g (ix (s.1 + (1 : Int32))))]) (rest := [.int q67.1]) dL_law_817 ok_L_108 (by decide) rfl s_85 ⟨_, rfl⟩ (Nat.le_of_ble_eq_true rfl) ⟨rfl, rfl⟩ ⟨by decide, by decide⟩ rfl (fun t h => o_X9_body h) h (fun q68 h => ?_)
      refine wk_icmp_eq 1193 dL_law_820 rfl rfl h (fun h => ?_) (fun h => ?_)
      · refine wk_inc dL_law_1193 rfl ii_6 (by decide) rfl rfl h (fun y69 h => ?_)
        refine wk_list (L' := [some (.ref 1100), some (.ref 0), some (.ref 85), some (.int y69)]) rfl ?_
        refine wp_goto 18 dL_law_1196 rfl ?_
        have hB := wm_back h hP
        exact wk_mask (L' := [some (.ref 1100), some (.ref 0), some (.ref 85), some (.int y69)]) [true, true, true, true] rfl (hB)
      · refine wm_up h hP (fun r h hP => ?_)
        refine wp_iconst (0 : Int32) dL_law_823 ic_0 rfl ?_
        exact wk_lret dL_law_824 h hP
    · refine wp_aload_n dL_law_825 rfl rfl ?_
      refine wp_aload_n dL_law_826 rfl rfl ?_
      refine wp_iload_n dL_law_827 rfl rfl ?_
      refine wp_iconst (1 : Int32) dL_law_828 ic_1 rfl ?_
      refine wp_iadd dL_law_829 rfl ?_
      refine wk_sld dL_law_830 rfl h (fun h => ?_)
      refine wp_aload_n dL_law_831 rfl rfl ?_
      refine wp_iload_n dL_law_832 rfl rfl ?_
      refine wp_iconst (2 : Int32) dL_law_833 ic_2 rfl ?_
      refine wp_iadd dL_law_834 rfl ?_
      refine wk_sld dL_law_835 rfl h (fun h => ?_)
      refine wp_aload_n dL_law_836 rfl rfl ?_
      refine wp_iload_n dL_law_837 rfl rfl ?_
      refine wp_iconst (3 : Int32) dL_law_838 ic_3 rfl ?_
      refine wp_iadd dL_law_839 rfl ?_
      refine wk_sld dL_law_840 rfl h (fun h => ?_)
      refine wk_callVI (As := [.int (gX g (ix (s.1 + (1 : Int32)))), .int (gX g (ix (s.1 + (2 : Int32)))), .int (gX g (ix (s.1 + (3 : Int32))))]) (rest := []) dL_law_841 ok_L_109 (by decide) rfl s_0 ⟨_, rfl⟩ (Nat.le_of_ble_eq_true rfl) ⟨rfl, rfl⟩ ⟨by decide, by decide⟩ rfl (fun t h => o_X8_act h) h (fun q70 h => ?_)
      refine wp_aload_n dL_law_844 rfl rfl ?_
      refine wp_aload_n dL_law_845 rfl rfl ?_
      refine wp_iload_n dL_law_846 rfl rfl ?_
      refine wp_iconst (1 : Int32) dL_law_847 ic_1 rfl ?_
      refine wp_iadd dL_law_848 rfl ?_
      refine wk_sld dL_law_849 rfl h (fun h => ?_)
      refine wp_aload_n dL_law_850 rfl rfl ?_
      refine wp_iload_n dL_law_851 rfl rfl ?_
      refine wp_iconst (2 : Int32) dL_law_852 ic_2 rfl ?_
      refine wp_iadd dL_law_853 rfl ?_
      refine wk_sld dL_law_854 rfl h (fun h => ?_)
      refine wp_aload_n dL_law_855 rfl rfl ?_
      refine wp_iload_n dL_law_856 rfl rfl ?_
      refine wp_iconst (3 : Int32) dL_law_857 ic_3 rfl ?_
      refine wp_iadd dL_law_858 rfl ?_
      refine wk_sld dL_law_859 rfl h (fun h => ?_)
      refine wk_callVI (As := [.int (gX g (ix (s.1 + (1 : Int32)))), .int (gX g (ix (s.1 + (2 : Int32)))), .int (gX g (ix (s.1 + (3 : Int32))))]) (rest := [.int q70.1]) dL_law_860 ok_L_112 (by decide) rfl s_85 ⟨_, rfl⟩ (Nat.le_of_ble_eq_true rfl) ⟨rfl, rfl⟩ ⟨by decide, by decide⟩ rfl (fun t h => o_X9_act h) h (fun q71 h => ?_)
      refine wk_icmp_eq 1193 dL_law_863 rfl rfl h (fun h => ?_) (fun h => ?_)
      · refine wk_inc dL_law_1193 rfl ii_6 (by decide) rfl rfl h (fun y72 h => ?_)
        refine wk_list (L' := [some (.ref 1100), some (.ref 0), some (.ref 85), some (.int y72)]) rfl ?_
        refine wp_goto 18 dL_law_1196 rfl ?_
        have hB := wm_back h hP
        exact wk_mask (L' := [some (.ref 1100), some (.ref 0), some (.ref 85), some (.int y72)]) [true, true, true, true] rfl (hB)
      · refine wm_up h hP (fun r h hP => ?_)
        refine wp_iconst (0 : Int32) dL_law_866 ic_0 rfl ?_
        exact wk_lret dL_law_867 h hP
    · refine wp_aload_n dL_law_868 rfl rfl ?_
      refine wp_aload_n dL_law_869 rfl rfl ?_
      refine wp_iload_n dL_law_870 rfl rfl ?_
      refine wp_iconst (1 : Int32) dL_law_871 ic_1 rfl ?_
      refine wp_iadd dL_law_872 rfl ?_
      refine wk_sld dL_law_873 rfl h (fun h => ?_)
      refine wk_callVI (As := [.int (gX g (ix (s.1 + (1 : Int32))))]) (rest := []) dL_law_874 ok_L_113 (by decide) rfl s_0 ⟨_, rfl⟩ (Nat.le_of_ble_eq_true rfl) ⟨rfl, rfl⟩ ⟨by decide, by decide⟩ rfl (fun t h => o_X8_trace h) h (fun q73 h => ?_)
      refine wp_aload_n dL_law_877 rfl rfl ?_
      refine wp_aload_n dL_law_878 rfl rfl ?_
      refine wp_iload_n dL_law_879 rfl rfl ?_
      refine wp_iconst (1 : Int32) dL_law_880 ic_1 rfl ?_
      refine wp_iadd dL_law_881 rfl ?_
      refine wk_sld dL_law_882 rfl h (fun h => ?_)
      refine wk_callVI (As := [.int (gX g (ix (s.1 + (1 : Int32))))]) (rest := [.int q73.1]) dL_law_883 ok_L_116 (by decide) rfl s_85 ⟨_, rfl⟩ (Nat.le_of_ble_eq_true rfl) ⟨rfl, rfl⟩ ⟨by decide, by decide⟩ rfl (fun t h => o_X9_trace h) h (fun q74 h => ?_)
      refine wk_icmp_eq 1193 dL_law_886 rfl rfl h (fun h => ?_) (fun h => ?_)
      · refine wk_inc dL_law_1193 rfl ii_6 (by decide) rfl rfl h (fun y75 h => ?_)
        refine wk_list (L' := [some (.ref 1100), some (.ref 0), some (.ref 85), some (.int y75)]) rfl ?_
        refine wp_goto 18 dL_law_1196 rfl ?_
        have hB := wm_back h hP
        exact wk_mask (L' := [some (.ref 1100), some (.ref 0), some (.ref 85), some (.int y75)]) [true, true, true, true] rfl (hB)
      · refine wm_up h hP (fun r h hP => ?_)
        refine wp_iconst (0 : Int32) dL_law_889 ic_0 rfl ?_
        exact wk_lret dL_law_890 h hP
    · refine wp_aload_n dL_law_891 rfl rfl ?_
      refine wp_aload_n dL_law_892 rfl rfl ?_
      refine wp_iload_n dL_law_893 rfl rfl ?_
      refine wp_iconst (1 : Int32) dL_law_894 ic_1 rfl ?_
      refine wp_iadd dL_law_895 rfl ?_
      refine wk_sld dL_law_896 rfl h (fun h => ?_)
      refine wp_aload_n dL_law_897 rfl rfl ?_
      refine wp_iload_n dL_law_898 rfl rfl ?_
      refine wp_iconst (2 : Int32) dL_law_899 ic_2 rfl ?_
      refine wp_iadd dL_law_900 rfl ?_
      refine wk_sld dL_law_901 rfl h (fun h => ?_)
      refine wk_callVI (As := [.int (gX g (ix (s.1 + (1 : Int32)))), .int (gX g (ix (s.1 + (2 : Int32))))]) (rest := []) dL_law_902 ok_L_117 (by decide) rfl s_0 ⟨_, rfl⟩ (Nat.le_of_ble_eq_true rfl) ⟨rfl, rfl⟩ ⟨by decide, by decide⟩ rfl (fun t h => o_X8_keep h) h (fun q76 h => ?_)
      refine wp_aload_n dL_law_905 rfl rfl ?_
      refine wp_aload_n dL_law_906 rfl rfl ?_
      refine wp_iload_n dL_law_907 rfl rfl ?_
      refine wp_iconst (1 : Int32) dL_law_908 ic_1 rfl ?_
      refine wp_iadd dL_law_909 rfl ?_
      refine wk_sld dL_law_910 rfl h (fun h => ?_)
      refine wp_aload_n dL_law_911 rfl rfl ?_
      refine wp_iload_n dL_law_912 rfl rfl ?_
      refine wp_iconst (2 : Int32) dL_law_913 ic_2 rfl ?_
      refine wp_iadd dL_law_914 rfl ?_
      refine wk_sld dL_law_915 rfl h (fun h => ?_)
      refine wk_callVI (As := [.int (gX g (ix (s.1 + (1 : Int32)))), .int (gX g (ix (s.1 + (2 : Int32))))]) (rest := [.int q76.1]) dL_law_916 ok_L_120 (by decide) rfl s_85 ⟨_, rfl⟩ (Nat.le_of_ble_eq_true rfl) ⟨rfl, rfl⟩ ⟨by decide, by decide⟩ rfl (fun t h => o_X9_keep h) h (fun q77 h => ?_)
      refine wk_icmp_eq 1193 dL_law_919 rfl rfl h (fun h => ?_) (fun h => ?_)
      · refine wk_inc dL_law_1193 rfl ii_6 (by decide) rfl rfl h (fun y78 h => ?_)
        refine wk_list (L' := [some (.ref 1100), some (.ref 0), some (.ref 85), some (.int y78)]) rfl ?_
        refine wp_goto 18 dL_law_1196 rfl ?_
        have hB := wm_back h hP
        exact wk_mask (L' := [some (.ref 1100), some (.ref 0), some (.ref 85), some (.int y78)]) [true, true, true, true] rfl (hB)
      · refine wm_up h hP (fun r h hP => ?_)
        refine wp_iconst (0 : Int32) dL_law_922 ic_0 rfl ?_
        exact wk_lret dL_law_923 h hP
    · refine wp_aload_n dL_law_924 rfl rfl ?_
      refine wp_aload_n dL_law_925 rfl rfl ?_
      refine wp_iload_n dL_law_926 rfl rfl ?_
      refine wp_iconst (1 : Int32) dL_law_927 ic_1 rfl ?_
      refine wp_iadd dL_law_928 rfl ?_
      refine wk_sld dL_law_929 rfl h (fun h => ?_)
      refine wp_aload_n dL_law_930 rfl rfl ?_
      refine wp_iload_n dL_law_931 rfl rfl ?_
      refine wp_iconst (2 : Int32) dL_law_932 ic_2 rfl ?_
      refine wp_iadd dL_law_933 rfl ?_
      refine wk_sld dL_law_934 rfl h (fun h => ?_)
      refine wp_aload_n dL_law_935 rfl rfl ?_
      refine wp_iload_n dL_law_936 rfl rfl ?_
      refine wp_iconst (3 : Int32) dL_law_937 ic_3 rfl ?_
      refine wp_iadd dL_law_938 rfl ?_
      refine wk_sld dL_law_939 rfl h (fun h => ?_)
      refine wk_callVI (As := [.int (gX g (ix (s.1 + (1 : Int32)))), .int (gX g (ix (s.1 + (2 : Int32)))), .int (gX g (ix (s.1 + (3 : Int32))))]) (rest := []) dL_law_940 ok_L_121 (by decide) rfl s_0 ⟨_, rfl⟩ (Nat.le_of_ble_eq_true rfl) ⟨rfl, rfl⟩ ⟨by decide, by decide⟩ rfl (fun t h => o_X8_row h) h (fun q79 h => ?_)
      refine wp_aload_n dL_law_943 rfl rfl ?_
      refine wp_aload_n dL_law_944 rfl rfl ?_
      refine wp_iload_n dL_law_945 rfl rfl ?_
      refine wp_iconst (1 : Int32) dL_law_946 ic_1 rfl ?_
      refine wp_iadd dL_law_947 rfl ?_
      refine wk_sld dL_law_948 rfl h (fun h => ?_)
      refine wp_aload_n dL_law_949 rfl rfl ?_
      refine wp_iload_n dL_law_950 rfl rfl ?_
      refine wp_iconst (2 : Int32) dL_law_951 ic_2 rfl ?_
      refine wp_iadd dL_law_952 rfl ?_
      refine wk_sld dL_law_953 rfl h (fun h => ?_)
      refine wp_aload_n dL_law_954 rfl rfl ?_
      refine wp_iload_n dL_law_955 rfl rfl ?_
      refine wp_iconst (3 : Int32) dL_law_956 ic_3 rfl ?_
      refine wp_iadd dL_law_957 rfl ?_
      refine wk_sld dL_law_958 rfl h (fun h => ?_)
      refine wk_callVI (As := [.int (gX g (ix (s.1 + (1 : Int32)))), .int (gX g (ix (s.1 + (2 : Int32)))), .int (gX g (ix (s.1 + (3 : Int32))))]) (rest := [.int q79.1]) dL_law_959 ok_L_124 (by decide) rfl s_85 ⟨_, rfl⟩ (Nat.le_of_ble_eq_true rfl) ⟨rfl, rfl⟩ ⟨by decide, by decide⟩ rfl (fun t h => o_X9_row h) h (fun q80 h => ?_)
      refine wk_icmp_eq 1193 dL_law_962 rfl rfl h (fun h => ?_) (fun h => ?_)
      · refine wk_inc dL_law_1193 rfl ii_6 (by decide) rfl rfl h (fun y81 h => ?_)
        refine wk_list (L' := [some (.ref 1100), some (.ref 0), some (.ref 85), some (.int y81)]) rfl ?_
        refine wp_goto 18 dL_law_1196 rfl ?_
        have hB := wm_back h hP
        exact wk_mask (L' := [some (.ref 1100), some (.ref 0), some (.ref 85), some (.int y81)]) [true, true, true, true] rfl (hB)
      · refine wm_up h hP (fun r h hP => ?_)
        refine wp_iconst (0 : Int32) dL_law_965 ic_0 rfl ?_
        exact wk_lret dL_law_966 h hP
    · refine wp_aload_n dL_law_967 rfl rfl ?_
      refine wp_aload_n dL_law_968 rfl rfl ?_
      refine wp_iload_n dL_law_969 rfl rfl ?_
      refine wp_iconst (1 : Int32) dL_law_970 ic_1 rfl ?_
      refine wp_iadd dL_law_971 rfl ?_
      refine wk_sld dL_law_972 rfl h (fun h => ?_)
      refine wp_aload_n dL_law_973 rfl rfl ?_
      refine wp_iload_n dL_law_974 rfl rfl ?_
      refine wp_iconst (2 : Int32) dL_law_975 ic_2 rfl ?_
      refine wp_iadd dL_law_976 rfl ?_
      refine wk_sld dL_law_977 rfl h (fun h => ?_)
      refine wp_aload_n dL_law_978 rfl rfl ?_
      refine wp_iload_n dL_law_979 rfl rfl ?_
      refine wp_iconst (3 : Int32) dL_law_980 ic_3 rfl ?_
      refine wp_iadd dL_law_981 rfl ?_
      refine wk_sld dL_law_982 rfl h (fun h => ?_)
      refine wp_i2l dL_law_983 rfl ?_
      refine wp_bipush (32 : Int32) dL_law_984 ib_32 rfl ?_
      refine wp_lshl dL_law_986 rfl ?_
      refine wp_aload_n dL_law_987 rfl rfl ?_
      refine wp_iload_n dL_law_988 rfl rfl ?_
      refine wp_iconst (4 : Int32) dL_law_989 ic_4 rfl ?_
      refine wp_iadd dL_law_990 rfl ?_
      refine wk_sld dL_law_991 rfl h (fun h => ?_)
      refine wp_i2l dL_law_992 rfl ?_
      refine wp_ldc2 dL_law_993 q1791 rfl ?_
      refine wp_land dL_law_996 rfl ?_
      refine wp_lor dL_law_997 rfl ?_
      refine wk_callVI (As := [.int (gX g (ix (s.1 + (1 : Int32)))), .int (gX g (ix (s.1 + (2 : Int32)))), .long (((gX g (ix (s.1 + (3 : Int32)))).toInt64 <<< ((32 : Int32).toInt64 &&& 63)) ||| ((gX g (ix (s.1 + (4 : Int32)))).toInt64 &&& (4294967295 : Int64)))]) (rest := []) dL_law_998 ok_L_127 (by decide) rfl s_0 ⟨_, rfl⟩ (Nat.le_of_ble_eq_true rfl) ⟨rfl, rfl⟩ ⟨by decide, by decide⟩ rfl (fun t h => o_X8_put h) h (fun q82 h => ?_)
      refine wp_aload_n dL_law_1001 rfl rfl ?_
      refine wp_aload_n dL_law_1002 rfl rfl ?_
      refine wp_iload_n dL_law_1003 rfl rfl ?_
      refine wp_iconst (1 : Int32) dL_law_1004 ic_1 rfl ?_
      refine wp_iadd dL_law_1005 rfl ?_
      refine wk_sld dL_law_1006 rfl h (fun h => ?_)
      refine wp_aload_n dL_law_1007 rfl rfl ?_
      refine wp_iload_n dL_law_1008 rfl rfl ?_
      refine wp_iconst (2 : Int32) dL_law_1009 ic_2 rfl ?_
      refine wp_iadd dL_law_1010 rfl ?_
      refine wk_sld dL_law_1011 rfl h (fun h => ?_)
      refine wp_aload_n dL_law_1012 rfl rfl ?_
      refine wp_iload_n dL_law_1013 rfl rfl ?_
      refine wp_iconst (3 : Int32) dL_law_1014 ic_3 rfl ?_
      refine wp_iadd dL_law_1015 rfl ?_
      refine wk_sld dL_law_1016 rfl h (fun h => ?_)
      refine wp_i2l dL_law_1017 rfl ?_
      refine wp_bipush (32 : Int32) dL_law_1018 ib_32 rfl ?_
      refine wp_lshl dL_law_1020 rfl ?_
      refine wp_aload_n dL_law_1021 rfl rfl ?_
      refine wp_iload_n dL_law_1022 rfl rfl ?_
      refine wp_iconst (4 : Int32) dL_law_1023 ic_4 rfl ?_
      refine wp_iadd dL_law_1024 rfl ?_
      refine wk_sld dL_law_1025 rfl h (fun h => ?_)
      refine wp_i2l dL_law_1026 rfl ?_
      refine wp_ldc2 dL_law_1027 q1791 rfl ?_
      refine wp_land dL_law_1030 rfl ?_
      refine wp_lor dL_law_1031 rfl ?_
      refine wk_callVI (As := [.int (gX g (ix (s.1 + (1 : Int32)))), .int (gX g (ix (s.1 + (2 : Int32)))), .long (((gX g (ix (s.1 + (3 : Int32)))).toInt64 <<< ((32 : Int32).toInt64 &&& 63)) ||| ((gX g (ix (s.1 + (4 : Int32)))).toInt64 &&& (4294967295 : Int64)))]) (rest := [.int q82.1]) dL_law_1032 ok_L_131 (by decide) rfl s_85 ⟨_, rfl⟩ (Nat.le_of_ble_eq_true rfl) ⟨rfl, rfl⟩ ⟨by decide, by decide⟩ rfl (fun t h => o_X9_put h) h (fun q83 h => ?_)
      refine wk_icmp_eq 1193 dL_law_1035 rfl rfl h (fun h => ?_) (fun h => ?_)
      · refine wk_inc dL_law_1193 rfl ii_6 (by decide) rfl rfl h (fun y84 h => ?_)
        refine wk_list (L' := [some (.ref 1100), some (.ref 0), some (.ref 85), some (.int y84)]) rfl ?_
        refine wp_goto 18 dL_law_1196 rfl ?_
        have hB := wm_back h hP
        exact wk_mask (L' := [some (.ref 1100), some (.ref 0), some (.ref 85), some (.int y84)]) [true, true, true, true] rfl (hB)
      · refine wm_up h hP (fun r h hP => ?_)
        refine wp_iconst (0 : Int32) dL_law_1038 ic_0 rfl ?_
        exact wk_lret dL_law_1039 h hP
    · refine wp_aload_n dL_law_1040 rfl rfl ?_
      refine wp_aload_n dL_law_1041 rfl rfl ?_
      refine wp_iload_n dL_law_1042 rfl rfl ?_
      refine wp_iconst (1 : Int32) dL_law_1043 ic_1 rfl ?_
      refine wp_iadd dL_law_1044 rfl ?_
      refine wk_sld dL_law_1045 rfl h (fun h => ?_)
      refine wp_aload_n dL_law_1046 rfl rfl ?_
      refine wp_iload_n dL_law_1047 rfl rfl ?_
      refine wp_iconst (2 : Int32) dL_law_1048 ic_2 rfl ?_
      refine wp_iadd dL_law_1049 rfl ?_
      refine wk_sld dL_law_1050 rfl h (fun h => ?_)
      refine wk_callVL (As := [.int (gX g (ix (s.1 + (1 : Int32)))), .int (gX g (ix (s.1 + (2 : Int32))))]) (rest := []) dL_law_1051 ok_L_132 (by decide) rfl s_0 ⟨_, rfl⟩ (Nat.le_of_ble_eq_true rfl) ⟨rfl, rfl⟩ ⟨by decide, by decide⟩ rfl (fun t h => o_X8_element h) h (fun q85 h => ?_)
      refine wp_aload_n dL_law_1054 rfl rfl ?_
      refine wp_aload_n dL_law_1055 rfl rfl ?_
      refine wp_iload_n dL_law_1056 rfl rfl ?_
      refine wp_iconst (1 : Int32) dL_law_1057 ic_1 rfl ?_
      refine wp_iadd dL_law_1058 rfl ?_
      refine wk_sld dL_law_1059 rfl h (fun h => ?_)
      refine wp_aload_n dL_law_1060 rfl rfl ?_
      refine wp_iload_n dL_law_1061 rfl rfl ?_
      refine wp_iconst (2 : Int32) dL_law_1062 ic_2 rfl ?_
      refine wp_iadd dL_law_1063 rfl ?_
      refine wk_sld dL_law_1064 rfl h (fun h => ?_)
      refine wk_callVL (As := [.int (gX g (ix (s.1 + (1 : Int32)))), .int (gX g (ix (s.1 + (2 : Int32))))]) (rest := [.long q85.1]) dL_law_1065 ok_L_136 (by decide) rfl s_85 ⟨_, rfl⟩ (Nat.le_of_ble_eq_true rfl) ⟨rfl, rfl⟩ ⟨by decide, by decide⟩ rfl (fun t h => o_X9_element h) h (fun q86 h => ?_)
      refine wp_lcmp dL_law_1068 rfl ?_
      refine wk_if_eq 1193 dL_law_1069 rfl rfl h (fun h => ?_) (fun h => ?_)
      · refine wk_inc dL_law_1193 rfl ii_6 (by decide) rfl rfl h (fun y87 h => ?_)
        refine wk_list (L' := [some (.ref 1100), some (.ref 0), some (.ref 85), some (.int y87)]) rfl ?_
        refine wp_goto 18 dL_law_1196 rfl ?_
        have hB := wm_back h hP
        exact wk_mask (L' := [some (.ref 1100), some (.ref 0), some (.ref 85), some (.int y87)]) [true, true, true, true] rfl (hB)
      · refine wm_up h hP (fun r h hP => ?_)
        refine wp_iconst (0 : Int32) dL_law_1072 ic_0 rfl ?_
        exact wk_lret dL_law_1073 h hP
    · refine wp_aload_n dL_law_1074 rfl rfl ?_
      refine wp_aload_n dL_law_1075 rfl rfl ?_
      refine wp_iload_n dL_law_1076 rfl rfl ?_
      refine wp_iconst (1 : Int32) dL_law_1077 ic_1 rfl ?_
      refine wp_iadd dL_law_1078 rfl ?_
      refine wk_sld dL_law_1079 rfl h (fun h => ?_)
      refine wp_aload_n dL_law_1080 rfl rfl ?_
      refine wp_iload_n dL_law_1081 rfl rfl ?_
      refine wp_iconst (2 : Int32) dL_law_1082 ic_2 rfl ?_
      refine wp_iadd dL_law_1083 rfl ?_
      refine wk_sld dL_law_1084 rfl h (fun h => ?_)
      refine wp_aload_n dL_law_1085 rfl rfl ?_
      refine wp_iload_n dL_law_1086 rfl rfl ?_
      refine wp_iconst (3 : Int32) dL_law_1087 ic_3 rfl ?_
      refine wp_iadd dL_law_1088 rfl ?_
      refine wk_sld dL_law_1089 rfl h (fun h => ?_)
      refine wp_aload_n dL_law_1090 rfl rfl ?_
      refine wp_iload_n dL_law_1091 rfl rfl ?_
      refine wp_iconst (4 : Int32) dL_law_1092 ic_4 rfl ?_
      refine wp_iadd dL_law_1093 rfl ?_
      refine wk_sld dL_law_1094 rfl h (fun h => ?_)
      refine wp_aload_n dL_law_1095 rfl rfl ?_
      refine wp_iload_n dL_law_1096 rfl rfl ?_
      refine wp_iconst (5 : Int32) dL_law_1097 ic_5 rfl ?_
      refine wp_iadd dL_law_1098 rfl ?_
      refine wk_sld dL_law_1099 rfl h (fun h => ?_)
      refine wk_callVI (As := [.int (gX g (ix (s.1 + (1 : Int32)))), .int (gX g (ix (s.1 + (2 : Int32)))), .int (gX g (ix (s.1 + (3 : Int32)))), .int (gX g (ix (s.1 + (4 : Int32)))), .int (gX g (ix (s.1 + (5 : Int32))))]) (rest := []) dL_law_1100 ok_L_137 (by decide) rfl s_0 ⟨_, rfl⟩ (Nat.le_of_ble_eq_true rfl) ⟨rfl, rfl⟩ ⟨by decide, by decide⟩ rfl (fun t h => o_X8_shift h) h (fun q88 h => ?_)
      refine wp_aload_n dL_law_1103 rfl rfl ?_
      refine wp_aload_n dL_law_1104 rfl rfl ?_
      refine wp_iload_n dL_law_1105 rfl rfl ?_
      refine wp_iconst (1 : Int32) dL_law_1106 ic_1 rfl ?_
      refine wp_iadd dL_law_1107 rfl ?_
      refine wk_sld dL_law_1108 rfl h (fun h => ?_)
      refine wp_aload_n dL_law_1109 rfl rfl ?_
      refine wp_iload_n dL_law_1110 rfl rfl ?_
      refine wp_iconst (2 : Int32) dL_law_1111 ic_2 rfl ?_
      refine wp_iadd dL_law_1112 rfl ?_
      refine wk_sld dL_law_1113 rfl h (fun h => ?_)
      refine wp_aload_n dL_law_1114 rfl rfl ?_
      refine wp_iload_n dL_law_1115 rfl rfl ?_
      refine wp_iconst (3 : Int32) dL_law_1116 ic_3 rfl ?_
      refine wp_iadd dL_law_1117 rfl ?_
      refine wk_sld dL_law_1118 rfl h (fun h => ?_)
      refine wp_aload_n dL_law_1119 rfl rfl ?_
      refine wp_iload_n dL_law_1120 rfl rfl ?_
      refine wp_iconst (4 : Int32) dL_law_1121 ic_4 rfl ?_
      refine wp_iadd dL_law_1122 rfl ?_
      refine wk_sld dL_law_1123 rfl h (fun h => ?_)
      refine wp_aload_n dL_law_1124 rfl rfl ?_
      refine wp_iload_n dL_law_1125 rfl rfl ?_
      refine wp_iconst (5 : Int32) dL_law_1126 ic_5 rfl ?_
      refine wp_iadd dL_law_1127 rfl ?_
      refine wk_sld dL_law_1128 rfl h (fun h => ?_)
      refine wk_callVI (As := [.int (gX g (ix (s.1 + (1 : Int32)))), .int (gX g (ix (s.1 + (2 : Int32)))), .int (gX g (ix (s.1 + (3 : Int32)))), .int (gX g (ix (s.1 + (4 : Int32)))), .int (gX g (ix (s.1 + (5 : Int32))))]) (rest := [.int q88.1]) dL_law_1129 ok_L_141 (by decide) rfl s_85 ⟨_, rfl⟩ (Nat.le_of_ble_eq_true rfl) ⟨rfl, rfl⟩ ⟨by decide, by decide⟩ rfl (fun t h => o_X9_shift h) h (fun q89 h => ?_)
      refine wk_icmp_eq 1193 dL_law_1132 rfl rfl h (fun h => ?_) (fun h => ?_)
      · refine wk_inc dL_law_1193 rfl ii_6 (by decide) rfl rfl h (fun y90 h => ?_)
        refine wk_list (L' := [some (.ref 1100), some (.ref 0), some (.ref 85), some (.int y90)]) rfl ?_
        refine wp_goto 18 dL_law_1196 rfl ?_
        have hB := wm_back h hP
        exact wk_mask (L' := [some (.ref 1100), some (.ref 0), some (.ref 85), some (.int y90)]) [true, true, true, true] rfl (hB)
      · refine wm_up h hP (fun r h hP => ?_)
        refine wp_iconst (0 : Int32) dL_law_1135 ic_0 rfl ?_
        exact wk_lret dL_law_1136 h hP
    · refine wp_aload_n dL_law_1137 rfl rfl ?_
      refine wp_aload_n dL_law_1138 rfl rfl ?_
      refine wp_iload_n dL_law_1139 rfl rfl ?_
      refine wp_iconst (1 : Int32) dL_law_1140 ic_1 rfl ?_
      refine wp_iadd dL_law_1141 rfl ?_
      refine wk_sld dL_law_1142 rfl h (fun h => ?_)
      refine wp_aload_n dL_law_1143 rfl rfl ?_
      refine wp_iload_n dL_law_1144 rfl rfl ?_
      refine wp_iconst (2 : Int32) dL_law_1145 ic_2 rfl ?_
      refine wp_iadd dL_law_1146 rfl ?_
      refine wk_sld dL_law_1147 rfl h (fun h => ?_)
      refine wk_callVI (As := [.int (gX g (ix (s.1 + (1 : Int32)))), .int (gX g (ix (s.1 + (2 : Int32))))]) (rest := []) dL_law_1148 ok_L_142 (by decide) rfl s_0 ⟨_, rfl⟩ (Nat.le_of_ble_eq_true rfl) ⟨rfl, rfl⟩ ⟨by decide, by decide⟩ rfl (fun t h => o_X8_taken h) h (fun q91 h => ?_)
      refine wp_aload_n dL_law_1151 rfl rfl ?_
      refine wp_aload_n dL_law_1152 rfl rfl ?_
      refine wp_iload_n dL_law_1153 rfl rfl ?_
      refine wp_iconst (1 : Int32) dL_law_1154 ic_1 rfl ?_
      refine wp_iadd dL_law_1155 rfl ?_
      refine wk_sld dL_law_1156 rfl h (fun h => ?_)
      refine wp_aload_n dL_law_1157 rfl rfl ?_
      refine wp_iload_n dL_law_1158 rfl rfl ?_
      refine wp_iconst (2 : Int32) dL_law_1159 ic_2 rfl ?_
      refine wp_iadd dL_law_1160 rfl ?_
      refine wk_sld dL_law_1161 rfl h (fun h => ?_)
      refine wk_callVI (As := [.int (gX g (ix (s.1 + (1 : Int32)))), .int (gX g (ix (s.1 + (2 : Int32))))]) (rest := [.int q91.1]) dL_law_1162 ok_L_145 (by decide) rfl s_85 ⟨_, rfl⟩ (Nat.le_of_ble_eq_true rfl) ⟨rfl, rfl⟩ ⟨by decide, by decide⟩ rfl (fun t h => o_X9_taken h) h (fun q92 h => ?_)
      refine wk_icmp_eq 1193 dL_law_1165 rfl rfl h (fun h => ?_) (fun h => ?_)
      · refine wk_inc dL_law_1193 rfl ii_6 (by decide) rfl rfl h (fun y93 h => ?_)
        refine wk_list (L' := [some (.ref 1100), some (.ref 0), some (.ref 85), some (.int y93)]) rfl ?_
        refine wp_goto 18 dL_law_1196 rfl ?_
        have hB := wm_back h hP
        exact wk_mask (L' := [some (.ref 1100), some (.ref 0), some (.ref 85), some (.int y93)]) [true, true, true, true] rfl (hB)
      · refine wm_up h hP (fun r h hP => ?_)
        refine wp_iconst (0 : Int32) dL_law_1168 ic_0 rfl ?_
        exact wk_lret dL_law_1169 h hP
    · refine wp_aload_n dL_law_1170 rfl rfl ?_
      refine wp_aload_n dL_law_1171 rfl rfl ?_
      refine wp_iload_n dL_law_1172 rfl rfl ?_
      refine wp_iconst (1 : Int32) dL_law_1173 ic_1 rfl ?_
      refine wp_iadd dL_law_1174 rfl ?_
      refine wk_sld dL_law_1175 rfl h (fun h => ?_)
      refine wk_callVI (As := [.int (gX g (ix (s.1 + (1 : Int32))))]) (rest := []) dL_law_1176 ok_L_146 (by decide) rfl s_0 ⟨_, rfl⟩ (Nat.le_of_ble_eq_true rfl) ⟨rfl, rfl⟩ ⟨by decide, by decide⟩ rfl (fun t h => o_X8_count h) h (fun q94 h => ?_)
      refine wp_aload_n dL_law_1179 rfl rfl ?_
      refine wp_aload_n dL_law_1180 rfl rfl ?_
      refine wp_iload_n dL_law_1181 rfl rfl ?_
      refine wp_iconst (1 : Int32) dL_law_1182 ic_1 rfl ?_
      refine wp_iadd dL_law_1183 rfl ?_
      refine wk_sld dL_law_1184 rfl h (fun h => ?_)
      refine wk_callVI (As := [.int (gX g (ix (s.1 + (1 : Int32))))]) (rest := [.int q94.1]) dL_law_1185 ok_L_149 (by decide) rfl s_85 ⟨_, rfl⟩ (Nat.le_of_ble_eq_true rfl) ⟨rfl, rfl⟩ ⟨by decide, by decide⟩ rfl (fun t h => o_X9_count h) h (fun q95 h => ?_)
      refine wk_icmp_eq 1193 dL_law_1188 rfl rfl h (fun h => ?_) (fun h => ?_)
      · refine wk_inc dL_law_1193 rfl ii_6 (by decide) rfl rfl h (fun y96 h => ?_)
        refine wk_list (L' := [some (.ref 1100), some (.ref 0), some (.ref 85), some (.int y96)]) rfl ?_
        refine wp_goto 18 dL_law_1196 rfl ?_
        have hB := wm_back h hP
        exact wk_mask (L' := [some (.ref 1100), some (.ref 0), some (.ref 85), some (.int y96)]) [true, true, true, true] rfl (hB)
      · refine wm_up h hP (fun r h hP => ?_)
        refine wp_iconst (0 : Int32) dL_law_1191 ic_0 rfl ?_
        exact wk_lret dL_law_1192 h hP
    · refine wk_inc dL_law_1193 rfl ii_6 (by decide) rfl rfl h (fun y97 h => ?_)
      refine wk_list (L' := [some (.ref 1100), some (.ref 0), some (.ref 85), some (.int y97)]) rfl ?_
      refine wp_goto 18 dL_law_1196 rfl ?_
      have hB := wm_back h hP
      exact wk_mask (L' := [some (.ref 1100), some (.ref 0), some (.ref 85), some (.int y97)]) [true, true, true, true] rfl (hB)
