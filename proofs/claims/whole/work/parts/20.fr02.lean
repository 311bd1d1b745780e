theorem fr_X9_leastSpoken_J36  {v1 : Int32} {v2 : Int32} {t0 : Int32}  {m : Mem} {t : (Int32 × Int32 × Mem) ⊕ (Int32 × Mem)} (h : f_X9_leastSpoken_J36 v1 v2 t0 m = some t) : Fr (l_X9_leastSpoken) m ((mS (fun s => s.2.2) (fun t => t.2)) t) := by
  have hF : Fr (l_X9_leastSpoken) m m := Fr.rf
  obtain ⟨q1, h0, h⟩ := Option.bind_eq_some_iff.mp h
  have hF := hF.trans ((fr_X9_wishes h0).sub (fun _ hq => nomatch hq))
  rcases fr_if h with h | h
  · obtain ⟨y2, h⟩ := fr_bn h
    obtain rfl := Option.some.inj h
    exact hF
  · rcases fr_if h with h | h
    · obtain ⟨y3, h⟩ := fr_bn h
      obtain rfl := Option.some.inj h
      exact hF
    · have h := (ck_s h).2
      have h := (ck_s h).2
      rcases fr_if h with h | h
      · obtain ⟨y4, h⟩ := fr_bn h
        obtain rfl := Option.some.inj h
        exact hF
      · rcases fr_if h with h | h
        · obtain ⟨y5, h⟩ := fr_bn h
          obtain rfl := Option.some.inj h
          exact hF
        · have h := (ck_s h).2
          have h := (ck_s h).2
          rcases fr_if h with h | h
          · obtain ⟨y6, h⟩ := fr_bn h
            obtain rfl := Option.some.inj h
            exact hF
          · obtain ⟨y7, h⟩ := fr_bn h
            obtain rfl := Option.some.inj h
            exact hF
theorem fr_X9_leastSpoken_J35  {v1 : Int32} {v2 : Int32}  {m : Mem} {t : (Int32 × Int32 × Mem) ⊕ (Int32 × Mem)} (h : f_X9_leastSpoken_J35 v1 v2 m = some t) : Fr (l_X9_leastSpoken) m ((mS (fun s => s.2.2) (fun t => t.2)) t) := by
  have hF : Fr (l_X9_leastSpoken) m m := Fr.rf
  exact hF.trans (fr_X9_leastSpoken_J36 h)
theorem fr_X9_leastSpoken_L4  {s : Int32 × Int32 × Mem} {t : (Int32 × Int32 × Mem) ⊕ (Int32 × Mem)} (h : f_X9_leastSpoken_L4 s = some t) : Fr (l_X9_leastSpoken) s.2.2 ((mS (fun s => s.2.2) (fun t => t.2)) t) := by
  have hF : Fr (l_X9_leastSpoken) s.2.2 s.2.2 := Fr.rf
  rcases fr_if h with h | h
  · refine fr_up h (fun r h => ?_)
    obtain rfl := Option.some.inj h
    exact hF
  · rcases fr_if h with h | h
    · exact hF.trans (fr_X9_leastSpoken_J35 h)
    · have h := (ck_s h).2
      have h := (ck_s h).2
      rcases fr_if h with h | h
      · exact hF.trans (fr_X9_leastSpoken_J35 h)
      · exact hF.trans (fr_X9_leastSpoken_J36 h)
theorem fr_X9_leastSpoken   {m : Mem} {t : Int32 × Mem} (h : f_X9_leastSpoken m = some t) : Fr (l_X9_leastSpoken) m ((fun t => t.2) t) := by
  have hF : Fr (l_X9_leastSpoken) m m := Fr.rf
  have hW := fr_wh (l := l_X9_leastSpoken) (f := fun s => s.2.2) (k := (fun t => t.2)) (fun s t h => fr_X9_leastSpoken_L4 h) h
  exact hF.trans hW
theorem fr_X9_nextSpeaker   {m : Mem} {t : Int32 × Mem} (h : f_X9_nextSpeaker m = some t) : Fr (l_X9_nextSpeaker) m ((fun t => t.2) t) := by
  have hF : Fr (l_X9_nextSpeaker) m m := Fr.rf
  rcases fr_sw h with h | h | h | h | h
  · obtain ⟨q1, h0, h⟩ := Option.bind_eq_some_iff.mp h
    have hF := hF.trans ((fr_X9_byTurns h0).sub (fun _ hq => nomatch hq))
    obtain rfl := Option.some.inj h
    exact hF
  · obtain ⟨q2, h0, h⟩ := Option.bind_eq_some_iff.mp h
    have hF := hF.trans ((fr_X9_leastSpoken h0).sub (fun _ hq => nomatch hq))
    obtain rfl := Option.some.inj h
    exact hF
  · rcases fr_if h with h | h
    · obtain ⟨q3, h0, h⟩ := Option.bind_eq_some_iff.mp h
      have hF := hF.trans ((fr_X9_byTurns h0).sub (fun _ hq => nomatch hq))
      obtain rfl := Option.some.inj h
      exact hF
    · obtain ⟨q4, h0, h⟩ := Option.bind_eq_some_iff.mp h
      have hF := hF.trans ((fr_X9_wishes h0).sub (fun _ hq => nomatch hq))
      rcases fr_if h with h | h
      · obtain ⟨q5, h0, h⟩ := Option.bind_eq_some_iff.mp h
        have hF := hF.trans ((fr_X9_byTurns h0).sub (fun _ hq => nomatch hq))
        obtain rfl := Option.some.inj h
        exact hF
      · obtain rfl := Option.some.inj h
        exact hF
  · obtain ⟨q6, h0, h⟩ := Option.bind_eq_some_iff.mp h
    have hF := hF.trans ((fr_X9_chiefLast h0).sub (fun _ hq => nomatch hq))
    obtain rfl := Option.some.inj h
    exact hF
  · obtain ⟨q7, h0, h⟩ := Option.bind_eq_some_iff.mp h
    have hF := hF.trans ((fr_X9_mostWishing h0).sub (fun _ hq => nomatch hq))
    obtain rfl := Option.some.inj h
    exact hF
theorem fr_X9_stopper_J66  {v1 : Int32} {v2 : Int32} {t0 : Int32}  {m : Mem} {t : (Int32 × Int32 × Mem) ⊕ (Int32 × Mem)} (h : f_X9_stopper_J66 v1 v2 t0 m = some t) : Fr (l_X9_stopper) m ((mS (fun s => s.2.2) (fun t => t.2)) t) := by
  have hF : Fr (l_X9_stopper) m m := Fr.rf
  rcases fr_if h with h | h
  · obtain ⟨y1, h⟩ := fr_bn h
    obtain rfl := Option.some.inj h
    exact hF
  · have h := (ck_s h).2
    rcases fr_if h with h | h
    · obtain ⟨y2, h⟩ := fr_bn h
      obtain rfl := Option.some.inj h
      exact hF
    · refine fr_up h (fun r h => ?_)
      obtain rfl := Option.some.inj h
      exact hF
theorem fr_X9_stopper_J65  {v1 : Int32} {v2 : Int32}  {m : Mem} {t : (Int32 × Int32 × Mem) ⊕ (Int32 × Mem)} (h : f_X9_stopper_J65 v1 v2 m = some t) : Fr (l_X9_stopper) m ((mS (fun s => s.2.2) (fun t => t.2)) t) := by
  have hF : Fr (l_X9_stopper) m m := Fr.rf
  exact hF.trans (fr_X9_stopper_J66 h)
theorem fr_X9_stopper_L2  {s : Int32 × Int32 × Mem} {t : (Int32 × Int32 × Mem) ⊕ (Int32 × Mem)} (h : f_X9_stopper_L2 s = some t) : Fr (l_X9_stopper) s.2.2 ((mS (fun s => s.2.2) (fun t => t.2)) t) := by
  have hF : Fr (l_X9_stopper) s.2.2 s.2.2 := Fr.rf
  rcases fr_if h with h | h
  · refine fr_up h (fun r h => ?_)
    obtain rfl := Option.some.inj h
    exact hF
  · rcases fr_if h with h | h
    · exact hF.trans (fr_X9_stopper_J65 h)
    · obtain ⟨q3, h0, h⟩ := Option.bind_eq_some_iff.mp h
      have hF := hF.trans ((fr_X9_isThere h0).sub (fun _ hq => nomatch hq))
      rcases fr_if h with h | h
      · exact hF.trans (fr_X9_stopper_J65 h)
      · have h := (ck_s h).2
        have h := (ck_s h).2
        rcases fr_if h with h | h
        · exact hF.trans (fr_X9_stopper_J65 h)
        · have h := (ck_s h).2
          have h := (ck_s h).2
          rcases fr_if h with h | h
          · exact hF.trans (fr_X9_stopper_J65 h)
          · exact hF.trans (fr_X9_stopper_J66 h)
theorem fr_X9_stopper  {p1 : Int32} {m : Mem} {t : Int32 × Mem} (h : f_X9_stopper p1 m = some t) : Fr (l_X9_stopper) m ((fun t => t.2) t) := by
  have hF : Fr (l_X9_stopper) m m := Fr.rf
  have hW := fr_wh (l := l_X9_stopper) (f := fun s => s.2.2) (k := (fun t => t.2)) (fun s t h => fr_X9_stopper_L2 h) h
  exact hF.trans hW
theorem fr_X9_saysNew_L9  {s : Int32 × Int32 × Int32 × Int32 × Int32 × Int32 × Mem} {t : (Int32 × Int32 × Int32 × Int32 × Int32 × Int32 × Mem) ⊕ (Int32 × Mem)} (h : f_X9_saysNew_L9 s = some t) : Fr (l_X9_saysNew) s.2.2.2.2.2.2 ((mS (fun s => s.2.2.2.2.2.2) (fun t => t.2)) t) := by
  have hF : Fr (l_X9_saysNew) s.2.2.2.2.2.2 s.2.2.2.2.2.2 := Fr.rf
  rcases fr_if h with h | h
  · refine fr_up h (fun r h => ?_)
    obtain rfl := Option.some.inj h
    exact hF
  · rcases fr_if h with h | h
    · obtain ⟨y1, h⟩ := fr_bn h
      obtain rfl := Option.some.inj h
      exact hF
    · have h := (ck_s h).2
      rcases fr_if h with h | h
      · obtain ⟨y2, h⟩ := fr_bn h
        obtain rfl := Option.some.inj h
        exact hF
      · obtain ⟨q3, h0, h⟩ := Option.bind_eq_some_iff.mp h
        have hF := hF.trans ((fr_X9_knows h0).sub (fun _ hq => nomatch hq))
        rcases fr_if h with h | h
        · obtain ⟨y4, h⟩ := fr_bn h
          obtain rfl := Option.some.inj h
          exact hF
        · obtain ⟨q5, h0, h⟩ := Option.bind_eq_some_iff.mp h
          have hF := hF.trans ((fr_X9_isSaid h0).sub (fun _ hq => nomatch hq))
          rcases fr_if h with h | h
          · obtain ⟨y6, h⟩ := fr_bn h
            obtain rfl := Option.some.inj h
            exact hF
          · have h := (ck_s h).2
            obtain ⟨m7, hF, h⟩ := fr_stI (fr_at 0 rfl) hF h
            have h := (ck_s h).2
            obtain ⟨m8, hF, h⟩ := fr_stI (fr_at 1 rfl) hF h
            obtain ⟨y9, h⟩ := fr_bn h
            obtain ⟨y10, h⟩ := fr_bn h
            obtain ⟨y11, h⟩ := fr_bn h
            obtain rfl := Option.some.inj h
            exact hF
theorem fr_X9_saysNew  {p1 : Int32} {p2 : Int32} {p3 : Int32} {m : Mem} {t : Int32 × Mem} (h : f_X9_saysNew p1 p2 p3 m = some t) : Fr (l_X9_saysNew) m ((fun t => t.2) t) := by
  have hF : Fr (l_X9_saysNew) m m := Fr.rf
  have hW := fr_wh (l := l_X9_saysNew) (f := fun s => s.2.2.2.2.2.2) (k := (fun t => t.2)) (fun s t h => fr_X9_saysNew_L9 h) h
  exact hF.trans hW
theorem fr_X9_saysAgain_L2  {s : Int32 × Int32 × Int32 × Mem} {t : (Int32 × Int32 × Int32 × Mem) ⊕ (Int32 × Mem)} (h : f_X9_saysAgain_L2 s = some t) : Fr (l_X9_saysAgain) s.2.2.2 ((mS (fun s => s.2.2.2) (fun t => t.2)) t) := by
  have hF : Fr (l_X9_saysAgain) s.2.2.2 s.2.2.2 := Fr.rf
  rcases fr_if h with h | h
  · refine fr_up h (fun r h => ?_)
    obtain rfl := Option.some.inj h
    exact hF
  · have h := (ck_s h).2
    rcases fr_if h with h | h
    · obtain ⟨y1, h⟩ := fr_bn h
      obtain rfl := Option.some.inj h
      exact hF
    · obtain ⟨q2, h0, h⟩ := Option.bind_eq_some_iff.mp h
      have hF := hF.trans ((fr_X9_knows h0).sub (fun _ hq => nomatch hq))
      rcases fr_if h with h | h
      · obtain ⟨y3, h⟩ := fr_bn h
        obtain rfl := Option.some.inj h
        exact hF
      · obtain ⟨q4, h0, h⟩ := Option.bind_eq_some_iff.mp h
        have hF := hF.trans ((fr_X9_isSaid h0).sub (fun _ hq => nomatch hq))
        rcases fr_if h with h | h
        · obtain ⟨y5, h⟩ := fr_bn h
          obtain rfl := Option.some.inj h
          exact hF
        · refine fr_up h (fun r h => ?_)
          obtain rfl := Option.some.inj h
          exact hF
theorem fr_X9_saysAgain  {p1 : Int32} {p2 : Int32} {m : Mem} {t : Int32 × Mem} (h : f_X9_saysAgain p1 p2 m = some t) : Fr (l_X9_saysAgain) m ((fun t => t.2) t) := by
  have hF : Fr (l_X9_saysAgain) m m := Fr.rf
  have hW := fr_wh (l := l_X9_saysAgain) (f := fun s => s.2.2.2) (k := (fun t => t.2)) (fun s t h => fr_X9_saysAgain_L2 h) h
  exact hF.trans hW
theorem fr_X9_speaks_J203  {v1 : Int32} {v2 : Int32} {v4 : Int32} {v6 : Int32} {t0 : Int32} {t1 : Int32}  {m : Mem} {t : Mem} (h : f_X9_speaks_J203 v1 v2 v4 v6 t0 t1 m = some t) : Fr (l_X9_speaks) m ((fun t => t) t) := by
  have hF : Fr (l_X9_speaks) m m := Fr.rf
  have h := (ck_s h).2
  obtain ⟨m10, hF, h⟩ := fr_stI (fr_at 10 rfl) hF h
  have h := (ck_s h).2
  obtain ⟨m11, hF, h⟩ := fr_stI (fr_at 11 rfl) hF h
  obtain ⟨m12, hF, h⟩ := fr_stI (fr_at 13 rfl) hF h
  have h := (ck_s h).2
  have h := (ck_s h).2
  obtain ⟨m13, hF, h⟩ := fr_stI (fr_at 0 rfl) hF h
  obtain ⟨m14, hF, h⟩ := fr_stI (fr_at 14 rfl) hF h
  obtain ⟨m15, hF, h⟩ := fr_stI (fr_at 12 rfl) hF h
  have h := (ck_s h).2
  have h := (ck_s h).2
  obtain ⟨m16, hF, h⟩ := fr_stI (fr_at 4 rfl) hF h
  obtain rfl := Option.some.inj h
  exact hF
theorem fr_X9_speaks_J103  {v1 : Int32} {v2 : Int32} {v4 : Int32} {v5 : Int32} {v6 : Int32}  {m : Mem} {t : Mem} (h : f_X9_speaks_J103 v1 v2 v4 v5 v6 m = some t) : Fr (l_X9_speaks) m ((fun t => t) t) := by
  have hF : Fr (l_X9_speaks) m m := Fr.rf
  have h := (ck_s h).2
  obtain ⟨m3, hF, h⟩ := fr_stI (fr_at 1 rfl) hF h
  have h := (ck_s h).2
  obtain ⟨m4, hF, h⟩ := fr_stI (fr_at 5 rfl) hF h
  have h := (ck_s h).2
  obtain ⟨m5, hF, h⟩ := fr_stI (fr_at 6 rfl) hF h
  have h := (ck_s h).2
  obtain ⟨m6, hF, h⟩ := fr_stI (fr_at 7 rfl) hF h
  have h := (ck_s h).2
  obtain ⟨m7, hF, h⟩ := fr_stI (fr_at 8 rfl) hF h
  obtain ⟨q8, h0, h⟩ := Option.bind_eq_some_iff.mp h
  have hF := hF.trans ((fr_X9_saysNew h0).sub (fr_ix [2, 3] rfl))
  have h := (ck_s h).2
  obtain ⟨m9, hF, h⟩ := fr_stI (fr_at 9 rfl) hF h
  have h := (ck_s h).2
  rcases fr_if h with h | h
  · exact hF.trans (fr_X9_speaks_J203 h)
  · obtain ⟨q17, h0, h⟩ := Option.bind_eq_some_iff.mp h
    have hF := hF.trans ((fr_X9_saysAgain h0).sub (fun _ hq => nomatch hq))
    exact hF.trans (fr_X9_speaks_J203 h)
theorem fr_X9_speaks_J101  {v1 : Int32} {v2 : Int32} {v4 : Int32} {v6 : Int32} {t0 : Int32}  {m : Mem} {t : Mem} (h : f_X9_speaks_J101 v1 v2 v4 v6 t0 m = some t) : Fr (l_X9_speaks) m ((fun t => t) t) := by
  have hF : Fr (l_X9_speaks) m m := Fr.rf
  exact hF.trans (fr_X9_speaks_J103 h)
theorem fr_X9_speaks_J72  {v1 : Int32} {v2 : Int32} {v4 : Int32} {t0 : Int32}  {m : Mem} {t : Mem} (h : f_X9_speaks_J72 v1 v2 v4 t0 m = some t) : Fr (l_X9_speaks) m ((fun t => t) t) := by
  have hF : Fr (l_X9_speaks) m m := Fr.rf
  obtain ⟨q2, h0, h⟩ := Option.bind_eq_some_iff.mp h
  have hF := hF.trans ((fr_X9_stopper h0).sub (fun _ hq => nomatch hq))
  rcases fr_if h with h | h
  · exact hF.trans (fr_X9_speaks_J103 h)
  · rcases fr_if h with h | h
    · exact hF.trans (fr_X9_speaks_J101 h)
    · exact hF.trans (fr_X9_speaks_J101 h)
theorem fr_X9_speaks_J50  {v1 : Int32} {v2 : Int32} {v3 : Int32} {t0 : Int32}  {m : Mem} {t : Mem} (h : f_X9_speaks_J50 v1 v2 v3 t0 m = some t) : Fr (l_X9_speaks) m ((fun t => t) t) := by
  have hF : Fr (l_X9_speaks) m m := Fr.rf
  rcases fr_if h with h | h
  · exact hF.trans (fr_X9_speaks_J72 h)
  · exact hF.trans (fr_X9_speaks_J72 h)
theorem fr_X9_speaks_J27  {v1 : Int32} {v2 : Int32} {v3 : Int32} {t0 : Int32}  {m : Mem} {t : Mem} (h : f_X9_speaks_J27 v1 v2 v3 t0 m = some t) : Fr (l_X9_speaks) m ((fun t => t) t) := by
  have hF : Fr (l_X9_speaks) m m := Fr.rf
  rcases fr_if h with h | h
  · exact hF.trans (fr_X9_speaks_J50 h)
  · exact hF.trans (fr_X9_speaks_J50 h)
theorem fr_X9_speaks  {p1 : Int32} {p2 : Int32} {m : Mem} {t : Mem} (h : f_X9_speaks p1 p2 m = some t) : Fr (l_X9_speaks) m ((fun t => t) t) := by
  have hF : Fr (l_X9_speaks) m m := Fr.rf
  obtain ⟨q1, h0, h⟩ := Option.bind_eq_some_iff.mp h
  have hF := hF.trans ((fr_X9_unsaid h0).sub (fun _ hq => nomatch hq))
  rcases fr_if h with h | h
  · exact hF.trans (fr_X9_speaks_J27 h)
  · exact hF.trans (fr_X9_speaks_J27 h)
theorem fr_X9_oneThing_J148  {v1 : Int32} {v3 : Int32} {t0 : Int32}  {m : Mem} {t : (Int32 × Int32 × Mem) ⊕ Mem} (h : f_X9_oneThing_J148 v1 v3 t0 m = some t) : Fr (l_X9_oneThing) m ((mS (fun s => s.2.2) (fun t => t)) t) := by
  have hF : Fr (l_X9_oneThing) m m := Fr.rf
  rcases fr_if h with h | h
  · obtain rfl := Option.some.inj h
    exact hF
  · obtain ⟨q2, h0, h⟩ := Option.bind_eq_some_iff.mp h
    have hF := hF.trans ((fr_X9_speaks h0).sub (fr_ix [1, 3, 4, 5, 6, 7, 8, 9, 10, 11, 12, 13, 19, 20, 21] rfl))
    obtain rfl := Option.some.inj h
    exact hF
theorem fr_X9_oneThing_L65  {s : Int32 × Int32 × Mem} {t : (Int32 × Int32 × Mem) ⊕ ((Int32 × Int32 × Mem) ⊕ Mem)} (h : f_X9_oneThing_L65 s = some t) : Fr (l_X9_oneThing) s.2.2 ((mS (fun s => s.2.2) (mS (fun s => s.2.2) (fun t => t))) t) := by
  have hF : Fr (l_X9_oneThing) s.2.2 s.2.2 := Fr.rf
  rcases fr_if h with h | h
  · refine fr_up h (fun r h => ?_)
    obtain ⟨q1, h0, h⟩ := Option.bind_eq_some_iff.mp h
    have hF := hF.trans ((fr_X9_nextSpeaker h0).sub (fun _ hq => nomatch hq))
    rcases fr_if h with h | h
    · exact hF.trans (fr_X9_oneThing_J148 h)
    · exact hF.trans (fr_X9_oneThing_J148 h)
  · obtain ⟨q3, h0, h⟩ := Option.bind_eq_some_iff.mp h
    have hF := hF.trans ((fr_X9_isThere h0).sub (fun _ hq => nomatch hq))
    rcases fr_if h with h | h
    · have h := (ck_s h).2
      obtain ⟨m4, hF, h⟩ := fr_stI (fr_at 2 rfl) hF h
      obtain ⟨y5, h⟩ := fr_bn h
      obtain rfl := Option.some.inj h
      exact hF
    · obtain ⟨q6, h0, h⟩ := Option.bind_eq_some_iff.mp h
      have hF := hF.trans ((fr_X9_unsaid h0).sub (fun _ hq => nomatch hq))
      have h := (ck_s h).2
      have h := (ck_s h).2
      rcases fr_if h with h | h
      · obtain ⟨q7, h0, h⟩ := Option.bind_eq_some_iff.mp h
        have hF := hF.trans ((fr_X9_wishOf h0).sub (fr_ix [0, 14, 15, 16, 17, 18] rfl))
        have h := (ck_s h).2
        obtain ⟨m8, hF, h⟩ := fr_stI (fr_at 2 rfl) hF h
        obtain ⟨y9, h⟩ := fr_bn h
        obtain rfl := Option.some.inj h
        exact hF
      · obtain ⟨q10, h0, h⟩ := Option.bind_eq_some_iff.mp h
        have hF := hF.trans ((fr_X9_wishOf h0).sub (fr_ix [0, 14, 15, 16, 17, 18] rfl))
        have h := (ck_s h).2
        obtain ⟨m11, hF, h⟩ := fr_stI (fr_at 2 rfl) hF h
        obtain ⟨y12, h⟩ := fr_bn h
        obtain rfl := Option.some.inj h
        exact hF
theorem fr_X9_oneThing_L38  {s : Int32 × Int32 × Mem} {t : (Int32 × Int32 × Mem) ⊕ Mem} (h : f_X9_oneThing_L38 s = some t) : Fr (l_X9_oneThing) s.2.2 ((mS (fun s => s.2.2) (fun t => t)) t) := by
  have hF : Fr (l_X9_oneThing) s.2.2 s.2.2 := Fr.rf
  rcases fr_if h with h | h
  · refine fr_up h (fun r h => ?_)
    obtain rfl := Option.some.inj h
    exact hF
  · have h := (ck_s h).2
    rcases fr_if h with h | h
    · refine fr_up h (fun r h => ?_)
      obtain rfl := Option.some.inj h
      exact hF
    · rcases fr_if h with h | h
      · refine fr_up h (fun r h => ?_)
        obtain rfl := Option.some.inj h
        exact hF
      · have hW := fr_wh (l := l_X9_oneThing) (f := fun s => s.2.2) (k := (mS (fun s => s.2.2) (fun t => t))) (fun s t h => fr_X9_oneThing_L65 h) h
        exact hF.trans hW
theorem fr_X9_oneThing_L15  {s : Int32 × Int32 × Mem} {t : (Int32 × Int32 × Mem) ⊕ Mem} (h : f_X9_oneThing_L15 s = some t) : Fr (l_X9_oneThing) s.2.2 ((mS (fun s => s.2.2) (fun t => t)) t) := by
  have hF : Fr (l_X9_oneThing) s.2.2 s.2.2 := Fr.rf
  rcases fr_if h with h | h
  · refine fr_up h (fun r h => ?_)
    have hW := fr_wh (l := l_X9_oneThing) (f := fun s => s.2.2) (k := (fun t => t)) (fun s t h => fr_X9_oneThing_L38 h) h
    exact hF.trans hW
  · have h := (ck_s h).2
    obtain ⟨m13, hF, h⟩ := fr_stI (fr_at 1 rfl) hF h
    obtain ⟨y14, h⟩ := fr_bn h
    obtain rfl := Option.some.inj h
    exact hF
theorem fr_X9_oneThing  {p1 : Int32} {m : Mem} {t : Mem} (h : f_X9_oneThing p1 m = some t) : Fr (l_X9_oneThing) m ((fun t => t) t) := by
  have hF : Fr (l_X9_oneThing) m m := Fr.rf
  rcases fr_if h with h | h
  · have hW := fr_wh (l := l_X9_oneThing) (f := fun s => s.2.2) (k := (fun t => t)) (fun s t h => fr_X9_oneThing_L15 h) h
    exact hF.trans hW
  · obtain ⟨q15, h0, h⟩ := Option.bind_eq_some_iff.mp h
    have hF := hF.trans ((fr_X9_putsPaper h0).sub (fr_ix [4, 5] rfl))
    have hW := fr_wh (l := l_X9_oneThing) (f := fun s => s.2.2) (k := (fun t => t)) (fun s t h => fr_X9_oneThing_L15 h) h
    exact hF.trans hW
theorem fr_X9_meets_L96  {s : Int32 × Mem} {t : (Int32 × Mem) ⊕ Mem} (h : f_X9_meets_L96 s = some t) : Fr (l_X9_meets) s.2 ((mS (fun s => s.2) (fun t => t)) t) := by
  have hF : Fr (l_X9_meets) s.2 s.2 := Fr.rf
  rcases fr_if h with h | h
  · refine fr_up h (fun r h => ?_)
    obtain rfl := Option.some.inj h
    exact hF
  · have h := (ck_s h).2
    obtain ⟨q4, h0, h⟩ := Option.bind_eq_some_iff.mp h
    have hF := hF.trans ((fr_X9_oneThing h0).sub (fr_ix [0, 1, 2, 3, 4, 5, 6, 7, 8, 9, 10, 11, 12, 13, 14, 15, 16, 17, 18, 19, 20, 21] rfl))
    obtain ⟨y5, h⟩ := fr_bn h
    obtain rfl := Option.some.inj h
    exact hF
theorem fr_X9_meets_L73  {s : Int32 × Mem} {t : (Int32 × Mem) ⊕ Mem} (h : f_X9_meets_L73 s = some t) : Fr (l_X9_meets) s.2 ((mS (fun s => s.2) (fun t => t)) t) := by
  have hF : Fr (l_X9_meets) s.2 s.2 := Fr.rf
  rcases fr_if h with h | h
  · refine fr_up h (fun r h => ?_)
    have hW := fr_wh (l := l_X9_meets) (f := fun s => s.2) (k := (fun t => t)) (fun s t h => fr_X9_meets_L96 h) h
    exact hF.trans hW
  · have h := (ck_s h).2
    obtain ⟨m6, hF, h⟩ := fr_stI (fr_at 6 rfl) hF h
    obtain ⟨y7, h⟩ := fr_bn h
    obtain rfl := Option.some.inj h
    exact hF
theorem fr_X9_meets_L41  {s : Int32 × Mem} {t : (Int32 × Mem) ⊕ Mem} (h : f_X9_meets_L41 s = some t) : Fr (l_X9_meets) s.2 ((mS (fun s => s.2) (fun t => t)) t) := by
  have hF : Fr (l_X9_meets) s.2 s.2 := Fr.rf
  rcases fr_if h with h | h
  · refine fr_up h (fun r h => ?_)
    have hW := fr_wh (l := l_X9_meets) (f := fun s => s.2) (k := (fun t => t)) (fun s t h => fr_X9_meets_L73 h) h
    exact hF.trans hW
  · have h := (ck_s h).2
    obtain ⟨m8, hF, h⟩ := fr_stI (fr_at 4 rfl) hF h
    have h := (ck_s h).2
    obtain ⟨m9, hF, h⟩ := fr_stI (fr_at 5 rfl) hF h
    obtain ⟨y10, h⟩ := fr_bn h
    obtain rfl := Option.some.inj h
    exact hF
theorem fr_X9_meets_L17  {s : Int32 × Mem} {t : (Int32 × Mem) ⊕ Mem} (h : f_X9_meets_L17 s = some t) : Fr (l_X9_meets) s.2 ((mS (fun s => s.2) (fun t => t)) t) := by
  have hF : Fr (l_X9_meets) s.2 s.2 := Fr.rf
  rcases fr_if h with h | h
  · refine fr_up h (fun r h => ?_)
    have hW := fr_wh (l := l_X9_meets) (f := fun s => s.2) (k := (fun t => t)) (fun s t h => fr_X9_meets_L41 h) h
    exact hF.trans hW
  · have h := (ck_s h).2
    obtain ⟨m11, hF, h⟩ := fr_stI (fr_at 3 rfl) hF h
    obtain ⟨y12, h⟩ := fr_bn h
    obtain rfl := Option.some.inj h
    exact hF
theorem fr_X9_meets   {m : Mem} {t : Mem} (h : f_X9_meets m = some t) : Fr (l_X9_meets) m ((fun t => t) t) := by
  have hF : Fr (l_X9_meets) m m := Fr.rf
  obtain ⟨m1, hF, h⟩ := fr_stI (fr_at 19 rfl) hF h
  obtain ⟨m2, hF, h⟩ := fr_stI (fr_at 20 rfl) hF h
  obtain ⟨m3, hF, h⟩ := fr_stI (fr_at 21 rfl) hF h
  have hW := fr_wh (l := l_X9_meets) (f := fun s => s.2) (k := (fun t => t)) (fun s t h => fr_X9_meets_L17 h) h
  exact hF.trans hW
theorem fr_X9_film_J144  {v1 : Int32} {v2 : Int32} {v3 : Int32} {v4 : Int32}  {m : Mem} {t : (Int32 × Int32 × Int32 × Mem) ⊕ (Int32 × Mem)} (h : f_X9_film_J144 v1 v2 v3 v4 m = some t) : Fr (l_X9_film) m ((mS (fun s => s.2.2.2) (fun t => t.2)) t) := by
  have hF : Fr (l_X9_film) m m := Fr.rf
  rcases fr_if h with h | h
  · obtain ⟨y6, h⟩ := fr_bn h
    obtain ⟨y7, h⟩ := fr_bn h
    obtain rfl := Option.some.inj h
    exact hF
  · obtain ⟨y8, h⟩ := fr_bn h
    obtain ⟨y9, h⟩ := fr_bn h
    obtain rfl := Option.some.inj h
    exact hF
theorem fr_X9_film_L91  {s : Int32 × Int32 × Int32 × Int32 × Int32 × Mem} {t : (Int32 × Int32 × Int32 × Int32 × Int32 × Mem) ⊕ ((Int32 × Int32 × Int32 × Mem) ⊕ (Int32 × Mem))} (h : f_X9_film_L91 s = some t) : Fr (l_X9_film) s.2.2.2.2.2 ((mS (fun s => s.2.2.2.2.2) (mS (fun s => s.2.2.2) (fun t => t.2))) t) := by
  have hF : Fr (l_X9_film) s.2.2.2.2.2 s.2.2.2.2.2 := Fr.rf
  have h := (ck_s h).2
  rcases fr_if h with h | h
  · refine fr_up h (fun r h => ?_)
    exact hF.trans (fr_X9_film_J144 h)
  · rcases fr_if h with h | h
    · refine fr_up h (fun r h => ?_)
      exact hF.trans (fr_X9_film_J144 h)
    · have h := (ck_s h).2
      have h := (ck_s h).2
      rcases fr_if h with h | h
      · obtain ⟨y10, h⟩ := fr_bn h
        obtain rfl := Option.some.inj h
        exact hF
      · obtain ⟨y11, h⟩ := fr_bn h
        obtain rfl := Option.some.inj h
        exact hF
theorem fr_X9_film_L53  {s : Int32 × Int32 × Int32 × Mem} {t : (Int32 × Int32 × Int32 × Mem) ⊕ (Int32 × Mem)} (h : f_X9_film_L53 s = some t) : Fr (l_X9_film) s.2.2.2 ((mS (fun s => s.2.2.2) (fun t => t.2)) t) := by
  have hF : Fr (l_X9_film) s.2.2.2 s.2.2.2 := Fr.rf
  rcases fr_if h with h | h
  · refine fr_up h (fun r h => ?_)
    obtain rfl := Option.some.inj h
    exact hF
  · obtain ⟨m4, hF, h⟩ := fr_stI (fr_at 20 rfl) hF h
    obtain ⟨q5, h0, h⟩ := Option.bind_eq_some_iff.mp h
    have hF := hF.trans ((fr_X9_meets h0).sub (fr_ix [0, 1, 2, 3, 4, 5, 6, 8, 9, 10, 11, 12, 13, 14, 15, 16, 17, 18, 19, 23, 24, 25] rfl))
    have h := (ck_s h).2
    rcases fr_if h with h | h
    · have hW := fr_wh (l := l_X9_film) (f := fun s => s.2.2.2.2.2) (k := (mS (fun s => s.2.2.2) (fun t => t.2))) (fun s t h => fr_X9_film_L91 h) h
      exact hF.trans hW
    · have hW := fr_wh (l := l_X9_film) (f := fun s => s.2.2.2.2.2) (k := (mS (fun s => s.2.2.2) (fun t => t.2))) (fun s t h => fr_X9_film_L91 h) h
      exact hF.trans hW
theorem fr_X9_film  {p1 : Int32} {m : Mem} {t : Int32 × Mem} (h : f_X9_film p1 m = some t) : Fr (l_X9_film) m ((fun t => t.2) t) := by
  have hF : Fr (l_X9_film) m m := Fr.rf
  obtain ⟨q1, h0, h⟩ := Option.bind_eq_some_iff.mp h
  have hF := hF.trans ((fr_X9_isShelf h0).sub (fun _ hq => nomatch hq))
  rcases fr_if h with h | h
  · have h := (ck_s h).2
    rcases fr_if h with h | h
    · have h := (ck_s h).2
      rcases fr_if h with h | h
      · obtain ⟨q2, h0, h⟩ := Option.bind_eq_some_iff.mp h
        have hF := hF.trans ((fr_X9_isTable h0).sub (fun _ hq => nomatch hq))
        rcases fr_if h with h | h
        · obtain ⟨q3, h0, h⟩ := Option.bind_eq_some_iff.mp h
          have hF := hF.trans ((fr_X9_plain h0).sub (fr_ix [7, 20, 21, 22] rfl))
          have hW := fr_wh (l := l_X9_film) (f := fun s => s.2.2.2) (k := (fun t => t.2)) (fun s t h => fr_X9_film_L53 h) h
          exact hF.trans hW
        · obtain rfl := Option.some.inj h
          exact hF
      · obtain rfl := Option.some.inj h
        exact hF
    · obtain rfl := Option.some.inj h
      exact hF
  · obtain rfl := Option.some.inj h
    exact hF
theorem fr_X9_first  {p1 : Int32} {p2 : Int32} {m : Mem} {t : Int32 × Mem} (h : f_X9_first p1 p2 m = some t) : Fr (l_X9_first) m ((fun t => t.2) t) := by
  have hF : Fr (l_X9_first) m m := Fr.rf
  rcases fr_if h with h | h
  · obtain rfl := Option.some.inj h
    exact hF
  · obtain ⟨q1, h0, h⟩ := Option.bind_eq_some_iff.mp h
    have hF := hF.trans ((fr_X9_within h0).sub (fun _ hq => nomatch hq))
    rcases fr_if h with h | h
    · obtain rfl := Option.some.inj h
      exact hF
    · obtain ⟨q2, h0, h⟩ := Option.bind_eq_some_iff.mp h
      have hF := hF.trans ((fr_X9_within h0).sub (fun _ hq => nomatch hq))
      rcases fr_if h with h | h
      · rcases fr_if h with h | h
        · have h := (ck_s h).2
          obtain rfl := Option.some.inj h
          exact hF
        · have h := (ck_s h).2
          obtain rfl := Option.some.inj h
          exact hF
      · obtain rfl := Option.some.inj h
        exact hF
theorem fr_X9_isKnown  {p1 : Int32} {m : Mem} {t : Int32 × Mem} (h : f_X9_isKnown p1 m = some t) : Fr (l_X9_isKnown) m ((fun t => t.2) t) := by
  have hF : Fr (l_X9_isKnown) m m := Fr.rf
  have h := (ck_s h).2
  rcases fr_if h with h | h
  · have h := (bz_s h).2
    obtain rfl := Option.some.inj h
    exact hF
  · have h := (bz_s h).2
    obtain rfl := Option.some.inj h
    exact hF
theorem fr_X9_shouldBe_L25  {s : Int32 × Int32 × Int32 × Int32 × Mem} {t : (Int32 × Int32 × Int32 × Int32 × Mem) ⊕ ((Int32 × Int32 × Mem) ⊕ (Int32 × Mem))} (h : f_X9_shouldBe_L25 s = some t) : Fr (l_X9_shouldBe) s.2.2.2.2 ((mS (fun s => s.2.2.2.2) (mS (fun s => s.2.2) (fun t => t.2))) t) := by
  have hF : Fr (l_X9_shouldBe) s.2.2.2.2 s.2.2.2.2 := Fr.rf
  rcases fr_if h with h | h
  · refine fr_up h (fun r h => ?_)
    rcases fr_if h with h | h
    · obtain ⟨y2, h⟩ := fr_bn h
      obtain ⟨y3, h⟩ := fr_bn h
      obtain rfl := Option.some.inj h
      exact hF
    · obtain ⟨y4, h⟩ := fr_bn h
      obtain ⟨y5, h⟩ := fr_bn h
      obtain rfl := Option.some.inj h
      exact hF
  · have h := (ck_s h).2
    rcases fr_if h with h | h
    · obtain ⟨y6, h⟩ := fr_bn h
      obtain ⟨y7, h⟩ := fr_bn h
      obtain rfl := Option.some.inj h
      exact hF
    · obtain ⟨q8, h0, h⟩ := Option.bind_eq_some_iff.mp h
      have hF := hF.trans ((fr_X9_isKnown h0).sub (fun _ hq => nomatch hq))
      rcases fr_if h with h | h
      · obtain ⟨y9, h⟩ := fr_bn h
        obtain ⟨y10, h⟩ := fr_bn h
        obtain rfl := Option.some.inj h
        exact hF
      · have h := (ck_s h).2
        obtain ⟨y11, h⟩ := fr_bn h
        obtain ⟨y12, h⟩ := fr_bn h
        obtain rfl := Option.some.inj h
        exact hF
theorem fr_X9_shouldBe_L4  {s : Int32 × Int32 × Mem} {t : (Int32 × Int32 × Mem) ⊕ (Int32 × Mem)} (h : f_X9_shouldBe_L4 s = some t) : Fr (l_X9_shouldBe) s.2.2 ((mS (fun s => s.2.2) (fun t => t.2)) t) := by
  have hF : Fr (l_X9_shouldBe) s.2.2 s.2.2 := Fr.rf
  rcases fr_if h with h | h
  · refine fr_up h (fun r h => ?_)
    obtain rfl := Option.some.inj h
    exact hF
  · have h := (ck_s h).2
    obtain ⟨y1, h⟩ := fr_bn h
    have hW := fr_wh (l := l_X9_shouldBe) (f := fun s => s.2.2.2.2) (k := (mS (fun s => s.2.2) (fun t => t.2))) (fun s t h => fr_X9_shouldBe_L25 h) h
    exact hF.trans hW
theorem fr_X9_shouldBe   {m : Mem} {t : Int32 × Mem} (h : f_X9_shouldBe m = some t) : Fr (l_X9_shouldBe) m ((fun t => t.2) t) := by
  have hF : Fr (l_X9_shouldBe) m m := Fr.rf
  have hW := fr_wh (l := l_X9_shouldBe) (f := fun s => s.2.2) (k := (fun t => t.2)) (fun s t h => fr_X9_shouldBe_L4 h) h
  exact hF.trans hW
theorem fr_X9_wrongMany   {m : Mem} {t : Int32 × Mem} (h : f_X9_wrongMany m = some t) : Fr (l_X9_wrongMany) m ((fun t => t.2) t) := by
  have hF : Fr (l_X9_wrongMany) m m := Fr.rf
  obtain ⟨q1, h0, h⟩ := Option.bind_eq_some_iff.mp h
  have hF := hF.trans ((fr_X9_decided h0).sub (fun _ hq => nomatch hq))
  obtain ⟨q2, h0, h⟩ := Option.bind_eq_some_iff.mp h
  have hF := hF.trans ((fr_X9_shouldBe h0).sub (fun _ hq => nomatch hq))
  obtain ⟨q3, h0, h⟩ := Option.bind_eq_some_iff.mp h
  have hF := hF.trans ((fr_X9_bitsOf h0).sub (fun _ hq => nomatch hq))
  obtain rfl := Option.some.inj h
  exact hF
theorem fr_X9_looksAt_J45  {v1 : Int32} {v2 : Int32} {v3 : Int32}  {m : Mem} {t : Mem} (h : f_X9_looksAt_J45 v1 v2 v3 m = some t) : Fr (l_X9_looksAt) m ((fun t => t) t) := by
  have hF : Fr (l_X9_looksAt) m m := Fr.rf
  obtain ⟨m4, hF, h⟩ := fr_stI (fr_at 22 rfl) hF h
  obtain ⟨m5, hF, h⟩ := fr_stI (fr_at 23 rfl) hF h
  obtain ⟨m6, hF, h⟩ := fr_stI (fr_at 24 rfl) hF h
  obtain rfl := Option.some.inj h
  exact hF
theorem fr_X9_looksAt  {p1 : Int32} {m : Mem} {t : Mem} (h : f_X9_looksAt p1 m = some t) : Fr (l_X9_looksAt) m ((fun t => t) t) := by
  have hF : Fr (l_X9_looksAt) m m := Fr.rf
  obtain ⟨q1, h0, h⟩ := Option.bind_eq_some_iff.mp h
  have hF := hF.trans ((fr_X9_meets h0).sub (fr_ix [0, 1, 2, 3, 4, 5, 6, 7, 8, 9, 10, 11, 12, 13, 14, 15, 16, 17, 18, 19, 20, 21] rfl))
  obtain ⟨q2, h0, h⟩ := Option.bind_eq_some_iff.mp h
  have hF := hF.trans ((fr_X9_wrongMany h0).sub (fun _ hq => nomatch hq))
  obtain ⟨q3, h0, h⟩ := Option.bind_eq_some_iff.mp h
  have hF := hF.trans ((fr_X9_cost h0).sub (fun _ hq => nomatch hq))
  rcases fr_if h with h | h
  · exact hF.trans (fr_X9_looksAt_J45 h)
  · rcases fr_if h with h | h
    · exact hF.trans (fr_X9_looksAt_J45 h)
    · rcases fr_if h with h | h
      · obtain rfl := Option.some.inj h
        exact hF
      · rcases fr_if h with h | h
        · obtain rfl := Option.some.inj h
          exact hF
        · exact hF.trans (fr_X9_looksAt_J45 h)
theorem fr_X9_goesOrders_L17 {rc : Int32 → Int32 → Int32 → Mem → Option Mem} (hrf : ∀ (m : Mem) (t : Mem) (p1 : Int32) (p2 : Int32) (p3 : Int32), rc p1 p2 p3 m = some t → Fr l_X9_goesOrders m ((fun t => t) t))  {s : Int32 × Int32 × Int32 × Int32 × Mem} {t : (Int32 × Int32 × Int32 × Int32 × Mem) ⊕ Mem} (h : f_X9_goesOrders_L17 rc s = some t) : Fr (l_X9_goesOrders) s.2.2.2.2 ((mS (fun s => s.2.2.2.2) (fun t => t)) t) := by
  have hF : Fr (l_X9_goesOrders) s.2.2.2.2 s.2.2.2.2 := Fr.rf
  rcases fr_if h with h | h
  · refine fr_up h (fun r h => ?_)
    obtain rfl := Option.some.inj h
    exact hF
  · rcases fr_if h with h | h
    · obtain ⟨y1, h⟩ := fr_bn h
      obtain rfl := Option.some.inj h
      exact hF
    · have h := (ck_s h).2
      obtain ⟨m2, hF, h⟩ := fr_stI (fr_at 7 rfl) hF h
      obtain ⟨q3, h0, h⟩ := Option.bind_eq_some_iff.mp h
      have hF := hF.trans ((hrf _ _ _ _ _ h0).sub (fr_ix [0, 1, 2, 3, 4, 5, 6, 7, 8, 9, 10, 11, 12, 13, 14, 15, 16, 17, 18, 19, 20, 21, 22, 23, 24, 25] rfl))
      obtain ⟨y4, h⟩ := fr_bn h
      obtain rfl := Option.some.inj h
      exact hF
theorem fr_X9_goesOrders_B {rc : Int32 → Int32 → Int32 → Mem → Option Mem} (hrf : ∀ (m : Mem) (t : Mem) (p1 : Int32) (p2 : Int32) (p3 : Int32), rc p1 p2 p3 m = some t → Fr l_X9_goesOrders m ((fun t => t) t))  {p1 : Int32} {p2 : Int32} {p3 : Int32} {m : Mem} {t : Mem} (h : f_X9_goesOrders_B rc p1 p2 p3 m = some t) : Fr (l_X9_goesOrders) m ((fun t => t) t) := by
  have hF : Fr (l_X9_goesOrders) m m := Fr.rf
  rcases fr_if h with h | h
  · have hW := fr_wh (l := l_X9_goesOrders) (f := fun s => s.2.2.2.2) (k := (fun t => t)) (fun s t h => fr_X9_goesOrders_L17 hrf h) h
    exact hF.trans hW
  · obtain ⟨q5, h0, h⟩ := Option.bind_eq_some_iff.mp h
    have hF := hF.trans ((fr_X9_looksAt h0).sub (fr_ix [0, 1, 2, 3, 4, 5, 6, 8, 9, 10, 11, 12, 13, 14, 15, 16, 17, 18, 19, 20, 21, 22, 23, 24, 25] rfl))
    obtain rfl := Option.some.inj h
    exact hF
theorem fr_X9_goesOrders (n : Nat) : ∀ {p1 : Int32} {p2 : Int32} {p3 : Int32} {m : Mem} {t : Mem}, f_X9_goesOrders n p1 p2 p3 m = some t → Fr (l_X9_goesOrders) m ((fun t => t) t) := by
  induction n with
  | zero => intro p1 p2 p3 m t h; cases h
  | succ n ih => intro p1 p2 p3 m t h; exact fr_X9_goesOrders_B (fun _ _ _ _ _ h => ih h) h
theorem fr_X9_heldBack_L14  {s : Int32 × Int32 × Int32 × Mem} {t : (Int32 × Int32 × Int32 × Mem) ⊕ ((Int32 × Int32 × Mem) ⊕ (Int32 × Mem))} (h : f_X9_heldBack_L14 s = some t) : Fr (l_X9_heldBack) s.2.2.2 ((mS (fun s => s.2.2.2) (mS (fun s => s.2.2) (fun t => t.2))) t) := by
  have hF : Fr (l_X9_heldBack) s.2.2.2 s.2.2.2 := Fr.rf
  rcases fr_if h with h | h
  · refine fr_up h (fun r h => ?_)
    obtain ⟨y1, h⟩ := fr_bn h
    obtain rfl := Option.some.inj h
    exact hF
  · obtain ⟨q2, h0, h⟩ := Option.bind_eq_some_iff.mp h
    have hF := hF.trans ((fr_X9_isSaid h0).sub (fun _ hq => nomatch hq))
    rcases fr_if h with h | h
    · obtain ⟨y3, h⟩ := fr_bn h
      obtain ⟨y4, h⟩ := fr_bn h
      obtain rfl := Option.some.inj h
      exact hF
    · obtain ⟨q5, h0, h⟩ := Option.bind_eq_some_iff.mp h
      have hF := hF.trans ((fr_X9_knows h0).sub (fun _ hq => nomatch hq))
      rcases fr_if h with h | h
      · obtain ⟨y6, h⟩ := fr_bn h
        obtain ⟨y7, h⟩ := fr_bn h
        obtain rfl := Option.some.inj h
        exact hF
      · obtain ⟨q8, h0, h⟩ := Option.bind_eq_some_iff.mp h
        have hF := hF.trans ((fr_X9_isThere h0).sub (fun _ hq => nomatch hq))
        rcases fr_if h with h | h
        · obtain ⟨y9, h⟩ := fr_bn h
          obtain ⟨y10, h⟩ := fr_bn h
          obtain rfl := Option.some.inj h
          exact hF
        · obtain ⟨y11, h⟩ := fr_bn h
          obtain ⟨y12, h⟩ := fr_bn h
          obtain rfl := Option.some.inj h
          exact hF
theorem fr_X9_heldBack_L4  {s : Int32 × Int32 × Mem} {t : (Int32 × Int32 × Mem) ⊕ (Int32 × Mem)} (h : f_X9_heldBack_L4 s = some t) : Fr (l_X9_heldBack) s.2.2 ((mS (fun s => s.2.2) (fun t => t.2)) t) := by
  have hF : Fr (l_X9_heldBack) s.2.2 s.2.2 := Fr.rf
  rcases fr_if h with h | h
  · refine fr_up h (fun r h => ?_)
    obtain rfl := Option.some.inj h
    exact hF
  · have hW := fr_wh (l := l_X9_heldBack) (f := fun s => s.2.2.2) (k := (mS (fun s => s.2.2) (fun t => t.2))) (fun s t h => fr_X9_heldBack_L14 h) h
    exact hF.trans hW
theorem fr_X9_heldBack   {m : Mem} {t : Int32 × Mem} (h : f_X9_heldBack m = some t) : Fr (l_X9_heldBack) m ((fun t => t.2) t) := by
  have hF : Fr (l_X9_heldBack) m m := Fr.rf
  have hW := fr_wh (l := l_X9_heldBack) (f := fun s => s.2.2) (k := (fun t => t.2)) (fun s t h => fr_X9_heldBack_L4 h) h
  exact hF.trans hW
theorem fr_X9_isCard  {p1 : Int32} {m : Mem} {t : Int32 × Mem} (h : f_X9_isCard p1 m = some t) : Fr (l_X9_isCard) m ((fun t => t.2) t) := by
  have hF : Fr (l_X9_isCard) m m := Fr.rf
  obtain ⟨q1, h0, h⟩ := Option.bind_eq_some_iff.mp h
  have hF := hF.trans ((fr_X9_within h0).sub (fun _ hq => nomatch hq))
  have h := (bz_s h).2
  obtain rfl := Option.some.inj h
  exact hF
theorem fr_X9_isDigit1  {p1 : Int32} {m : Mem} {t : Int32 × Mem} (h : f_X9_isDigit1 p1 m = some t) : Fr (l_X9_isDigit1) m ((fun t => t.2) t) := by
  have hF : Fr (l_X9_isDigit1) m m := Fr.rf
  obtain ⟨q1, h0, h⟩ := Option.bind_eq_some_iff.mp h
  have hF := hF.trans ((fr_X9_within h0).sub (fun _ hq => nomatch hq))
  have h := (bz_s h).2
  obtain rfl := Option.some.inj h
  exact hF
theorem fr_X9_isThing  {p1 : Int32} {m : Mem} {t : Int32 × Mem} (h : f_X9_isThing p1 m = some t) : Fr (l_X9_isThing) m ((fun t => t.2) t) := by
  have hF : Fr (l_X9_isThing) m m := Fr.rf
  obtain ⟨q1, h0, h⟩ := Option.bind_eq_some_iff.mp h
  have hF := hF.trans ((fr_X9_within h0).sub (fun _ hq => nomatch hq))
  have h := (bz_s h).2
  obtain rfl := Option.some.inj h
  exact hF
theorem fr_X9_isOrder_L12  {s : Int32 × Int32 × Int32 × Mem} {t : (Int32 × Int32 × Int32 × Mem) ⊕ (Int32 × Mem)} (h : f_X9_isOrder_L12 s = some t) : Fr (l_X9_isOrder) s.2.2.2 ((mS (fun s => s.2.2.2) (fun t => t.2)) t) := by
  have hF : Fr (l_X9_isOrder) s.2.2.2 s.2.2.2 := Fr.rf
  rcases fr_if h with h | h
  · refine fr_up h (fun r h => ?_)
    rcases fr_if h with h | h
    · have h := (bz_s h).2
      obtain rfl := Option.some.inj h
      exact hF
    · have h := (bz_s h).2
      obtain rfl := Option.some.inj h
      exact hF
  · obtain ⟨y2, h⟩ := fr_bn h
    rcases fr_if h with h | h
    · refine fr_up h (fun r h => ?_)
      have h := (bz_s h).2
      obtain rfl := Option.some.inj h
      exact hF
    · obtain ⟨q3, h0, h⟩ := Option.bind_eq_some_iff.mp h
      have hF := hF.trans ((fr_X9_isThing h0).sub (fun _ hq => nomatch hq))
      rcases fr_if h with h | h
      · refine fr_up h (fun r h => ?_)
        have h := (bz_s h).2
        obtain rfl := Option.some.inj h
        exact hF
      · rcases fr_if h with h | h
        · obtain ⟨y4, h⟩ := fr_bn h
          have h := (ck_s h).2
          obtain ⟨m5, hF, h⟩ := fr_stI (fr_at 0 rfl) hF h
          obtain ⟨y6, h⟩ := fr_bn h
          obtain ⟨y7, h⟩ := fr_bn h
          obtain rfl := Option.some.inj h
          exact hF
        · refine fr_up h (fun r h => ?_)
          have h := (bz_s h).2
          obtain rfl := Option.some.inj h
          exact hF
theorem fr_X9_isOrder  {p1 : Int32} {m : Mem} {t : Int32 × Mem} (h : f_X9_isOrder p1 m = some t) : Fr (l_X9_isOrder) m ((fun t => t.2) t) := by
  have hF : Fr (l_X9_isOrder) m m := Fr.rf
  obtain ⟨y1, h⟩ := fr_bn h
  have hW := fr_wh (l := l_X9_isOrder) (f := fun s => s.2.2.2) (k := (fun t => t.2)) (fun s t h => fr_X9_isOrder_L12 h) h
  exact hF.trans hW
theorem fr_X9_isPerson  {p1 : Int32} {m : Mem} {t : Int32 × Mem} (h : f_X9_isPerson p1 m = some t) : Fr (l_X9_isPerson) m ((fun t => t.2) t) := by
  have hF : Fr (l_X9_isPerson) m m := Fr.rf
  obtain ⟨q1, h0, h⟩ := Option.bind_eq_some_iff.mp h
  have hF := hF.trans ((fr_X9_within h0).sub (fun _ hq => nomatch hq))
  have h := (bz_s h).2
  obtain rfl := Option.some.inj h
  exact hF
theorem fr_X9_isWorth  {p1 : Int32} {m : Mem} {t : Int32 × Mem} (h : f_X9_isWorth p1 m = some t) : Fr (l_X9_isWorth) m ((fun t => t.2) t) := by
  have hF : Fr (l_X9_isWorth) m m := Fr.rf
  obtain ⟨q1, h0, h⟩ := Option.bind_eq_some_iff.mp h
  have hF := hF.trans ((fr_X9_within h0).sub (fun _ hq => nomatch hq))
  have h := (bz_s h).2
  obtain rfl := Option.some.inj h
  exact hF
theorem fr_X9_keep_J22  {v1 : Int32} {v2 : Int32}  {m : Mem} {t : Int32 × Mem} (h : f_X9_keep_J22 v1 v2 m = some t) : Fr (l_X9_keep) m ((fun t => t.2) t) := by
  have hF : Fr (l_X9_keep) m m := Fr.rf
  have h := (ck_s h).2
  obtain ⟨m2, hF, h⟩ := fr_stI (fr_at 0 rfl) hF h
  have h := (ck_s h).2
  obtain ⟨m3, hF, h⟩ := fr_stI (fr_at 1 rfl) hF h
  obtain rfl := Option.some.inj h
  exact hF
theorem fr_X9_keep  {p1 : Int32} {p2 : Int32} {m : Mem} {t : Int32 × Mem} (h : f_X9_keep p1 p2 m = some t) : Fr (l_X9_keep) m ((fun t => t.2) t) := by
  have hF : Fr (l_X9_keep) m m := Fr.rf
  obtain ⟨q1, h0, h⟩ := Option.bind_eq_some_iff.mp h
  have hF := hF.trans ((fr_X9_isShelf h0).sub (fun _ hq => nomatch hq))
  rcases fr_if h with h | h
  · obtain rfl := Option.some.inj h
    exact hF
  · rcases fr_if h with h | h
    · exact hF.trans (fr_X9_keep_J22 h)
    · obtain ⟨q4, h0, h⟩ := Option.bind_eq_some_iff.mp h
      have hF := hF.trans ((fr_X9_isBody h0).sub (fun _ hq => nomatch hq))
      rcases fr_if h with h | h
      · exact hF.trans (fr_X9_keep_J22 h)
      · obtain rfl := Option.some.inj h
        exact hF
theorem fr_X9_keepsRows_L213  {s : Int32 × Mem} {t : (Int32 × Mem) ⊕ Mem} (h : f_X9_keepsRows_L213 s = some t) : Fr (l_X9_keepsRows) s.2 ((mS (fun s => s.2) (fun t => t)) t) := by
  have hF : Fr (l_X9_keepsRows) s.2 s.2 := Fr.rf
  rcases fr_if h with h | h
  · refine fr_up h (fun r h => ?_)
    obtain rfl := Option.some.inj h
    exact hF
  · obtain ⟨q5, h0, h⟩ := Option.bind_eq_some_iff.mp h
    have hF := hF.trans ((fr_X9_thereFor h0).sub (fun _ hq => nomatch hq))
    have h := (ck_s h).2
    obtain ⟨m6, hF, h⟩ := fr_stI (fr_at 11 rfl) hF h
    obtain ⟨y7, h⟩ := fr_bn h
    obtain rfl := Option.some.inj h
    exact hF
theorem fr_X9_keepsRows_L173  {s : Int32 × Mem} {t : (Int32 × Mem) ⊕ Mem} (h : f_X9_keepsRows_L173 s = some t) : Fr (l_X9_keepsRows) s.2 ((mS (fun s => s.2) (fun t => t)) t) := by
  have hF : Fr (l_X9_keepsRows) s.2 s.2 := Fr.rf
  rcases fr_if h with h | h
  · refine fr_up h (fun r h => ?_)
    have hW := fr_wh (l := l_X9_keepsRows) (f := fun s => s.2) (k := (fun t => t)) (fun s t h => fr_X9_keepsRows_L213 h) h
    exact hF.trans hW
  · have h := (ck_s h).2
    have h := (ck_s h).2
    obtain ⟨m8, hF, h⟩ := fr_stI (fr_at 9 rfl) hF h
    have h := (ck_s h).2
    have h := (ck_s h).2
    obtain ⟨m9, hF, h⟩ := fr_stI (fr_at 10 rfl) hF h
    obtain ⟨y10, h⟩ := fr_bn h
    obtain rfl := Option.some.inj h
    exact hF
theorem fr_X9_keepsRows_L134  {s : Int32 × Mem} {t : (Int32 × Mem) ⊕ Mem} (h : f_X9_keepsRows_L134 s = some t) : Fr (l_X9_keepsRows) s.2 ((mS (fun s => s.2) (fun t => t)) t) := by
  have hF : Fr (l_X9_keepsRows) s.2 s.2 := Fr.rf
  rcases fr_if h with h | h
  · refine fr_up h (fun r h => ?_)
    have hW := fr_wh (l := l_X9_keepsRows) (f := fun s => s.2) (k := (fun t => t)) (fun s t h => fr_X9_keepsRows_L173 h) h
    exact hF.trans hW
  · have h := (ck_s h).2
    have h := (ck_s h).2
    obtain ⟨m11, hF, h⟩ := fr_stI (fr_at 7 rfl) hF h
    obtain ⟨q12, h0, h⟩ := Option.bind_eq_some_iff.mp h
    have hF := hF.trans ((fr_X9_comesTo h0).sub (fun _ hq => nomatch hq))
    have h := (ck_s h).2
    obtain ⟨m13, hF, h⟩ := fr_stI (fr_at 8 rfl) hF h
    obtain ⟨y14, h⟩ := fr_bn h
    obtain rfl := Option.some.inj h
    exact hF
theorem fr_X9_keepsRows_L34  {s : Int32 × Mem} {t : (Int32 × Mem) ⊕ Mem} (h : f_X9_keepsRows_L34 s = some t) : Fr (l_X9_keepsRows) s.2 ((mS (fun s => s.2) (fun t => t)) t) := by
  have hF : Fr (l_X9_keepsRows) s.2 s.2 := Fr.rf
  rcases fr_if h with h | h
  · refine fr_up h (fun r h => ?_)
    have hW := fr_wh (l := l_X9_keepsRows) (f := fun s => s.2) (k := (fun t => t)) (fun s t h => fr_X9_keepsRows_L134 h) h
    exact hF.trans hW
  · have h := (ck_s h).2
    have h := (ck_s h).2
    obtain ⟨m15, hF, h⟩ := fr_stI (fr_at 0 rfl) hF h
    have h := (ck_s h).2
    have h := (ck_s h).2
    obtain ⟨m16, hF, h⟩ := fr_stI (fr_at 1 rfl) hF h
    have h := (ck_s h).2
    have h := (ck_s h).2
    obtain ⟨m17, hF, h⟩ := fr_stI (fr_at 2 rfl) hF h
    have h := (ck_s h).2
    have h := (ck_s h).2
    obtain ⟨m18, hF, h⟩ := fr_stI (fr_at 3 rfl) hF h
    have h := (ck_s h).2
    have h := (ck_s h).2
    obtain ⟨m19, hF, h⟩ := fr_stI (fr_at 4 rfl) hF h
    have h := (ck_s h).2
    have h := (ck_s h).2
    obtain ⟨m20, hF, h⟩ := fr_stI (fr_at 5 rfl) hF h
    have h := (ck_s h).2
    have h := (ck_s h).2
    obtain ⟨m21, hF, h⟩ := fr_stI (fr_at 6 rfl) hF h
    obtain ⟨y22, h⟩ := fr_bn h
    obtain rfl := Option.some.inj h
    exact hF
theorem fr_X9_keepsRows   {m : Mem} {t : Mem} (h : f_X9_keepsRows m = some t) : Fr (l_X9_keepsRows) m ((fun t => t) t) := by
  have hF : Fr (l_X9_keepsRows) m m := Fr.rf
  obtain ⟨m1, hF, h⟩ := fr_stI (fr_at 12 rfl) hF h
  obtain ⟨m2, hF, h⟩ := fr_stI (fr_at 13 rfl) hF h
  obtain ⟨m3, hF, h⟩ := fr_stI (fr_at 14 rfl) hF h
  obtain ⟨m4, hF, h⟩ := fr_stI (fr_at 15 rfl) hF h
  have hW := fr_wh (l := l_X9_keepsRows) (f := fun s => s.2) (k := (fun t => t)) (fun s t h => fr_X9_keepsRows_L34 h) h
  exact hF.trans hW
theorem fr_X9_kindOf  {p1 : Int32} {m : Mem} {t : Int32 × Mem} (h : f_X9_kindOf p1 m = some t) : Fr (l_X9_kindOf) m ((fun t => t.2) t) := by
  have hF : Fr (l_X9_kindOf) m m := Fr.rf
  have h := (ck_s h).2
  obtain rfl := Option.some.inj h
  exact hF
theorem fr_X9_law_L37  {s : Int32 × Int32 × Mem} {t : (Int32 × Int32 × Mem) ⊕ (Int32 × Mem)} (h : f_X9_law_L37 s = some t) : Fr (l_X9_law) s.2.2 ((mS (fun s => s.2.2) (fun t => t.2)) t) := by
  have hF : Fr (l_X9_law) s.2.2 s.2.2 := Fr.rf
  rcases fr_if h with h | h
  · refine fr_up h (fun r h => ?_)
    obtain ⟨m4, hF, h⟩ := fr_stI (fr_at 2 rfl) hF h
    obtain rfl := Option.some.inj h
    exact hF
  · have h := (ck_s h).2
    have h := (ck_s h).2
    obtain ⟨m5, hF, h⟩ := fr_stI (fr_at 0 rfl) hF h
    obtain ⟨y6, h⟩ := fr_bn h
    obtain rfl := Option.some.inj h
    exact hF
theorem fr_X9_law   {m : Mem} {t : Int32 × Mem} (h : f_X9_law m = some t) : Fr (l_X9_law) m ((fun t => t.2) t) := by
  have hF : Fr (l_X9_law) m m := Fr.rf
  obtain ⟨q1, h0, h⟩ := Option.bind_eq_some_iff.mp h
  have hF := hF.trans ((fr_X9_workOut h0).sub (fr_ix [3, 4, 5, 6, 7] rfl))
  obtain ⟨y2, h⟩ := fr_bn h
  obtain ⟨m3, hF, h⟩ := fr_stI (fr_at 1 rfl) hF h
  rcases fr_if h with h | h
  · have hW := fr_wh (l := l_X9_law) (f := fun s => s.2.2) (k := (fun t => t.2)) (fun s t h => fr_X9_law_L37 h) h
    exact hF.trans hW
  · obtain rfl := Option.some.inj h
    exact hF
theorem fr_X9_size  {p1 : Int32} {m : Mem} {t : Int32 × Mem} (h : f_X9_size p1 m = some t) : Fr (l_X9_size) m ((fun t => t.2) t) := by
  have hF : Fr (l_X9_size) m m := Fr.rf
  rcases fr_if h with h | h
  · obtain rfl := Option.some.inj h
    exact hF
  · obtain rfl := Option.some.inj h
    exact hF
theorem fr_X9_shed_L4  {s : Int32 × Int32 × Mem} {t : (Int32 × Int32 × Mem) ⊕ (Int32 × Mem)} (h : f_X9_shed_L4 s = some t) : Fr (l_X9_shed) s.2.2 ((mS (fun s => s.2.2) (fun t => t.2)) t) := by
  have hF : Fr (l_X9_shed) s.2.2 s.2.2 := Fr.rf
  rcases fr_if h with h | h
  · refine fr_up h (fun r h => ?_)
    obtain rfl := Option.some.inj h
    exact hF
  · have h := (ck_s h).2
    have h := (ck_s h).2
    obtain ⟨q1, h0, h⟩ := Option.bind_eq_some_iff.mp h
    have hF := hF.trans ((fr_X9_size h0).sub (fun _ hq => nomatch hq))
    have h := (dv_s h).2
    have h := (ck_s h).2
    have h := (ck_s h).2
    obtain ⟨q2, h0, h⟩ := Option.bind_eq_some_iff.mp h
    have hF := hF.trans ((fr_X9_size h0).sub (fun _ hq => nomatch hq))
    have h := (dv_s h).2
    rcases fr_if h with h | h
    · obtain ⟨y3, h⟩ := fr_bn h
      obtain rfl := Option.some.inj h
      exact hF
    · obtain ⟨y4, h⟩ := fr_bn h
      obtain rfl := Option.some.inj h
      exact hF
theorem fr_X9_shed   {m : Mem} {t : Int32 × Mem} (h : f_X9_shed m = some t) : Fr (l_X9_shed) m ((fun t => t.2) t) := by
  have hF : Fr (l_X9_shed) m m := Fr.rf
  have hW := fr_wh (l := l_X9_shed) (f := fun s => s.2.2) (k := (fun t => t.2)) (fun s t h => fr_X9_shed_L4 h) h
  exact hF.trans hW
theorem fr_X9_meet_L146  {s : Int32 × Mem} {t : (Int32 × Mem) ⊕ (Int32 × Mem)} (h : f_X9_meet_L146 s = some t) : Fr (l_X9_meet) s.2 ((mS (fun s => s.2) (fun t => t.2)) t) := by
  have hF : Fr (l_X9_meet) s.2 s.2 := Fr.rf
  rcases fr_if h with h | h
  · refine fr_up h (fun r h => ?_)
    have h := (ck_s h).2
    obtain rfl := Option.some.inj h
    exact hF
  · obtain ⟨m23, hF, h⟩ := fr_stI (fr_at 35 rfl) hF h
    obtain ⟨q24, h0, h⟩ := Option.bind_eq_some_iff.mp h
    have hF := hF.trans ((fr_X9_meets h0).sub (fr_ix [0, 1, 2, 3, 4, 5, 6, 8, 9, 10, 11, 12, 13, 14, 28, 29, 30, 31, 32, 36, 37, 38] rfl))
    have h := (ck_s h).2
    obtain ⟨q25, h0, h⟩ := Option.bind_eq_some_iff.mp h
    have hF := hF.trans ((fr_X9_decided h0).sub (fun _ hq => nomatch hq))
    have h := (ck_s h).2
    rcases fr_if h with h | h
    · have h := (ck_s h).2
      obtain ⟨m26, hF, h⟩ := fr_stI (fr_at 15 rfl) hF h
      obtain ⟨y27, h⟩ := fr_bn h
      obtain rfl := Option.some.inj h
      exact hF
    · have h := (ck_s h).2
      obtain ⟨m28, hF, h⟩ := fr_stI (fr_at 15 rfl) hF h
      obtain ⟨y29, h⟩ := fr_bn h
      obtain rfl := Option.some.inj h
      exact hF
theorem fr_X9_meet_J18    {m : Mem} {t : Int32 × Mem} (h : f_X9_meet_J18 m = some t) : Fr (l_X9_meet) m ((fun t => t.2) t) := by
  have hF : Fr (l_X9_meet) m m := Fr.rf
  obtain ⟨q2, h0, h⟩ := Option.bind_eq_some_iff.mp h
  have hF := hF.trans ((fr_X9_isTable h0).sub (fun _ hq => nomatch hq))
  rcases fr_if h with h | h
  · obtain ⟨q3, h0, h⟩ := Option.bind_eq_some_iff.mp h
    have hF := hF.trans ((fr_X9_meets h0).sub (fr_ix [0, 1, 2, 3, 4, 5, 6, 8, 9, 10, 11, 12, 13, 14, 28, 29, 30, 31, 32, 36, 37, 38] rfl))
    obtain ⟨q4, h0, h⟩ := Option.bind_eq_some_iff.mp h
    have hF := hF.trans ((fr_X9_keepsRows h0).sub (fr_ix [16, 17, 18, 19, 20, 21, 22, 23, 24, 25, 26, 27, 39, 40, 41, 42] rfl))
    have h := (ck_s h).2
    obtain ⟨m5, hF, h⟩ := fr_stI (fr_at 15 rfl) hF h
    have h := (ck_s h).2
    obtain ⟨m6, hF, h⟩ := fr_stI (fr_at 15 rfl) hF h
    obtain ⟨q7, h0, h⟩ := Option.bind_eq_some_iff.mp h
    have hF := hF.trans ((fr_X9_decided h0).sub (fun _ hq => nomatch hq))
    have h := (ck_s h).2
    obtain ⟨m8, hF, h⟩ := fr_stI (fr_at 15 rfl) hF h
    obtain ⟨q9, h0, h⟩ := Option.bind_eq_some_iff.mp h
    have hF := hF.trans ((fr_X9_heldBack h0).sub (fun _ hq => nomatch hq))
    have h := (ck_s h).2
    obtain ⟨m10, hF, h⟩ := fr_stI (fr_at 15 rfl) hF h
    obtain ⟨q11, h0, h⟩ := Option.bind_eq_some_iff.mp h
    have hF := hF.trans ((fr_X9_decided h0).sub (fun _ hq => nomatch hq))
    obtain ⟨q12, h0, h⟩ := Option.bind_eq_some_iff.mp h
    have hF := hF.trans ((fr_X9_shouldBe h0).sub (fun _ hq => nomatch hq))
    have h := (ck_s h).2
    obtain ⟨m13, hF, h⟩ := fr_stI (fr_at 15 rfl) hF h
    obtain ⟨q14, h0, h⟩ := Option.bind_eq_some_iff.mp h
    have hF := hF.trans ((fr_X9_aloneSaid h0).sub (fun _ hq => nomatch hq))
    have h := (ck_s h).2
    obtain ⟨m15, hF, h⟩ := fr_stI (fr_at 15 rfl) hF h
    obtain ⟨q16, h0, h⟩ := Option.bind_eq_some_iff.mp h
    have hF := hF.trans ((fr_X9_aloneSaid h0).sub (fun _ hq => nomatch hq))
    have h := (ck_s h).2
    obtain ⟨m17, hF, h⟩ := fr_stI (fr_at 15 rfl) hF h
    obtain ⟨q18, h0, h⟩ := Option.bind_eq_some_iff.mp h
    have hF := hF.trans ((fr_X9_cost h0).sub (fun _ hq => nomatch hq))
    have h := (ck_s h).2
    obtain ⟨m19, hF, h⟩ := fr_stI (fr_at 15 rfl) hF h
    obtain ⟨q20, h0, h⟩ := Option.bind_eq_some_iff.mp h
    have hF := hF.trans ((fr_X9_shed h0).sub (fun _ hq => nomatch hq))
    have h := (ck_s h).2
    obtain ⟨m21, hF, h⟩ := fr_stI (fr_at 15 rfl) hF h
    have h := (ck_s h).2
    obtain ⟨m22, hF, h⟩ := fr_stI (fr_at 15 rfl) hF h
    have hW := fr_wh (l := l_X9_meet) (f := fun s => s.2) (k := (fun t => t.2)) (fun s t h => fr_X9_meet_L146 h) h
    exact hF.trans hW
  · obtain rfl := Option.some.inj h
    exact hF
theorem fr_X9_meet  {p1 : Int32} {m : Mem} {t : Int32 × Mem} (h : f_X9_meet p1 m = some t) : Fr (l_X9_meet) m ((fun t => t.2) t) := by
  have hF : Fr (l_X9_meet) m m := Fr.rf
  obtain ⟨q1, h0, h⟩ := Option.bind_eq_some_iff.mp h
  have hF := hF.trans ((fr_X9_plain h0).sub (fr_ix [7, 33, 34, 35] rfl))
  rcases fr_if h with h | h
  · exact hF.trans (fr_X9_meet_J18 h)
  · obtain ⟨q30, h0, h⟩ := Option.bind_eq_some_iff.mp h
    have hF := hF.trans ((fr_X9_isOrder h0).sub (fr_ix [7] rfl))
    rcases fr_if h with h | h
    · exact hF.trans (fr_X9_meet_J18 h)
    · obtain rfl := Option.some.inj h
      exact hF
theorem fr_X9_mend  {p1 : Int32} {p2 : Int32} {p3 : Int32} {m : Mem} {t : Int32 × Mem} (h : f_X9_mend p1 p2 p3 m = some t) : Fr (l_X9_mend) m ((fun t => t.2) t) := by
  have hF : Fr (l_X9_mend) m m := Fr.rf
  rcases fr_sw h with h | h | h | h | h | h
  · obtain ⟨q1, h0, h⟩ := Option.bind_eq_some_iff.mp h
    have hF := hF.trans ((fr_X9_isPerson h0).sub (fun _ hq => nomatch hq))
    rcases fr_if h with h | h
    · obtain rfl := Option.some.inj h
      exact hF
    · obtain ⟨q2, h0, h⟩ := Option.bind_eq_some_iff.mp h
      have hF := hF.trans ((fr_X9_isDigit1 h0).sub (fun _ hq => nomatch hq))
      rcases fr_if h with h | h
      · obtain rfl := Option.some.inj h
        exact hF
      · obtain ⟨q3, h0, h⟩ := Option.bind_eq_some_iff.mp h
        have hF := hF.trans ((fr_X9_becomes h0).sub (fr_ix [0, 1, 2, 3, 4, 5] rfl))
        obtain rfl := Option.some.inj h
        exact hF
  · obtain ⟨q4, h0, h⟩ := Option.bind_eq_some_iff.mp h
    have hF := hF.trans ((fr_X9_isPerson h0).sub (fun _ hq => nomatch hq))
    rcases fr_if h with h | h
    · obtain rfl := Option.some.inj h
      exact hF
    · obtain ⟨q5, h0, h⟩ := Option.bind_eq_some_iff.mp h
      have hF := hF.trans ((fr_X9_isDigit1 h0).sub (fun _ hq => nomatch hq))
      rcases fr_if h with h | h
      · obtain rfl := Option.some.inj h
        exact hF
      · obtain ⟨q6, h0, h⟩ := Option.bind_eq_some_iff.mp h
        have hF := hF.trans ((fr_X9_becomes h0).sub (fr_ix [0, 1, 2, 3, 4, 5] rfl))
        obtain rfl := Option.some.inj h
        exact hF
  · obtain ⟨q7, h0, h⟩ := Option.bind_eq_some_iff.mp h
    have hF := hF.trans ((fr_X9_isPerson h0).sub (fun _ hq => nomatch hq))
    rcases fr_if h with h | h
    · obtain rfl := Option.some.inj h
      exact hF
    · obtain ⟨q8, h0, h⟩ := Option.bind_eq_some_iff.mp h
      have hF := hF.trans ((fr_X9_within h0).sub (fun _ hq => nomatch hq))
      rcases fr_if h with h | h
      · obtain rfl := Option.some.inj h
        exact hF
      · obtain ⟨q9, h0, h⟩ := Option.bind_eq_some_iff.mp h
        have hF := hF.trans ((fr_X9_becomes h0).sub (fr_ix [0, 1, 2, 3, 4, 5] rfl))
        obtain rfl := Option.some.inj h
        exact hF
  · obtain ⟨q10, h0, h⟩ := Option.bind_eq_some_iff.mp h
    have hF := hF.trans ((fr_X9_isThing h0).sub (fun _ hq => nomatch hq))
    rcases fr_if h with h | h
    · obtain rfl := Option.some.inj h
      exact hF
    · obtain ⟨q11, h0, h⟩ := Option.bind_eq_some_iff.mp h
      have hF := hF.trans ((fr_X9_isWorth h0).sub (fun _ hq => nomatch hq))
      rcases fr_if h with h | h
      · obtain rfl := Option.some.inj h
        exact hF
      · obtain ⟨q12, h0, h⟩ := Option.bind_eq_some_iff.mp h
        have hF := hF.trans ((fr_X9_becomes h0).sub (fr_ix [0, 1, 2, 3, 4, 5] rfl))
        obtain rfl := Option.some.inj h
        exact hF
  · obtain ⟨q13, h0, h⟩ := Option.bind_eq_some_iff.mp h
    have hF := hF.trans ((fr_X9_isThing h0).sub (fun _ hq => nomatch hq))
    rcases fr_if h with h | h
    · obtain rfl := Option.some.inj h
      exact hF
    · obtain ⟨q14, h0, h⟩ := Option.bind_eq_some_iff.mp h
      have hF := hF.trans ((fr_X9_isDigit1 h0).sub (fun _ hq => nomatch hq))
      rcases fr_if h with h | h
      · obtain rfl := Option.some.inj h
        exact hF
      · obtain ⟨q15, h0, h⟩ := Option.bind_eq_some_iff.mp h
        have hF := hF.trans ((fr_X9_becomes h0).sub (fr_ix [0, 1, 2, 3, 4, 5] rfl))
        obtain rfl := Option.some.inj h
        exact hF
  · obtain rfl := Option.some.inj h
    exact hF
theorem fr_X9_of  {p1 : Int32} {p2 : Int32} {m : Mem} {t : Int32 × Mem} (h : f_X9_of p1 p2 m = some t) : Fr (l_X9_of) m ((fun t => t.2) t) := by
  have hF : Fr (l_X9_of) m m := Fr.rf
  rcases fr_sw h with h | h | h | h | h | h | h | h | h | h | h | h | h | h | h | h | h | h | h | h | h | h | h | h
  · obtain ⟨q1, h0, h⟩ := Option.bind_eq_some_iff.mp h
    have hF := hF.trans ((fr_X9_isPerson h0).sub (fun _ hq => nomatch hq))
    rcases fr_if h with h | h
    · obtain rfl := Option.some.inj h
      exact hF
    · have h := (ck_s h).2
      obtain rfl := Option.some.inj h
      exact hF
  · obtain ⟨q2, h0, h⟩ := Option.bind_eq_some_iff.mp h
    have hF := hF.trans ((fr_X9_isPerson h0).sub (fun _ hq => nomatch hq))
    rcases fr_if h with h | h
    · obtain rfl := Option.some.inj h
      exact hF
    · have h := (ck_s h).2
      obtain rfl := Option.some.inj h
      exact hF
  · obtain ⟨q3, h0, h⟩ := Option.bind_eq_some_iff.mp h
    have hF := hF.trans ((fr_X9_isPerson h0).sub (fun _ hq => nomatch hq))
    rcases fr_if h with h | h
    · obtain rfl := Option.some.inj h
      exact hF
    · have h := (ck_s h).2
      obtain rfl := Option.some.inj h
      exact hF
  · obtain ⟨q4, h0, h⟩ := Option.bind_eq_some_iff.mp h
    have hF := hF.trans ((fr_X9_isPerson h0).sub (fun _ hq => nomatch hq))
    rcases fr_if h with h | h
    · obtain rfl := Option.some.inj h
      exact hF
    · have h := (ck_s h).2
      obtain rfl := Option.some.inj h
      exact hF
  · obtain rfl := Option.some.inj h
    exact hF
  · obtain rfl := Option.some.inj h
    exact hF
  · obtain rfl := Option.some.inj h
    exact hF
  · obtain rfl := Option.some.inj h
    exact hF
  · obtain rfl := Option.some.inj h
    exact hF
  · obtain rfl := Option.some.inj h
    exact hF
  · obtain ⟨q5, h0, h⟩ := Option.bind_eq_some_iff.mp h
    have hF := hF.trans ((fr_X9_isThing h0).sub (fun _ hq => nomatch hq))
    rcases fr_if h with h | h
    · obtain rfl := Option.some.inj h
      exact hF
    · have h := (ck_s h).2
      obtain rfl := Option.some.inj h
      exact hF
  · obtain ⟨q6, h0, h⟩ := Option.bind_eq_some_iff.mp h
    have hF := hF.trans ((fr_X9_isThing h0).sub (fun _ hq => nomatch hq))
    rcases fr_if h with h | h
    · obtain rfl := Option.some.inj h
      exact hF
    · have h := (ck_s h).2
      obtain rfl := Option.some.inj h
      exact hF
  · obtain rfl := Option.some.inj h
    exact hF
  · obtain rfl := Option.some.inj h
    exact hF
  · obtain rfl := Option.some.inj h
    exact hF
  · obtain rfl := Option.some.inj h
    exact hF
  · obtain rfl := Option.some.inj h
    exact hF
  · obtain rfl := Option.some.inj h
    exact hF
  · obtain rfl := Option.some.inj h
    exact hF
  · obtain rfl := Option.some.inj h
    exact hF
  · obtain ⟨q7, h0, h⟩ := Option.bind_eq_some_iff.mp h
    have hF := hF.trans ((fr_X9_isCard h0).sub (fun _ hq => nomatch hq))
    rcases fr_if h with h | h
    · obtain rfl := Option.some.inj h
      exact hF
    · have h := (ck_s h).2
      obtain rfl := Option.some.inj h
      exact hF
  · obtain ⟨q8, h0, h⟩ := Option.bind_eq_some_iff.mp h
    have hF := hF.trans ((fr_X9_isCard h0).sub (fun _ hq => nomatch hq))
    rcases fr_if h with h | h
    · obtain rfl := Option.some.inj h
      exact hF
    · have h := (ck_s h).2
      obtain rfl := Option.some.inj h
      exact hF
  · obtain ⟨q9, h0, h⟩ := Option.bind_eq_some_iff.mp h
    have hF := hF.trans ((fr_X9_isCard h0).sub (fun _ hq => nomatch hq))
    rcases fr_if h with h | h
    · obtain rfl := Option.some.inj h
      exact hF
    · have h := (ck_s h).2
      obtain rfl := Option.some.inj h
      exact hF
  · obtain rfl := Option.some.inj h
    exact hF
theorem fr_X9_order  {p1 : Int32} {m : Mem} {t : Int32 × Mem} (h : f_X9_order p1 m = some t) : Fr (l_X9_order) m ((fun t => t.2) t) := by
  have hF : Fr (l_X9_order) m m := Fr.rf
  obtain ⟨q1, h0, h⟩ := Option.bind_eq_some_iff.mp h
  have hF := hF.trans ((fr_X9_within h0).sub (fun _ hq => nomatch hq))
  rcases fr_if h with h | h
  · obtain ⟨q2, h0, h⟩ := Option.bind_eq_some_iff.mp h
    have hF := hF.trans ((fr_X9_isTable h0).sub (fun _ hq => nomatch hq))
    rcases fr_if h with h | h
    · obtain rfl := Option.some.inj h
      exact hF
    · rcases fr_if h with h | h
      · obtain ⟨q3, h0, h⟩ := Option.bind_eq_some_iff.mp h
        have hF := hF.trans ((fr_X9_plain h0).sub (fr_ix [7, 20, 21, 22] rfl))
        obtain ⟨m4, hF, h⟩ := fr_stI (fr_at 26 rfl) hF h
        obtain ⟨q5, h0, h⟩ := Option.bind_eq_some_iff.mp h
        have hF := hF.trans ((fr_X9_goesOrders _ h0).sub (fr_ix [0, 1, 2, 3, 4, 5, 6, 7, 8, 9, 10, 11, 12, 13, 14, 15, 16, 17, 18, 19, 23, 24, 25, 26, 27, 28] rfl))
        obtain ⟨q6, h0, h⟩ := Option.bind_eq_some_iff.mp h
        have hF := hF.trans ((fr_X9_bestTold h0).sub (fun _ hq => nomatch hq))
        obtain rfl := Option.some.inj h
        exact hF
      · obtain rfl := Option.some.inj h
        exact hF
  · obtain rfl := Option.some.inj h
    exact hF
theorem fr_X9_person  {p1 : Int32} {p2 : Int32} {m : Mem} {t : Int32 × Mem} (h : f_X9_person p1 p2 m = some t) : Fr (l_X9_person) m ((fun t => t.2) t) := by
  have hF : Fr (l_X9_person) m m := Fr.rf
  obtain ⟨q1, h0, h⟩ := Option.bind_eq_some_iff.mp h
  have hF := hF.trans ((fr_X9_within h0).sub (fun _ hq => nomatch hq))
  rcases fr_if h with h | h
  · obtain rfl := Option.some.inj h
    exact hF
  · obtain ⟨q2, h0, h⟩ := Option.bind_eq_some_iff.mp h
    have hF := hF.trans ((fr_X9_within h0).sub (fun _ hq => nomatch hq))
    rcases fr_if h with h | h
    · rcases fr_if h with h | h
      · have h := (ck_s h).2
        obtain ⟨m3, hF, h⟩ := fr_stI (fr_at 0 rfl) hF h
        have h := (ck_s h).2
        obtain ⟨m4, hF, h⟩ := fr_stI (fr_at 0 rfl) hF h
        have h := (ck_s h).2
        obtain ⟨m5, hF, h⟩ := fr_stI (fr_at 1 rfl) hF h
        have h := (ck_s h).2
        obtain ⟨m6, hF, h⟩ := fr_stI (fr_at 0 rfl) hF h
        obtain ⟨m7, hF, h⟩ := fr_stI (fr_at 2 rfl) hF h
        obtain rfl := Option.some.inj h
        exact hF
      · obtain rfl := Option.some.inj h
        exact hF
    · obtain rfl := Option.some.inj h
      exact hF
theorem fr_X9_put_J37  {v5 : Int32}  {m : Mem} {t : Int32 × Mem} (h : f_X9_put_J37 v5 m = some t) : Fr (l_X9_put) m ((fun t => t.2) t) := by
  have hF : Fr (l_X9_put) m m := Fr.rf
  rcases fr_if h with h | h
  · obtain rfl := Option.some.inj h
    exact hF
  · obtain rfl := Option.some.inj h
    exact hF
theorem fr_X9_put  {p1 : Int32} {p2 : Int32} {p3 : Int64} {m : Mem} {t : Int32 × Mem} (h : f_X9_put p1 p2 p3 m = some t) : Fr (l_X9_put) m ((fun t => t.2) t) := by
  have hF : Fr (l_X9_put) m m := Fr.rf
  obtain ⟨q1, h0, h⟩ := Option.bind_eq_some_iff.mp h
  have hF := hF.trans ((fr_X9_refusal h0).sub (fun _ hq => nomatch hq))
  rcases fr_if h with h | h
  · exact hF.trans (fr_X9_put_J37 h)
  · have h := (ck_s h).2
    obtain ⟨q2, h0, h⟩ := Option.bind_eq_some_iff.mp h
    have hF := hF.trans ((fr_X9_asSort h0).sub (fun _ hq => nomatch hq))
    have h := (ck_s h).2
    obtain ⟨m3, hF, h⟩ := fr_stJ (fr_at 0 rfl) hF h
    exact hF.trans (fr_X9_put_J37 h)
theorem fr_X9_redo   {m : Mem} {t : Int32 × Mem} (h : f_X9_redo m = some t) : Fr (l_X9_redo) m ((fun t => t.2) t) := by
  have hF : Fr (l_X9_redo) m m := Fr.rf
  rcases fr_if h with h | h
  · have h := (ck_s h).2
    have h := (ck_s h).2
    have h := (ck_s h).2
    obtain ⟨m1, hF, h⟩ := fr_stI (fr_at 0 rfl) hF h
    obtain ⟨m2, hF, h⟩ := fr_stI (fr_at 1 rfl) hF h
    obtain rfl := Option.some.inj h
    exact hF
  · obtain rfl := Option.some.inj h
    exact hF
theorem fr_X9_row_L57  {s : Int32 × Int32 × Mem} {t : (Int32 × Int32 × Mem) ⊕ (Int32 × Mem)} (h : f_X9_row_L57 s = some t) : Fr (l_X9_row) s.2.2 ((mS (fun s => s.2.2) (fun t => t.2)) t) := by
  have hF : Fr (l_X9_row) s.2.2 s.2.2 := Fr.rf
  rcases fr_if h with h | h
  · refine fr_up h (fun r h => ?_)
    obtain rfl := Option.some.inj h
    exact hF
  · have h := (ck_s h).2
    obtain ⟨m6, hF, h⟩ := fr_stJ (fr_at 2 rfl) hF h
    obtain ⟨y7, h⟩ := fr_bn h
    obtain rfl := Option.some.inj h
    exact hF
theorem fr_X9_row  {p1 : Int32} {p2 : Int32} {p3 : Int32} {m : Mem} {t : Int32 × Mem} (h : f_X9_row p1 p2 p3 m = some t) : Fr (l_X9_row) m ((fun t => t.2) t) := by
  have hF : Fr (l_X9_row) m m := Fr.rf
  obtain ⟨q1, h0, h⟩ := Option.bind_eq_some_iff.mp h
  have hF := hF.trans ((fr_X9_isShelf h0).sub (fun _ hq => nomatch hq))
  rcases fr_if h with h | h
  · obtain rfl := Option.some.inj h
    exact hF
  · obtain ⟨q2, h0, h⟩ := Option.bind_eq_some_iff.mp h
    have hF := hF.trans ((fr_X9_within h0).sub (fun _ hq => nomatch hq))
    rcases fr_if h with h | h
    · obtain rfl := Option.some.inj h
      exact hF
    · rcases fr_if h with h | h
      · rcases fr_if h with h | h
        · have h := (ck_s h).2
          obtain ⟨m3, hF, h⟩ := fr_stI (fr_at 0 rfl) hF h
          have h := (ck_s h).2
          obtain ⟨m4, hF, h⟩ := fr_stI (fr_at 1 rfl) hF h
          obtain ⟨y5, h⟩ := fr_bn h
          have hW := fr_wh (l := l_X9_row) (f := fun s => s.2.2) (k := (fun t => t.2)) (fun s t h => fr_X9_row_L57 h) h
          exact hF.trans hW
        · obtain rfl := Option.some.inj h
          exact hF
      · obtain rfl := Option.some.inj h
        exact hF
theorem fr_X9_rule_L35  {s : Int32 × Int32 × Mem} {t : (Int32 × Int32 × Mem) ⊕ (Int32 × Mem)} (h : f_X9_rule_L35 s = some t) : Fr (l_X9_rule) s.2.2 ((mS (fun s => s.2.2) (fun t => t.2)) t) := by
  have hF : Fr (l_X9_rule) s.2.2 s.2.2 := Fr.rf
  rcases fr_if h with h | h
  · refine fr_up h (fun r h => ?_)
    obtain ⟨q5, h0, h⟩ := Option.bind_eq_some_iff.mp h
    have hF := hF.trans ((fr_X9_bestTold h0).sub (fun _ hq => nomatch hq))
    obtain rfl := Option.some.inj h
    exact hF
  · obtain ⟨m6, hF, h⟩ := fr_stI (fr_at 20 rfl) hF h
    obtain ⟨q7, h0, h⟩ := Option.bind_eq_some_iff.mp h
    have hF := hF.trans ((fr_X9_looksAt h0).sub (fr_ix [0, 1, 2, 3, 4, 5, 6, 8, 9, 10, 11, 12, 13, 14, 15, 16, 17, 18, 19, 23, 24, 25, 26, 27, 28] rfl))
    obtain ⟨y8, h⟩ := fr_bn h
    obtain rfl := Option.some.inj h
    exact hF
theorem fr_X9_rule  {p1 : Int32} {m : Mem} {t : Int32 × Mem} (h : f_X9_rule p1 m = some t) : Fr (l_X9_rule) m ((fun t => t.2) t) := by
  have hF : Fr (l_X9_rule) m m := Fr.rf
  obtain ⟨q1, h0, h⟩ := Option.bind_eq_some_iff.mp h
  have hF := hF.trans ((fr_X9_within h0).sub (fun _ hq => nomatch hq))
  rcases fr_if h with h | h
  · obtain ⟨q2, h0, h⟩ := Option.bind_eq_some_iff.mp h
    have hF := hF.trans ((fr_X9_isTable h0).sub (fun _ hq => nomatch hq))
    rcases fr_if h with h | h
    · obtain ⟨q3, h0, h⟩ := Option.bind_eq_some_iff.mp h
      have hF := hF.trans ((fr_X9_plain h0).sub (fr_ix [7, 20, 21, 22] rfl))
      obtain ⟨m4, hF, h⟩ := fr_stI (fr_at 26 rfl) hF h
      have hW := fr_wh (l := l_X9_rule) (f := fun s => s.2.2) (k := (fun t => t.2)) (fun s t h => fr_X9_rule_L35 h) h
      exact hF.trans hW
    · obtain rfl := Option.some.inj h
      exact hF
  · obtain rfl := Option.some.inj h
    exact hF
theorem fr_X9_saying  {p1 : Int32} {p2 : Int32} {m : Mem} {t : Int32 × Mem} (h : f_X9_saying p1 p2 m = some t) : Fr (l_X9_saying) m ((fun t => t.2) t) := by
  have hF : Fr (l_X9_saying) m m := Fr.rf
  obtain ⟨q1, h0, h⟩ := Option.bind_eq_some_iff.mp h
  have hF := hF.trans ((fr_X9_within h0).sub (fun _ hq => nomatch hq))
  rcases fr_if h with h | h
  · rcases fr_if h with h | h
    · obtain ⟨q2, h0, h⟩ := Option.bind_eq_some_iff.mp h
      have hF := hF.trans ((fr_X9_within h0).sub (fun _ hq => nomatch hq))
      rcases fr_if h with h | h
      · rcases fr_sw h with h | h | h | h | h | h | h | h
        · have h := (ck_s h).2
          obtain rfl := Option.some.inj h
          exact hF
        · have h := (ck_s h).2
          obtain rfl := Option.some.inj h
          exact hF
        · have h := (ck_s h).2
          obtain rfl := Option.some.inj h
          exact hF
        · have h := (ck_s h).2
          obtain rfl := Option.some.inj h
          exact hF
        · have h := (ck_s h).2
          obtain rfl := Option.some.inj h
          exact hF
        · have h := (ck_s h).2
          obtain rfl := Option.some.inj h
          exact hF
        · have h := (ck_s h).2
          obtain rfl := Option.some.inj h
          exact hF
        · obtain rfl := Option.some.inj h
          exact hF
      · obtain rfl := Option.some.inj h
        exact hF
    · obtain rfl := Option.some.inj h
      exact hF
  · obtain rfl := Option.some.inj h
    exact hF
theorem fr_X9_set  {p1 : Int32} {p2 : Int32} {m : Mem} {t : Int32 × Mem} (h : f_X9_set p1 p2 m = some t) : Fr (l_X9_set) m ((fun t => t.2) t) := by
  have hF : Fr (l_X9_set) m m := Fr.rf
  rcases fr_sw h with h | h | h | h
  · obtain ⟨q1, h0, h⟩ := Option.bind_eq_some_iff.mp h
    have hF := hF.trans ((fr_X9_within h0).sub (fun _ hq => nomatch hq))
    rcases fr_if h with h | h
    · obtain rfl := Option.some.inj h
      exact hF
    · obtain ⟨y2, h⟩ := fr_bn h
      obtain ⟨m3, hF, h⟩ := fr_stI (fr_at 0 rfl) hF h
      obtain rfl := Option.some.inj h
      exact hF
  · obtain ⟨q4, h0, h⟩ := Option.bind_eq_some_iff.mp h
    have hF := hF.trans ((fr_X9_within h0).sub (fun _ hq => nomatch hq))
    rcases fr_if h with h | h
    · obtain rfl := Option.some.inj h
      exact hF
    · obtain ⟨y5, h⟩ := fr_bn h
      obtain ⟨m6, hF, h⟩ := fr_stI (fr_at 1 rfl) hF h
      obtain rfl := Option.some.inj h
      exact hF
  · obtain ⟨q7, h0, h⟩ := Option.bind_eq_some_iff.mp h
    have hF := hF.trans ((fr_X9_within h0).sub (fun _ hq => nomatch hq))
    rcases fr_if h with h | h
    · obtain rfl := Option.some.inj h
      exact hF
    · obtain ⟨y8, h⟩ := fr_bn h
      obtain ⟨m9, hF, h⟩ := fr_stI (fr_at 2 rfl) hF h
      obtain rfl := Option.some.inj h
      exact hF
  · obtain rfl := Option.some.inj h
    exact hF
theorem fr_X9_shift_L150  {s : Int32 × Int32 × Int32 × Int32 × Mem} {t : (Int32 × Int32 × Int32 × Int32 × Mem) ⊕ (Int32 × Mem)} (h : f_X9_shift_L150 s = some t) : Fr (l_X9_shift) s.2.2.2.2 ((mS (fun s => s.2.2.2.2) (fun t => t.2)) t) := by
  have hF : Fr (l_X9_shift) s.2.2.2.2 s.2.2.2.2 := Fr.rf
  rcases fr_if h with h | h
  · refine fr_up h (fun r h => ?_)
    obtain rfl := Option.some.inj h
    exact hF
  · have h := (ck_s h).2
    have h := (ck_s h).2
    obtain ⟨m3, hF, h⟩ := fr_stJ (fr_at 0 rfl) hF h
    obtain ⟨y4, h⟩ := fr_bn h
    obtain rfl := Option.some.inj h
    exact hF
theorem fr_X9_shift_L113  {s : Int32 × Int32 × Int32 × Int32 × Int32 × Int32 × Mem} {t : (Int32 × Int32 × Int32 × Int32 × Int32 × Int32 × Mem) ⊕ (Int32 × Mem)} (h : f_X9_shift_L113 s = some t) : Fr (l_X9_shift) s.2.2.2.2.2.2 ((mS (fun s => s.2.2.2.2.2.2) (fun t => t.2)) t) := by
  have hF : Fr (l_X9_shift) s.2.2.2.2.2.2 s.2.2.2.2.2.2 := Fr.rf
  rcases fr_if h with h | h
  · refine fr_up h (fun r h => ?_)
    have hW := fr_wh (l := l_X9_shift) (f := fun s => s.2.2.2.2) (k := (fun t => t.2)) (fun s t h => fr_X9_shift_L150 h) h
    exact hF.trans hW
  · have h := (ck_s h).2
    have h := (ck_s h).2
    obtain ⟨m5, hF, h⟩ := fr_stJ (fr_at 1 rfl) hF h
    obtain ⟨y6, h⟩ := fr_bn h
    obtain rfl := Option.some.inj h
    exact hF
theorem fr_X9_shift  {p1 : Int32} {p2 : Int32} {p3 : Int32} {p4 : Int32} {p5 : Int32} {m : Mem} {t : Int32 × Mem} (h : f_X9_shift p1 p2 p3 p4 p5 m = some t) : Fr (l_X9_shift) m ((fun t => t.2) t) := by
  have hF : Fr (l_X9_shift) m m := Fr.rf
  obtain ⟨q1, h0, h⟩ := Option.bind_eq_some_iff.mp h
  have hF := hF.trans ((fr_X9_isShelf h0).sub (fun _ hq => nomatch hq))
  rcases fr_if h with h | h
  · obtain rfl := Option.some.inj h
    exact hF
  · obtain ⟨q2, h0, h⟩ := Option.bind_eq_some_iff.mp h
    have hF := hF.trans ((fr_X9_isShelf h0).sub (fun _ hq => nomatch hq))
    rcases fr_if h with h | h
    · have h := (ck_s h).2
      rcases fr_if h with h | h
      · obtain rfl := Option.some.inj h
        exact hF
      · have h := (ck_s h).2
        rcases fr_if h with h | h
        · have h := (ck_s h).2
          rcases fr_if h with h | h
          · obtain rfl := Option.some.inj h
            exact hF
          · have h := (ck_s h).2
            have h := (ck_s h).2
            rcases fr_if h with h | h
            · rcases fr_if h with h | h
              · obtain rfl := Option.some.inj h
                exact hF
              · rcases fr_if h with h | h
                · obtain rfl := Option.some.inj h
                  exact hF
                · rcases fr_if h with h | h
                  · obtain rfl := Option.some.inj h
                    exact hF
                  · have h := (ck_s h).2
                    rcases fr_if h with h | h
                    · obtain rfl := Option.some.inj h
                      exact hF
                    · have h := (ck_s h).2
                      rcases fr_if h with h | h
                      · have hW := fr_wh (l := l_X9_shift) (f := fun s => s.2.2.2.2.2.2) (k := (fun t => t.2)) (fun s t h => fr_X9_shift_L113 h) h
                        exact hF.trans hW
                      · obtain rfl := Option.some.inj h
                        exact hF
            · obtain rfl := Option.some.inj h
              exact hF
        · obtain rfl := Option.some.inj h
          exact hF
    · obtain rfl := Option.some.inj h
      exact hF
theorem fr_X9_taken_J75  {v1 : Int32} {v2 : Int32} {v3 : Int32}  {m : Mem} {t : Int32 × Mem} (h : f_X9_taken_J75 v1 v2 v3 m = some t) : Fr (l_X9_taken) m ((fun t => t.2) t) := by
  have hF : Fr (l_X9_taken) m m := Fr.rf
  rcases fr_if h with h | h
  · obtain rfl := Option.some.inj h
    exact hF
  · have h := (ck_s h).2
    obtain ⟨q4, h0, h⟩ := Option.bind_eq_some_iff.mp h
    have hF := hF.trans ((fr_X9_kindOf h0).sub (fun _ hq => nomatch hq))
    obtain rfl := Option.some.inj h
    exact hF
theorem fr_X9_taken_L58  {s : Int32 × Int32 × Int32 × Mem} {t : (Int32 × Int32 × Int32 × Mem) ⊕ (Int32 × Mem)} (h : f_X9_taken_L58 s = some t) : Fr (l_X9_taken) s.2.2.2 ((mS (fun s => s.2.2.2) (fun t => t.2)) t) := by
  have hF : Fr (l_X9_taken) s.2.2.2 s.2.2.2 := Fr.rf
  rcases fr_if h with h | h
  · refine fr_up h (fun r h => ?_)
    exact hF.trans (fr_X9_taken_J75 h)
  · rcases fr_if h with h | h
    · refine fr_up h (fun r h => ?_)
      exact hF.trans (fr_X9_taken_J75 h)
    · obtain ⟨q5, h0, h⟩ := Option.bind_eq_some_iff.mp h
      have hF := hF.trans ((fr_X9_above h0).sub (fun _ hq => nomatch hq))
      obtain rfl := Option.some.inj h
      exact hF
theorem fr_X9_taken  {p1 : Int32} {p2 : Int32} {m : Mem} {t : Int32 × Mem} (h : f_X9_taken p1 p2 m = some t) : Fr (l_X9_taken) m ((fun t => t.2) t) := by
  have hF : Fr (l_X9_taken) m m := Fr.rf
  obtain ⟨q1, h0, h⟩ := Option.bind_eq_some_iff.mp h
  have hF := hF.trans ((fr_X9_isShelf h0).sub (fun _ hq => nomatch hq))
  rcases fr_if h with h | h
  · obtain rfl := Option.some.inj h
    exact hF
  · obtain ⟨q2, h0, h⟩ := Option.bind_eq_some_iff.mp h
    have hF := hF.trans ((fr_X9_within h0).sub (fun _ hq => nomatch hq))
    rcases fr_if h with h | h
    · have h := (ck_s h).2
      rcases fr_if h with h | h
      · have h := (ck_s h).2
        rcases fr_if h with h | h
        · have h := (ck_s h).2
          obtain ⟨q3, h0, h⟩ := Option.bind_eq_some_iff.mp h
          have hF := hF.trans ((fr_X9_kindOf h0).sub (fun _ hq => nomatch hq))
          have hW := fr_wh (l := l_X9_taken) (f := fun s => s.2.2.2) (k := (fun t => t.2)) (fun s t h => fr_X9_taken_L58 h) h
          exact hF.trans hW
        · obtain rfl := Option.some.inj h
          exact hF
      · obtain rfl := Option.some.inj h
        exact hF
    · obtain rfl := Option.some.inj h
      exact hF
theorem fr_X9_thing  {p1 : Int32} {p2 : Int32} {m : Mem} {t : Int32 × Mem} (h : f_X9_thing p1 p2 m = some t) : Fr (l_X9_thing) m ((fun t => t.2) t) := by
  have hF : Fr (l_X9_thing) m m := Fr.rf
  obtain ⟨q1, h0, h⟩ := Option.bind_eq_some_iff.mp h
  have hF := hF.trans ((fr_X9_isWorth h0).sub (fun _ hq => nomatch hq))
  rcases fr_if h with h | h
  · obtain rfl := Option.some.inj h
    exact hF
  · obtain ⟨q2, h0, h⟩ := Option.bind_eq_some_iff.mp h
    have hF := hF.trans ((fr_X9_isDigit1 h0).sub (fun _ hq => nomatch hq))
    rcases fr_if h with h | h
    · rcases fr_if h with h | h
      · have h := (ck_s h).2
        obtain ⟨m3, hF, h⟩ := fr_stI (fr_at 0 rfl) hF h
        have h := (ck_s h).2
        obtain ⟨m4, hF, h⟩ := fr_stI (fr_at 0 rfl) hF h
        obtain ⟨m5, hF, h⟩ := fr_stI (fr_at 1 rfl) hF h
        obtain rfl := Option.some.inj h
        exact hF
      · obtain rfl := Option.some.inj h
        exact hF
    · obtain rfl := Option.some.inj h
      exact hF
theorem fr_X9_times_L35  {s : Int32 × Int32 × Mem} {t : (Int32 × Int32 × Mem) ⊕ (Int32 × Mem)} (h : f_X9_times_L35 s = some t) : Fr (l_X9_times) s.2.2 ((mS (fun s => s.2.2) (fun t => t.2)) t) := by
  have hF : Fr (l_X9_times) s.2.2 s.2.2 := Fr.rf
  rcases fr_if h with h | h
  · refine fr_up h (fun r h => ?_)
    obtain ⟨q5, h0, h⟩ := Option.bind_eq_some_iff.mp h
    have hF := hF.trans ((fr_X9_bestTold h0).sub (fun _ hq => nomatch hq))
    obtain rfl := Option.some.inj h
    exact hF
  · obtain ⟨m6, hF, h⟩ := fr_stI (fr_at 21 rfl) hF h
    obtain ⟨q7, h0, h⟩ := Option.bind_eq_some_iff.mp h
    have hF := hF.trans ((fr_X9_looksAt h0).sub (fr_ix [0, 1, 2, 3, 4, 5, 6, 8, 9, 10, 11, 12, 13, 14, 15, 16, 17, 18, 19, 23, 24, 25, 26, 27, 28] rfl))
    obtain ⟨y8, h⟩ := fr_bn h
    obtain rfl := Option.some.inj h
    exact hF
theorem fr_X9_times  {p1 : Int32} {m : Mem} {t : Int32 × Mem} (h : f_X9_times p1 m = some t) : Fr (l_X9_times) m ((fun t => t.2) t) := by
  have hF : Fr (l_X9_times) m m := Fr.rf
  obtain ⟨q1, h0, h⟩ := Option.bind_eq_some_iff.mp h
  have hF := hF.trans ((fr_X9_within h0).sub (fun _ hq => nomatch hq))
  rcases fr_if h with h | h
  · obtain ⟨q2, h0, h⟩ := Option.bind_eq_some_iff.mp h
    have hF := hF.trans ((fr_X9_isTable h0).sub (fun _ hq => nomatch hq))
    rcases fr_if h with h | h
    · obtain ⟨q3, h0, h⟩ := Option.bind_eq_some_iff.mp h
      have hF := hF.trans ((fr_X9_plain h0).sub (fr_ix [7, 20, 21, 22] rfl))
      obtain ⟨m4, hF, h⟩ := fr_stI (fr_at 26 rfl) hF h
      have hW := fr_wh (l := l_X9_times) (f := fun s => s.2.2) (k := (fun t => t.2)) (fun s t h => fr_X9_times_L35 h) h
      exact hF.trans hW
    · obtain rfl := Option.some.inj h
      exact hF
  · obtain rfl := Option.some.inj h
    exact hF
theorem fr_X9_told  {p1 : Int32} {m : Mem} {t : Int32 × Mem} (h : f_X9_told p1 m = some t) : Fr (l_X9_told) m ((fun t => t.2) t) := by
  have hF : Fr (l_X9_told) m m := Fr.rf
  obtain ⟨q1, h0, h⟩ := Option.bind_eq_some_iff.mp h
  have hF := hF.trans ((fr_X9_within h0).sub (fun _ hq => nomatch hq))
  rcases fr_if h with h | h
  · rcases fr_if h with h | h
    · have h := (ck_s h).2
      obtain rfl := Option.some.inj h
      exact hF
    · obtain rfl := Option.some.inj h
      exact hF
  · obtain rfl := Option.some.inj h
    exact hF
theorem fr_X9_took  {p1 : Int32} {p2 : Int32} {m : Mem} {t : Int32 × Mem} (h : f_X9_took p1 p2 m = some t) : Fr (l_X9_took) m ((fun t => t.2) t) := by
  have hF : Fr (l_X9_took) m m := Fr.rf
  rcases fr_if h with h | h
  · obtain rfl := Option.some.inj h
    exact hF
  · obtain ⟨q1, h0, h⟩ := Option.bind_eq_some_iff.mp h
    have hF := hF.trans ((fr_X9_within h0).sub (fun _ hq => nomatch hq))
    rcases fr_if h with h | h
    · obtain rfl := Option.some.inj h
      exact hF
    · obtain ⟨q2, h0, h⟩ := Option.bind_eq_some_iff.mp h
      have hF := hF.trans ((fr_X9_within h0).sub (fun _ hq => nomatch hq))
      rcases fr_if h with h | h
      · rcases fr_if h with h | h
        · have h := (ck_s h).2
          obtain rfl := Option.some.inj h
          exact hF
        · have h := (ck_s h).2
          obtain rfl := Option.some.inj h
          exact hF
      · obtain rfl := Option.some.inj h
        exact hF
theorem fr_X9_trace  {p1 : Int32} {m : Mem} {t : Int32 × Mem} (h : f_X9_trace p1 m = some t) : Fr (l_X9_trace) m ((fun t => t.2) t) := by
  have hF : Fr (l_X9_trace) m m := Fr.rf
  rcases fr_if h with h | h
  · obtain rfl := Option.some.inj h
    exact hF
  · rcases fr_if h with h | h
    · obtain rfl := Option.some.inj h
      exact hF
    · rcases fr_if h with h | h
      · obtain rfl := Option.some.inj h
        exact hF
      · have h := (ck_s h).2
        obtain rfl := Option.some.inj h
        exact hF
theorem fr_X9_undo   {m : Mem} {t : Int32 × Mem} (h : f_X9_undo m = some t) : Fr (l_X9_undo) m ((fun t => t.2) t) := by
  have hF : Fr (l_X9_undo) m m := Fr.rf
  rcases fr_if h with h | h
  · obtain ⟨m1, hF, h⟩ := fr_stI (fr_at 1 rfl) hF h
    have h := (ck_s h).2
    have h := (ck_s h).2
    have h := (ck_s h).2
    obtain ⟨m2, hF, h⟩ := fr_stI (fr_at 0 rfl) hF h
    obtain rfl := Option.some.inj h
    exact hF
  · obtain rfl := Option.some.inj h
    exact hF
theorem fr_X9_wish_L24  {s : Int32 × Int32 × Int32 × Int32 × Mem} {t : (Int32 × Int32 × Int32 × Int32 × Mem) ⊕ (Int32 × Mem)} (h : f_X9_wish_L24 s = some t) : Fr (l_X9_wish) s.2.2.2.2 ((mS (fun s => s.2.2.2.2) (fun t => t.2)) t) := by
  have hF : Fr (l_X9_wish) s.2.2.2.2 s.2.2.2.2 := Fr.rf
  rcases fr_if h with h | h
  · refine fr_up h (fun r h => ?_)
    obtain ⟨q3, h0, h⟩ := Option.bind_eq_some_iff.mp h
    have hF := hF.trans ((fr_X9_wishOf h0).sub (fr_ix [0, 1, 2, 3, 4, 5] rfl))
    obtain rfl := Option.some.inj h
    exact hF
  · have h := (ck_s h).2
    rcases fr_if h with h | h
    · obtain ⟨y4, h⟩ := fr_bn h
      obtain ⟨y5, h⟩ := fr_bn h
      obtain rfl := Option.some.inj h
      exact hF
    · obtain ⟨q6, h0, h⟩ := Option.bind_eq_some_iff.mp h
      have hF := hF.trans ((fr_X9_knows h0).sub (fun _ hq => nomatch hq))
      rcases fr_if h with h | h
      · obtain ⟨y7, h⟩ := fr_bn h
        obtain ⟨y8, h⟩ := fr_bn h
        obtain rfl := Option.some.inj h
        exact hF
      · obtain ⟨y9, h⟩ := fr_bn h
        obtain ⟨y10, h⟩ := fr_bn h
        obtain rfl := Option.some.inj h
        exact hF
theorem fr_X9_wish  {p1 : Int32} {p2 : Int32} {m : Mem} {t : Int32 × Mem} (h : f_X9_wish p1 p2 m = some t) : Fr (l_X9_wish) m ((fun t => t.2) t) := by
  have hF : Fr (l_X9_wish) m m := Fr.rf
  obtain ⟨q1, h0, h⟩ := Option.bind_eq_some_iff.mp h
  have hF := hF.trans ((fr_X9_isPerson h0).sub (fun _ hq => nomatch hq))
  rcases fr_if h with h | h
  · obtain rfl := Option.some.inj h
    exact hF
  · obtain ⟨q2, h0, h⟩ := Option.bind_eq_some_iff.mp h
    have hF := hF.trans ((fr_X9_isThing h0).sub (fun _ hq => nomatch hq))
    rcases fr_if h with h | h
    · have hW := fr_wh (l := l_X9_wish) (f := fun s => s.2.2.2.2) (k := (fun t => t.2)) (fun s t h => fr_X9_wish_L24 h) h
      exact hF.trans hW
    · obtain rfl := Option.some.inj h
      exact hF
