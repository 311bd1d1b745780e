theorem fr_X7_nextOrder_L100  {s : Int32 × Int32 × Mem} {t : (Int32 × Int32 × Mem) ⊕ (Int32 × Mem)} (h : f_X7_nextOrder_L100 s = some t) : Fr (l_X7_nextOrder) s.2.2 ((mS (fun s => s.2.2) (fun t => t.2)) t) := by
  have hF : Fr (l_X7_nextOrder) s.2.2 s.2.2 := Fr.rf
  rcases fr_if h with h | h
  · refine fr_up h (fun r h => ?_)
    have h := (bz_s h).2
    obtain rfl := Option.some.inj h
    exact hF
  · obtain ⟨q6, h0, h⟩ := Option.bind_eq_some_iff.mp h
    have hF := hF.trans ((fr_X7_swap h0).sub (fr_ix [0] rfl))
    obtain ⟨y7, h⟩ := fr_bn h
    obtain ⟨y8, h⟩ := fr_bn h
    obtain rfl := Option.some.inj h
    exact hF
theorem fr_X7_nextOrder_J79  {v1 : Int32} {v2 : Int32}  {m : Mem} {t : Int32 × Mem} (h : f_X7_nextOrder_J79 v1 v2 m = some t) : Fr (l_X7_nextOrder) m ((fun t => t.2) t) := by
  have hF : Fr (l_X7_nextOrder) m m := Fr.rf
  obtain ⟨q3, h0, h⟩ := Option.bind_eq_some_iff.mp h
  have hF := hF.trans ((fr_X7_swap h0).sub (fr_ix [0] rfl))
  obtain ⟨y4, h⟩ := fr_bn h
  obtain ⟨y5, h⟩ := fr_bn h
  have hW := fr_wh (l := l_X7_nextOrder) (f := fun s => s.2.2) (k := (fun t => t.2)) (fun s t h => fr_X7_nextOrder_L100 h) h
  exact hF.trans hW
theorem fr_X7_nextOrder_L53  {s : Int32 × Int32 × Mem} {t : (Int32 × Int32 × Mem) ⊕ (Int32 × Mem)} (h : f_X7_nextOrder_L53 s = some t) : Fr (l_X7_nextOrder) s.2.2 ((mS (fun s => s.2.2) (fun t => t.2)) t) := by
  have hF : Fr (l_X7_nextOrder) s.2.2 s.2.2 := Fr.rf
  rcases fr_if h with h | h
  · refine fr_up h (fun r h => ?_)
    exact hF.trans (fr_X7_nextOrder_J79 h)
  · have h := (ck_s h).2
    have h := (ck_s h).2
    rcases fr_if h with h | h
    · refine fr_up h (fun r h => ?_)
      exact hF.trans (fr_X7_nextOrder_J79 h)
    · obtain ⟨y9, h⟩ := fr_bn h
      obtain rfl := Option.some.inj h
      exact hF
theorem fr_X7_nextOrder_J37  {v1 : Int32}  {m : Mem} {t : Int32 × Mem} (h : f_X7_nextOrder_J37 v1 m = some t) : Fr (l_X7_nextOrder) m ((fun t => t.2) t) := by
  have hF : Fr (l_X7_nextOrder) m m := Fr.rf
  rcases fr_if h with h | h
  · obtain ⟨y2, h⟩ := fr_bn h
    have hW := fr_wh (l := l_X7_nextOrder) (f := fun s => s.2.2) (k := (fun t => t.2)) (fun s t h => fr_X7_nextOrder_L53 h) h
    exact hF.trans hW
  · have h := (bz_s h).2
    obtain rfl := Option.some.inj h
    exact hF
theorem fr_X7_nextOrder_L10  {s : Int32 × Mem} {t : (Int32 × Mem) ⊕ (Int32 × Mem)} (h : f_X7_nextOrder_L10 s = some t) : Fr (l_X7_nextOrder) s.2 ((mS (fun s => s.2) (fun t => t.2)) t) := by
  have hF : Fr (l_X7_nextOrder) s.2 s.2 := Fr.rf
  rcases fr_if h with h | h
  · refine fr_up h (fun r h => ?_)
    exact hF.trans (fr_X7_nextOrder_J37 h)
  · have h := (ck_s h).2
    have h := (ck_s h).2
    rcases fr_if h with h | h
    · refine fr_up h (fun r h => ?_)
      exact hF.trans (fr_X7_nextOrder_J37 h)
    · obtain ⟨y10, h⟩ := fr_bn h
      obtain rfl := Option.some.inj h
      exact hF
theorem fr_X7_nextOrder   {m : Mem} {t : Int32 × Mem} (h : f_X7_nextOrder m = some t) : Fr (l_X7_nextOrder) m ((fun t => t.2) t) := by
  have hF : Fr (l_X7_nextOrder) m m := Fr.rf
  obtain ⟨y1, h⟩ := fr_bn h
  have hW := fr_wh (l := l_X7_nextOrder) (f := fun s => s.2) (k := (fun t => t.2)) (fun s t h => fr_X7_nextOrder_L10 h) h
  exact hF.trans hW
theorem fr_X7_tryOrders_L4  {s : Int32 × Int32 × Mem} {t : (Int32 × Int32 × Mem) ⊕ Mem} (h : f_X7_tryOrders_L4 s = some t) : Fr (l_X7_tryOrders) s.2.2 ((mS (fun s => s.2.2) (fun t => t)) t) := by
  have hF : Fr (l_X7_tryOrders) s.2.2 s.2.2 := Fr.rf
  rcases fr_if h with h | h
  · refine fr_up h (fun r h => ?_)
    obtain rfl := Option.some.inj h
    exact hF
  · rcases fr_if h with h | h
    · refine fr_up h (fun r h => ?_)
      obtain rfl := Option.some.inj h
      exact hF
    · have h := (ck_s h).2
      have h := (ck_s h).2
      obtain ⟨q1, h0, h⟩ := Option.bind_eq_some_iff.mp h
      have hF := hF.trans ((fr_X3_hold h0).sub (fr_ix [0, 3, 4, 5, 6, 7, 8, 9, 10, 11, 14, 15, 16, 12, 13, 17, 18, 19, 20] rfl))
      obtain ⟨q2, h0, h⟩ := Option.bind_eq_some_iff.mp h
      have hF := hF.trans ((fr_X7_digits h0).sub (fun _ hq => nomatch hq))
      obtain ⟨q3, h0, h⟩ := Option.bind_eq_some_iff.mp h
      have hF := hF.trans ((fr_X7_compare h0).sub (fr_ix [2] rfl))
      obtain ⟨q4, h0, h⟩ := Option.bind_eq_some_iff.mp h
      have hF := hF.trans ((fr_X7_nextOrder h0).sub (fr_ix [1] rfl))
      obtain ⟨y5, h⟩ := fr_bn h
      obtain rfl := Option.some.inj h
      exact hF
theorem fr_X7_tryOrders   {m : Mem} {t : Mem} (h : f_X7_tryOrders m = some t) : Fr (l_X7_tryOrders) m ((fun t => t) t) := by
  have hF : Fr (l_X7_tryOrders) m m := Fr.rf
  have hW := fr_wh (l := l_X7_tryOrders) (f := fun s => s.2.2) (k := (fun t => t)) (fun s t h => fr_X7_tryOrders_L4 h) h
  exact hF.trans hW
theorem fr_X7_tryTimers_L2  {s : Int32 × Mem} {t : (Int32 × Mem) ⊕ Mem} (h : f_X7_tryTimers_L2 s = some t) : Fr (l_X7_tryTimers) s.2 ((mS (fun s => s.2) (fun t => t)) t) := by
  have hF : Fr (l_X7_tryTimers) s.2 s.2 := Fr.rf
  rcases fr_if h with h | h
  · refine fr_up h (fun r h => ?_)
    obtain rfl := Option.some.inj h
    exact hF
  · have h := (ck_s h).2
    obtain ⟨q1, h0, h⟩ := Option.bind_eq_some_iff.mp h
    have hF := hF.trans ((fr_X3_hold h0).sub (fr_ix [0, 2, 3, 4, 5, 6, 7, 8, 9, 10, 13, 14, 15, 11, 12, 16, 17, 18, 19] rfl))
    obtain ⟨q2, h0, h⟩ := Option.bind_eq_some_iff.mp h
    have hF := hF.trans ((fr_X7_compare h0).sub (fr_ix [1] rfl))
    obtain ⟨y3, h⟩ := fr_bn h
    obtain rfl := Option.some.inj h
    exact hF
theorem fr_X7_tryTimers   {m : Mem} {t : Mem} (h : f_X7_tryTimers m = some t) : Fr (l_X7_tryTimers) m ((fun t => t) t) := by
  have hF : Fr (l_X7_tryTimers) m m := Fr.rf
  have hW := fr_wh (l := l_X7_tryTimers) (f := fun s => s.2) (k := (fun t => t)) (fun s t h => fr_X7_tryTimers_L2 h) h
  exact hF.trans hW
theorem fr_X7_answer_J131  {v1 : Int32} {v2 : Int32}  {m : Mem} {t : Int32 × Mem} (h : f_X7_answer_J131 v1 v2 m = some t) : Fr (l_X7_answer) m ((fun t => t.2) t) := by
  have hF : Fr (l_X7_answer) m m := Fr.rf
  have h := (ck_s h).2
  obtain rfl := Option.some.inj h
  exact hF
theorem fr_X7_answer_J118  {v1 : Int32} {v2 : Int32}  {m : Mem} {t : Int32 × Mem} (h : f_X7_answer_J118 v1 v2 m = some t) : Fr (l_X7_answer) m ((fun t => t.2) t) := by
  have hF : Fr (l_X7_answer) m m := Fr.rf
  have h := (ck_s h).2
  obtain ⟨m5, hF, h⟩ := fr_stI (fr_at 3 rfl) hF h
  exact hF.trans (fr_X7_answer_J131 h)
theorem fr_X7_answer_J40  {v1 : Int32} {v2 : Int32}  {m : Mem} {t : Int32 × Mem} (h : f_X7_answer_J40 v1 v2 m = some t) : Fr (l_X7_answer) m ((fun t => t.2) t) := by
  have hF : Fr (l_X7_answer) m m := Fr.rf
  have h := (ck_s h).2
  rcases fr_if h with h | h
  · exact hF.trans (fr_X7_answer_J131 h)
  · have h := (ck_s h).2
    obtain ⟨m2, hF, h⟩ := fr_stI (fr_at 2 rfl) hF h
    obtain ⟨q3, h0, h⟩ := Option.bind_eq_some_iff.mp h
    have hF := hF.trans ((fr_X8_asTheyCame h0).sub (fr_ix [1] rfl))
    rcases fr_sw h with h | h | h
    · obtain ⟨q4, h0, h⟩ := Option.bind_eq_some_iff.mp h
      have hF := hF.trans ((fr_X7_tryRules h0).sub (fr_ix [0, 2, 4, 5, 6, 7, 8, 9, 10, 11, 12, 13, 14, 15, 16, 17, 18, 19, 20, 21] rfl))
      exact hF.trans (fr_X7_answer_J118 h)
    · obtain ⟨q6, h0, h⟩ := Option.bind_eq_some_iff.mp h
      have hF := hF.trans ((fr_X7_tryOrders h0).sub (fr_ix [0, 1, 2, 4, 5, 6, 7, 8, 9, 10, 11, 12, 13, 14, 15, 16, 17, 18, 19, 20, 21] rfl))
      exact hF.trans (fr_X7_answer_J118 h)
    · obtain ⟨q7, h0, h⟩ := Option.bind_eq_some_iff.mp h
      have hF := hF.trans ((fr_X7_tryTimers h0).sub (fr_ix [0, 2, 4, 5, 6, 7, 8, 9, 10, 11, 12, 13, 14, 15, 16, 17, 18, 19, 20, 21] rfl))
      exact hF.trans (fr_X7_answer_J118 h)
theorem fr_X7_answer  {p1 : Int32} {p2 : Int32} {m : Mem} {t : Int32 × Mem} (h : f_X7_answer p1 p2 m = some t) : Fr (l_X7_answer) m ((fun t => t.2) t) := by
  have hF : Fr (l_X7_answer) m m := Fr.rf
  rcases fr_if h with h | h
  · obtain rfl := Option.some.inj h
    exact hF
  · rcases fr_if h with h | h
    · obtain ⟨q1, h0, h⟩ := Option.bind_eq_some_iff.mp h
      have hF := hF.trans ((fr_X6_isBare h0).sub (fun _ hq => nomatch hq))
      rcases fr_if h with h | h
      · obtain rfl := Option.some.inj h
        exact hF
      · rcases fr_if h with h | h
        · exact hF.trans (fr_X7_answer_J40 h)
        · rcases fr_if h with h | h
          · exact hF.trans (fr_X7_answer_J40 h)
          · obtain rfl := Option.some.inj h
            exact hF
    · obtain rfl := Option.some.inj h
      exact hF
theorem fr_X7_isShown_L18 {sf : Nat} {s : Int32 × Mem} {t : (Int32 × Mem) ⊕ (Int32 × Mem)} (h : f_X7_isShown_L18 sf s = some t) : Fr (l_X7_isShown sf) s.2 ((mS (fun s => s.2) (fun t => t.2)) t) := by
  have hF : Fr (l_X7_isShown sf) s.2 s.2 := Fr.rf
  rcases fr_if h with h | h
  · refine fr_up h (fun r h => ?_)
    have h := (bz_s h).2
    obtain rfl := Option.some.inj h
    exact hF
  · have h := (ck_s h).2
    have h := (ck_s h).2
    rcases fr_if h with h | h
    · obtain ⟨y1, h⟩ := fr_bn h
      obtain rfl := Option.some.inj h
      exact hF
    · refine fr_up h (fun r h => ?_)
      have h := (bz_s h).2
      obtain rfl := Option.some.inj h
      exact hF
theorem fr_X7_isShown {sf : Nat}  {m : Mem} {t : Int32 × Mem} (h : f_X7_isShown sf m = some t) : Fr (l_X7_isShown sf) m ((fun t => t.2) t) := by
  have hF : Fr (l_X7_isShown sf) m m := Fr.rf
  rcases fr_if h with h | h
  · have hW := fr_wh (l := l_X7_isShown sf) (f := fun s => s.2) (k := (fun t => t.2)) (fun s t h => fr_X7_isShown_L18 h) h
    exact hF.trans hW
  · have h := (bz_s h).2
    obtain rfl := Option.some.inj h
    exact hF
theorem fr_X7_rulesOf_L11 {sf : Nat} {s : Int32 × Int32 × Mem} {t : (Int32 × Int32 × Mem) ⊕ (Int32 × Mem)} (h : f_X7_rulesOf_L11 sf s = some t) : Fr (l_X7_rulesOf sf) s.2.2 ((mS (fun s => s.2.2) (fun t => t.2)) t) := by
  have hF : Fr (l_X7_rulesOf sf) s.2.2 s.2.2 := Fr.rf
  rcases fr_if h with h | h
  · refine fr_up h (fun r h => ?_)
    obtain rfl := Option.some.inj h
    exact hF
  · have h := (ck_s h).2
    obtain ⟨q2, h0, h⟩ := Option.bind_eq_some_iff.mp h
    have hF := hF.trans ((fr_X3_hold h0).sub (fr_ix [0, 2, 3, 4, 5, 6, 7, 8, 9, 10, 13, 14, 15, 11, 12, 16, 17, 18, 19] rfl))
    obtain ⟨q3, h0, h⟩ := Option.bind_eq_some_iff.mp h
    have hF := hF.trans ((fr_X7_isShown h0).sub (fun _ hq => nomatch hq))
    rcases fr_if h with h | h
    · obtain ⟨y4, h⟩ := fr_bn h
      obtain ⟨y5, h⟩ := fr_bn h
      obtain rfl := Option.some.inj h
      exact hF
    · obtain ⟨y6, h⟩ := fr_bn h
      obtain ⟨y7, h⟩ := fr_bn h
      obtain rfl := Option.some.inj h
      exact hF
theorem fr_X7_rulesOf {sf : Nat}  {m : Mem} {t : Int32 × Mem} (h : f_X7_rulesOf sf m = some t) : Fr (l_X7_rulesOf sf) m ((fun t => t.2) t) := by
  have hF : Fr (l_X7_rulesOf sf) m m := Fr.rf
  obtain ⟨q1, h0, h⟩ := Option.bind_eq_some_iff.mp h
  have hF := hF.trans ((fr_X8_asTheyCame h0).sub (fr_ix [1] rfl))
  have hW := fr_wh (l := l_X7_rulesOf sf) (f := fun s => s.2.2) (k := (fun t => t.2)) (fun s t h => fr_X7_rulesOf_L11 h) h
  exact hF.trans hW
theorem fr_X7_wishNow  {p1 : Int32} {p2 : Int32} {m : Mem} {t : Int32 × Mem} (h : f_X7_wishNow p1 p2 m = some t) : Fr (l_X7_wishNow) m ((fun t => t.2) t) := by
  have hF : Fr (l_X7_wishNow) m m := Fr.rf
  obtain ⟨q1, h0, h⟩ := Option.bind_eq_some_iff.mp h
  have hF := hF.trans ((fr_X3_clear h0).sub (fr_ix [1, 2, 3, 4, 5, 6, 10, 11, 12, 8, 9, 13] rfl))
  obtain ⟨q2, h0, h⟩ := Option.bind_eq_some_iff.mp h
  have hF := hF.trans ((fr_X3_namesOf h0).sub (fr_ix [7] rfl))
  obtain ⟨q3, h0, h⟩ := Option.bind_eq_some_iff.mp h
  have hF := hF.trans ((fr_X2_value h0).sub (fr_ix [0] rfl))
  obtain rfl := Option.some.inj h
  exact hF
theorem fr_X8_act  {p1 : Int32} {p2 : Int32} {p3 : Int32} {m : Mem} {t : Int32 × Mem} (h : f_X8_act p1 p2 p3 m = some t) : Fr (l_X8_act) m ((fun t => t.2) t) := by
  have hF : Fr (l_X8_act) m m := Fr.rf
  obtain ⟨m1, hF, h⟩ := fr_stI (fr_at 1 rfl) hF h
  rcases fr_if h with h | h
  · obtain rfl := Option.some.inj h
    exact hF
  · rcases fr_if h with h | h
    · obtain rfl := Option.some.inj h
      exact hF
    · rcases fr_if h with h | h
      · obtain rfl := Option.some.inj h
        exact hF
      · rcases fr_if h with h | h
        · obtain ⟨q2, h0, h⟩ := Option.bind_eq_some_iff.mp h
          have hF := hF.trans ((fr_X0_begin h0).sub (fr_ix [0, 1, 2, 3] rfl))
          obtain rfl := Option.some.inj h
          exact hF
        · obtain rfl := Option.some.inj h
          exact hF
theorem fr_X8_body  {p1 : Int32} {m : Mem} {t : Int32 × Mem} (h : f_X8_body p1 m = some t) : Fr (l_X8_body) m ((fun t => t.2) t) := by
  have hF : Fr (l_X8_body) m m := Fr.rf
  rcases fr_if h with h | h
  · obtain rfl := Option.some.inj h
    exact hF
  · rcases fr_if h with h | h
    · rcases fr_if h with h | h
      · obtain ⟨q1, h0, h⟩ := Option.bind_eq_some_iff.mp h
        have hF := hF.trans ((fr_X0_addBody h0).sub (fr_ix [0, 1] rfl))
        obtain rfl := Option.some.inj h
        exact hF
      · obtain rfl := Option.some.inj h
        exact hF
    · obtain rfl := Option.some.inj h
      exact hF
theorem fr_X8_card  {p1 : Int32} {p2 : Int32} {p3 : Int32} {m : Mem} {t : Int32 × Mem} (h : f_X8_card p1 p2 p3 m = some t) : Fr (l_X8_card) m ((fun t => t.2) t) := by
  have hF : Fr (l_X8_card) m m := Fr.rf
  obtain ⟨q1, h0, h⟩ := Option.bind_eq_some_iff.mp h
  have hF := hF.trans ((fr_X6_isCard h0).sub (fun _ hq => nomatch hq))
  rcases fr_if h with h | h
  · rcases fr_if h with h | h
    · obtain ⟨q2, h0, h⟩ := Option.bind_eq_some_iff.mp h
      have hF := hF.trans ((fr_X6_addCard h0).sub (fr_ix [0, 1, 2, 3, 4, 5, 6] rfl))
      obtain rfl := Option.some.inj h
      exact hF
    · obtain rfl := Option.some.inj h
      exact hF
  · obtain rfl := Option.some.inj h
    exact hF
theorem fr_X8_isNoShelf  {p1 : Int32} {m : Mem} {t : Int32 × Mem} (h : f_X8_isNoShelf p1 m = some t) : Fr (l_X8_isNoShelf) m ((fun t => t.2) t) := by
  have hF : Fr (l_X8_isNoShelf) m m := Fr.rf
  rcases fr_if h with h | h
  · have h := (bz_s h).2
    obtain rfl := Option.some.inj h
    exact hF
  · rcases fr_if h with h | h
    · have h := (bz_s h).2
      obtain rfl := Option.some.inj h
      exact hF
    · have h := (bz_s h).2
      obtain rfl := Option.some.inj h
      exact hF
theorem fr_X8_cards  {p1 : Int32} {p2 : Int32} {p3 : Int32} {m : Mem} {t : Int32 × Mem} (h : f_X8_cards p1 p2 p3 m = some t) : Fr (l_X8_cards) m ((fun t => t.2) t) := by
  have hF : Fr (l_X8_cards) m m := Fr.rf
  obtain ⟨q1, h0, h⟩ := Option.bind_eq_some_iff.mp h
  have hF := hF.trans ((fr_X8_isNoShelf h0).sub (fun _ hq => nomatch hq))
  rcases fr_if h with h | h
  · obtain rfl := Option.some.inj h
    exact hF
  · rcases fr_if h with h | h
    · obtain rfl := Option.some.inj h
      exact hF
    · rcases fr_if h with h | h
      · obtain ⟨s2, hs2, h⟩ := fr_shelf h
        rcases fr_if h with h | h
        · rcases fr_if h with h | h
          · obtain rfl := Option.some.inj h
            exact hF
          · obtain ⟨q3, h0, h⟩ := Option.bind_eq_some_iff.mp h
            have hF := hF.trans ((fr_X6_addCards h0).sub (fr_ix [0, 1, 2, 3, 4, 5, 6] rfl))
            obtain rfl := Option.some.inj h
            exact hF
        · obtain rfl := Option.some.inj h
          exact hF
      · obtain rfl := Option.some.inj h
        exact hF
theorem fr_X8_count  {p1 : Int32} {m : Mem} {t : Int32 × Mem} (h : f_X8_count p1 m = some t) : Fr (l_X8_count) m ((fun t => t.2) t) := by
  have hF : Fr (l_X8_count) m m := Fr.rf
  rcases fr_sw h with h | h | h | h | h | h | h | h
  · obtain rfl := Option.some.inj h
    exact hF
  · obtain rfl := Option.some.inj h
    exact hF
  · obtain rfl := Option.some.inj h
    exact hF
  · obtain rfl := Option.some.inj h
    exact hF
  · obtain rfl := Option.some.inj h
    exact hF
  · obtain rfl := Option.some.inj h
    exact hF
  · obtain rfl := Option.some.inj h
    exact hF
  · obtain rfl := Option.some.inj h
    exact hF
theorem fr_X8_did  {p1 : Int32} {p2 : Int32} {m : Mem} {t : Int32 × Mem} (h : f_X8_did p1 p2 m = some t) : Fr (l_X8_did) m ((fun t => t.2) t) := by
  have hF : Fr (l_X8_did) m m := Fr.rf
  rcases fr_if h with h | h
  · obtain rfl := Option.some.inj h
    exact hF
  · rcases fr_if h with h | h
    · rcases fr_if h with h | h
      · obtain ⟨q1, h0, h⟩ := Option.bind_eq_some_iff.mp h
        have hF := hF.trans ((fr_X4_hadPerson h0).sub (fun _ hq => nomatch hq))
        rcases fr_if h with h | h
        · obtain rfl := Option.some.inj h
          exact hF
        · obtain ⟨q2, h0, h⟩ := Option.bind_eq_some_iff.mp h
          have hF := hF.trans ((fr_X4_ofPerson h0).sub (fun _ hq => nomatch hq))
          obtain rfl := Option.some.inj h
          exact hF
      · obtain rfl := Option.some.inj h
        exact hF
    · obtain rfl := Option.some.inj h
      exact hF
theorem fr_X8_element  {p1 : Int32} {p2 : Int32} {m : Mem} {t : Int64 × Mem} (h : f_X8_element p1 p2 m = some t) : Fr (l_X8_element) m ((fun t => t.2) t) := by
  have hF : Fr (l_X8_element) m m := Fr.rf
  obtain ⟨q1, h0, h⟩ := Option.bind_eq_some_iff.mp h
  have hF := hF.trans ((fr_X8_isNoShelf h0).sub (fun _ hq => nomatch hq))
  rcases fr_if h with h | h
  · obtain rfl := Option.some.inj h
    exact hF
  · obtain ⟨s2, hs2, h⟩ := fr_shelf h
    obtain ⟨q3, h0, h⟩ := Option.bind_eq_some_iff.mp h
    have hF := hF.trans ((fr_X5_refusalAt h0).sub (fun _ hq => nomatch hq))
    rcases fr_if h with h | h
    · obtain ⟨s4, hs4, h⟩ := fr_shelf h
      have h := (ck_s h).2
      obtain rfl := Option.some.inj h
      exact hF
    · obtain rfl := Option.some.inj h
      exact hF
theorem fr_X8_feed  {p1 : Int32} {m : Mem} {t : Int32 × Mem} (h : f_X8_feed p1 m = some t) : Fr (l_X8_feed) m ((fun t => t.2) t) := by
  have hF : Fr (l_X8_feed) m m := Fr.rf
  rcases fr_if h with h | h
  · obtain rfl := Option.some.inj h
    exact hF
  · rcases fr_if h with h | h
    · obtain ⟨q1, h0, h⟩ := Option.bind_eq_some_iff.mp h
      have hF := hF.trans ((fr_X2_isFull h0).sub (fun _ hq => nomatch hq))
      rcases fr_if h with h | h
      · obtain ⟨q2, h0, h⟩ := Option.bind_eq_some_iff.mp h
        have hF := hF.trans ((fr_X2_write h0).sub (fr_ix [0, 1] rfl))
        obtain rfl := Option.some.inj h
        exact hF
      · obtain rfl := Option.some.inj h
        exact hF
    · obtain rfl := Option.some.inj h
      exact hF
theorem fr_X8_film  {p1 : Int32} {m : Mem} {t : Int32 × Mem} (h : f_X8_film p1 m = some t) : Fr (l_X8_film) m ((fun t => t.2) t) := by
  have hF : Fr (l_X8_film) m m := Fr.rf
  obtain ⟨q1, h0, h⟩ := Option.bind_eq_some_iff.mp h
  have hF := hF.trans ((fr_X8_isNoShelf h0).sub (fun _ hq => nomatch hq))
  rcases fr_if h with h | h
  · obtain ⟨s2, hs2, h⟩ := fr_shelf h
    rcases fr_if h with h | h
    · rcases fr_if h with h | h
      · obtain ⟨q3, h0, h⟩ := Option.bind_eq_some_iff.mp h
        have hF := hF.trans ((fr_X6_isBare h0).sub (fun _ hq => nomatch hq))
        rcases fr_if h with h | h
        · obtain ⟨q4, h0, h⟩ := Option.bind_eq_some_iff.mp h
          have hF := hF.trans ((fr_X7_rulesOf h0).sub (fr_ix [0, 1, 2, 3, 4, 5, 6, 7, 8, 9, 10, 11, 12, 13, 14, 15, 16, 17, 18, 19] rfl))
          obtain rfl := Option.some.inj h
          exact hF
        · obtain rfl := Option.some.inj h
          exact hF
      · obtain rfl := Option.some.inj h
        exact hF
    · obtain rfl := Option.some.inj h
      exact hF
  · obtain rfl := Option.some.inj h
    exact hF
theorem fr_X8_first  {p1 : Int32} {p2 : Int32} {m : Mem} {t : Int32 × Mem} (h : f_X8_first p1 p2 m = some t) : Fr (l_X8_first) m ((fun t => t.2) t) := by
  have hF : Fr (l_X8_first) m m := Fr.rf
  obtain ⟨q1, h0, h⟩ := Option.bind_eq_some_iff.mp h
  have hF := hF.trans ((fr_X4_hadCard h0).sub (fun _ hq => nomatch hq))
  rcases fr_if h with h | h
  · obtain rfl := Option.some.inj h
    exact hF
  · rcases fr_if h with h | h
    · obtain rfl := Option.some.inj h
      exact hF
    · rcases fr_if h with h | h
      · rcases fr_if h with h | h
        · have h := (ck_s h).2
          obtain rfl := Option.some.inj h
          exact hF
        · have h := (ck_s h).2
          obtain rfl := Option.some.inj h
          exact hF
      · obtain rfl := Option.some.inj h
        exact hF
theorem fr_X8_keep  {p1 : Int32} {p2 : Int32} {m : Mem} {t : Int32 × Mem} (h : f_X8_keep p1 p2 m = some t) : Fr (l_X8_keep) m ((fun t => t.2) t) := by
  have hF : Fr (l_X8_keep) m m := Fr.rf
  obtain ⟨q1, h0, h⟩ := Option.bind_eq_some_iff.mp h
  have hF := hF.trans ((fr_X8_isNoShelf h0).sub (fun _ hq => nomatch hq))
  rcases fr_if h with h | h
  · obtain rfl := Option.some.inj h
    exact hF
  · rcases fr_if h with h | h
    · obtain rfl := Option.some.inj h
      exact hF
    · rcases fr_if h with h | h
      · obtain ⟨s2, hs2, h⟩ := fr_shelf h
        obtain ⟨q3, h0, h⟩ := Option.bind_eq_some_iff.mp h
        have hF := hF.trans ((fr_X5_holdBody h0).sub (by rcases hs2 with rfl | rfl | rfl | rfl | rfl | rfl <;> simp [l_X5_holdBody, l_X8_keep]))
        obtain rfl := Option.some.inj h
        exact hF
      · obtain rfl := Option.some.inj h
        exact hF
theorem fr_X8_law   {m : Mem} {t : Int32 × Mem} (h : f_X8_law m = some t) : Fr (l_X8_law) m ((fun t => t.2) t) := by
  have hF : Fr (l_X8_law) m m := Fr.rf
  obtain ⟨q1, h0, h⟩ := Option.bind_eq_some_iff.mp h
  have hF := hF.trans ((fr_X2_enact h0).sub (fr_ix [0, 1, 2, 4, 5, 6, 7, 8] rfl))
  rcases fr_if h with h | h
  · obtain ⟨m2, hF, h⟩ := fr_stI (fr_at 3 rfl) hF h
    obtain rfl := Option.some.inj h
    exact hF
  · obtain rfl := Option.some.inj h
    exact hF
theorem fr_X8_meet  {p1 : Int32} {m : Mem} {t : Int32 × Mem} (h : f_X8_meet p1 m = some t) : Fr (l_X8_meet) m ((fun t => t.2) t) := by
  have hF : Fr (l_X8_meet) m m := Fr.rf
  obtain ⟨q1, h0, h⟩ := Option.bind_eq_some_iff.mp h
  have hF := hF.trans ((fr_X4_takesOrder h0).sub (fr_ix [3] rfl))
  rcases fr_if h with h | h
  · obtain ⟨q2, h0, h⟩ := Option.bind_eq_some_iff.mp h
    have hF := hF.trans ((fr_X6_isBare h0).sub (fun _ hq => nomatch hq))
    rcases fr_if h with h | h
    · obtain ⟨q3, h0, h⟩ := Option.bind_eq_some_iff.mp h
      have hF := hF.trans ((fr_X4_hold h0).sub (fr_ix [0, 1, 2, 4, 5, 6, 7, 8, 9, 10, 11, 12, 13, 14, 15, 16, 17, 18, 19, 20, 21, 22, 23, 24, 25, 26, 27, 28, 29, 30, 31, 32, 33, 34, 35, 36, 37, 38, 39, 40, 41, 42, 43, 44] rfl))
      obtain rfl := Option.some.inj h
      exact hF
    · obtain rfl := Option.some.inj h
      exact hF
  · obtain rfl := Option.some.inj h
    exact hF
theorem fr_X8_of_J54  {v1 : Int32} {v2 : Int32}  {m : Mem} {t : Int32 × Mem} (h : f_X8_of_J54 v1 v2 m = some t) : Fr (l_X8_of) m ((fun t => t.2) t) := by
  have hF : Fr (l_X8_of) m m := Fr.rf
  rcases fr_if h with h | h
  · obtain rfl := Option.some.inj h
    exact hF
  · rcases fr_if h with h | h
    · have h := (ck_s h).2
      obtain rfl := Option.some.inj h
      exact hF
    · have h := (ck_s h).2
      obtain rfl := Option.some.inj h
      exact hF
theorem fr_X8_of_J42  {v1 : Int32} {v2 : Int32}  {m : Mem} {t : Int32 × Mem} (h : f_X8_of_J42 v1 v2 m = some t) : Fr (l_X8_of) m ((fun t => t.2) t) := by
  have hF : Fr (l_X8_of) m m := Fr.rf
  rcases fr_if h with h | h
  · exact hF.trans (fr_X8_of_J54 h)
  · rcases fr_if h with h | h
    · rcases fr_if h with h | h
      · obtain rfl := Option.some.inj h
        exact hF
      · rcases fr_if h with h | h
        · obtain rfl := Option.some.inj h
          exact hF
        · rcases fr_if h with h | h
          · obtain rfl := Option.some.inj h
            exact hF
          · obtain ⟨q1, h0, h⟩ := Option.bind_eq_some_iff.mp h
            have hF := hF.trans ((fr_X6_ofCard h0).sub (fun _ hq => nomatch hq))
            obtain rfl := Option.some.inj h
            exact hF
    · exact hF.trans (fr_X8_of_J54 h)
theorem fr_X8_of  {p1 : Int32} {p2 : Int32} {m : Mem} {t : Int32 × Mem} (h : f_X8_of p1 p2 m = some t) : Fr (l_X8_of) m ((fun t => t.2) t) := by
  have hF : Fr (l_X8_of) m m := Fr.rf
  rcases fr_if h with h | h
  · rcases fr_if h with h | h
    · exact hF.trans (fr_X8_of_J42 h)
    · rcases fr_if h with h | h
      · exact hF.trans (fr_X8_of_J42 h)
      · rcases fr_if h with h | h
        · obtain rfl := Option.some.inj h
          exact hF
        · obtain ⟨q2, h0, h⟩ := Option.bind_eq_some_iff.mp h
          have hF := hF.trans ((fr_X6_ofPerson h0).sub (fun _ hq => nomatch hq))
          obtain rfl := Option.some.inj h
          exact hF
  · obtain rfl := Option.some.inj h
    exact hF
theorem fr_X8_order  {p1 : Int32} {m : Mem} {t : Int32 × Mem} (h : f_X8_order p1 m = some t) : Fr (l_X8_order) m ((fun t => t.2) t) := by
  have hF : Fr (l_X8_order) m m := Fr.rf
  obtain ⟨q1, h0, h⟩ := Option.bind_eq_some_iff.mp h
  have hF := hF.trans ((fr_X7_answer h0).sub (fr_ix [0, 1, 2, 3, 4, 5, 6, 7, 8, 9, 10, 11, 12, 13, 14, 15, 16, 17, 18, 19, 20, 21] rfl))
  obtain rfl := Option.some.inj h
  exact hF
theorem fr_X8_person  {p1 : Int32} {p2 : Int32} {m : Mem} {t : Int32 × Mem} (h : f_X8_person p1 p2 m = some t) : Fr (l_X8_person) m ((fun t => t.2) t) := by
  have hF : Fr (l_X8_person) m m := Fr.rf
  rcases fr_if h with h | h
  · obtain rfl := Option.some.inj h
    exact hF
  · rcases fr_if h with h | h
    · obtain rfl := Option.some.inj h
      exact hF
    · rcases fr_if h with h | h
      · obtain rfl := Option.some.inj h
        exact hF
      · rcases fr_if h with h | h
        · rcases fr_if h with h | h
          · obtain ⟨q1, h0, h⟩ := Option.bind_eq_some_iff.mp h
            have hF := hF.trans ((fr_X6_addPerson h0).sub (fr_ix [0, 1, 2, 3, 4, 5] rfl))
            obtain rfl := Option.some.inj h
            exact hF
          · obtain rfl := Option.some.inj h
            exact hF
        · obtain rfl := Option.some.inj h
          exact hF
theorem fr_X8_put  {p1 : Int32} {p2 : Int32} {p3 : Int64} {m : Mem} {t : Int32 × Mem} (h : f_X8_put p1 p2 p3 m = some t) : Fr (l_X8_put) m ((fun t => t.2) t) := by
  have hF : Fr (l_X8_put) m m := Fr.rf
  obtain ⟨q1, h0, h⟩ := Option.bind_eq_some_iff.mp h
  have hF := hF.trans ((fr_X8_isNoShelf h0).sub (fun _ hq => nomatch hq))
  rcases fr_if h with h | h
  · obtain ⟨s2, hs2, h⟩ := fr_shelf h
    obtain ⟨q3, h0, h⟩ := Option.bind_eq_some_iff.mp h
    have hF := hF.trans ((fr_X5_refusalAt h0).sub (fun _ hq => nomatch hq))
    rcases fr_if h with h | h
    · obtain ⟨s4, hs4, h⟩ := fr_shelf h
      obtain ⟨q5, h0, h⟩ := Option.bind_eq_some_iff.mp h
      have hF := hF.trans ((fr_X5_store h0).sub (by rcases hs4 with rfl | rfl | rfl | rfl | rfl | rfl <;> simp [l_X5_store, l_X8_put]))
      obtain rfl := Option.some.inj h
      exact hF
    · obtain rfl := Option.some.inj h
      exact hF
  · obtain rfl := Option.some.inj h
    exact hF
theorem fr_X8_row  {p1 : Int32} {p2 : Int32} {p3 : Int32} {m : Mem} {t : Int32 × Mem} (h : f_X8_row p1 p2 p3 m = some t) : Fr (l_X8_row) m ((fun t => t.2) t) := by
  have hF : Fr (l_X8_row) m m := Fr.rf
  obtain ⟨q1, h0, h⟩ := Option.bind_eq_some_iff.mp h
  have hF := hF.trans ((fr_X8_isNoShelf h0).sub (fun _ hq => nomatch hq))
  rcases fr_if h with h | h
  · obtain rfl := Option.some.inj h
    exact hF
  · rcases fr_if h with h | h
    · obtain rfl := Option.some.inj h
      exact hF
    · rcases fr_if h with h | h
      · obtain rfl := Option.some.inj h
        exact hF
      · rcases fr_if h with h | h
        · rcases fr_if h with h | h
          · obtain ⟨s2, hs2, h⟩ := fr_shelf h
            obtain ⟨q3, h0, h⟩ := Option.bind_eq_some_iff.mp h
            have hF := hF.trans ((fr_X5_holdRow h0).sub (by rcases hs2 with rfl | rfl | rfl | rfl | rfl | rfl <;> simp [l_X5_holdRow, l_X8_row]))
            obtain rfl := Option.some.inj h
            exact hF
          · obtain rfl := Option.some.inj h
            exact hF
        · obtain rfl := Option.some.inj h
          exact hF
theorem fr_X8_rule  {p1 : Int32} {m : Mem} {t : Int32 × Mem} (h : f_X8_rule p1 m = some t) : Fr (l_X8_rule) m ((fun t => t.2) t) := by
  have hF : Fr (l_X8_rule) m m := Fr.rf
  obtain ⟨q1, h0, h⟩ := Option.bind_eq_some_iff.mp h
  have hF := hF.trans ((fr_X7_answer h0).sub (fr_ix [0, 1, 2, 3, 4, 5, 6, 7, 8, 9, 10, 11, 12, 13, 14, 15, 16, 17, 18, 19, 20, 21] rfl))
  obtain rfl := Option.some.inj h
  exact hF
theorem fr_X8_saying  {p1 : Int32} {p2 : Int32} {m : Mem} {t : Int32 × Mem} (h : f_X8_saying p1 p2 m = some t) : Fr (l_X8_saying) m ((fun t => t.2) t) := by
  have hF : Fr (l_X8_saying) m m := Fr.rf
  rcases fr_if h with h | h
  · obtain rfl := Option.some.inj h
    exact hF
  · rcases fr_if h with h | h
    · rcases fr_if h with h | h
      · rcases fr_if h with h | h
        · obtain rfl := Option.some.inj h
          exact hF
        · rcases fr_if h with h | h
          · have h := (ck_s h).2
            obtain rfl := Option.some.inj h
            exact hF
          · obtain rfl := Option.some.inj h
            exact hF
      · obtain rfl := Option.some.inj h
        exact hF
    · obtain rfl := Option.some.inj h
      exact hF
theorem fr_X8_set  {p1 : Int32} {p2 : Int32} {m : Mem} {t : Int32 × Mem} (h : f_X8_set p1 p2 m = some t) : Fr (l_X8_set) m ((fun t => t.2) t) := by
  have hF : Fr (l_X8_set) m m := Fr.rf
  rcases fr_if h with h | h
  · obtain rfl := Option.some.inj h
    exact hF
  · rcases fr_if h with h | h
    · obtain rfl := Option.some.inj h
      exact hF
    · have h := (ck_s h).2
      rcases fr_if h with h | h
      · obtain rfl := Option.some.inj h
        exact hF
      · have h := (ck_s h).2
        rcases fr_if h with h | h
        · have h := (ck_s h).2
          obtain ⟨y1, h⟩ := fr_bn h
          have h := (ck_s h).2
          obtain ⟨m2, hF, h⟩ := fr_stI (fr_at 0 rfl) hF h
          obtain ⟨m3, hF, h⟩ := fr_stI (fr_at 1 rfl) hF h
          obtain rfl := Option.some.inj h
          exact hF
        · obtain rfl := Option.some.inj h
          exact hF
theorem fr_X8_shift  {p1 : Int32} {p2 : Int32} {p3 : Int32} {p4 : Int32} {p5 : Int32} {m : Mem} {t : Int32 × Mem} (h : f_X8_shift p1 p2 p3 p4 p5 m = some t) : Fr (l_X8_shift) m ((fun t => t.2) t) := by
  have hF : Fr (l_X8_shift) m m := Fr.rf
  obtain ⟨q1, h0, h⟩ := Option.bind_eq_some_iff.mp h
  have hF := hF.trans ((fr_X8_isNoShelf h0).sub (fun _ hq => nomatch hq))
  rcases fr_if h with h | h
  · obtain rfl := Option.some.inj h
    exact hF
  · obtain ⟨q2, h0, h⟩ := Option.bind_eq_some_iff.mp h
    have hF := hF.trans ((fr_X8_isNoShelf h0).sub (fun _ hq => nomatch hq))
    rcases fr_if h with h | h
    · obtain ⟨s3, hs3, h⟩ := fr_shelf h
      obtain ⟨s4, hs4, h⟩ := fr_shelf h
      rcases fr_if h with h | h
      · obtain rfl := Option.some.inj h
        exact hF
      · rcases fr_if h with h | h
        · rcases fr_if h with h | h
          · obtain rfl := Option.some.inj h
            exact hF
          · rcases fr_if h with h | h
            · obtain ⟨q5, h0, h⟩ := Option.bind_eq_some_iff.mp h
              have hF := hF.trans ((fr_X5_hasRun h0).sub (fun _ hq => nomatch hq))
              rcases fr_if h with h | h
              · obtain rfl := Option.some.inj h
                exact hF
              · obtain ⟨q6, h0, h⟩ := Option.bind_eq_some_iff.mp h
                have hF := hF.trans ((fr_X5_hasRun h0).sub (fun _ hq => nomatch hq))
                rcases fr_if h with h | h
                · have h := (cpk_s h).2
                  obtain ⟨m7, hF, h⟩ := fr_cpJ (by rcases hs4 with rfl | rfl | rfl | rfl | rfl | rfl <;> simp [l_X8_shift]) hF h
                  obtain rfl := Option.some.inj h
                  exact hF
                · obtain rfl := Option.some.inj h
                  exact hF
            · obtain rfl := Option.some.inj h
              exact hF
        · obtain rfl := Option.some.inj h
          exact hF
    · obtain rfl := Option.some.inj h
      exact hF
theorem fr_X8_taken  {p1 : Int32} {p2 : Int32} {m : Mem} {t : Int32 × Mem} (h : f_X8_taken p1 p2 m = some t) : Fr (l_X8_taken) m ((fun t => t.2) t) := by
  have hF : Fr (l_X8_taken) m m := Fr.rf
  obtain ⟨q1, h0, h⟩ := Option.bind_eq_some_iff.mp h
  have hF := hF.trans ((fr_X8_isNoShelf h0).sub (fun _ hq => nomatch hq))
  rcases fr_if h with h | h
  · obtain rfl := Option.some.inj h
    exact hF
  · rcases fr_if h with h | h
    · obtain rfl := Option.some.inj h
      exact hF
    · rcases fr_if h with h | h
      · obtain ⟨s2, hs2, h⟩ := fr_shelf h
        rcases fr_if h with h | h
        · rcases fr_if h with h | h
          · obtain ⟨q3, h0, h⟩ := Option.bind_eq_some_iff.mp h
            have hF := hF.trans ((fr_X0_kindOf h0).sub (fun _ hq => nomatch hq))
            obtain ⟨q4, h0, h⟩ := Option.bind_eq_some_iff.mp h
            have hF := hF.trans ((fr_X0_isUnder h0).sub (fun _ hq => nomatch hq))
            rcases fr_if h with h | h
            · obtain rfl := Option.some.inj h
              exact hF
            · obtain rfl := Option.some.inj h
              exact hF
          · obtain rfl := Option.some.inj h
            exact hF
        · obtain rfl := Option.some.inj h
          exact hF
      · obtain rfl := Option.some.inj h
        exact hF
theorem fr_X8_thing  {p1 : Int32} {p2 : Int32} {m : Mem} {t : Int32 × Mem} (h : f_X8_thing p1 p2 m = some t) : Fr (l_X8_thing) m ((fun t => t.2) t) := by
  have hF : Fr (l_X8_thing) m m := Fr.rf
  rcases fr_if h with h | h
  · obtain rfl := Option.some.inj h
    exact hF
  · rcases fr_if h with h | h
    · obtain rfl := Option.some.inj h
      exact hF
    · rcases fr_if h with h | h
      · obtain rfl := Option.some.inj h
        exact hF
      · rcases fr_if h with h | h
        · rcases fr_if h with h | h
          · obtain ⟨q1, h0, h⟩ := Option.bind_eq_some_iff.mp h
            have hF := hF.trans ((fr_X6_addThing h0).sub (fr_ix [0, 1, 2, 3] rfl))
            obtain rfl := Option.some.inj h
            exact hF
          · obtain rfl := Option.some.inj h
            exact hF
        · obtain rfl := Option.some.inj h
          exact hF
theorem fr_X8_times  {p1 : Int32} {m : Mem} {t : Int32 × Mem} (h : f_X8_times p1 m = some t) : Fr (l_X8_times) m ((fun t => t.2) t) := by
  have hF : Fr (l_X8_times) m m := Fr.rf
  obtain ⟨q1, h0, h⟩ := Option.bind_eq_some_iff.mp h
  have hF := hF.trans ((fr_X7_answer h0).sub (fr_ix [0, 1, 2, 3, 4, 5, 6, 7, 8, 9, 10, 11, 12, 13, 14, 15, 16, 17, 18, 19, 20, 21] rfl))
  obtain rfl := Option.some.inj h
  exact hF
theorem fr_X8_told  {p1 : Int32} {m : Mem} {t : Int32 × Mem} (h : f_X8_told p1 m = some t) : Fr (l_X8_told) m ((fun t => t.2) t) := by
  have hF : Fr (l_X8_told) m m := Fr.rf
  rcases fr_if h with h | h
  · obtain rfl := Option.some.inj h
    exact hF
  · rcases fr_if h with h | h
    · rcases fr_if h with h | h
      · obtain rfl := Option.some.inj h
        exact hF
      · have h := (ck_s h).2
        obtain rfl := Option.some.inj h
        exact hF
    · obtain rfl := Option.some.inj h
      exact hF
theorem fr_X8_took  {p1 : Int32} {p2 : Int32} {m : Mem} {t : Int32 × Mem} (h : f_X8_took p1 p2 m = some t) : Fr (l_X8_took) m ((fun t => t.2) t) := by
  have hF : Fr (l_X8_took) m m := Fr.rf
  obtain ⟨q1, h0, h⟩ := Option.bind_eq_some_iff.mp h
  have hF := hF.trans ((fr_X4_hadThing h0).sub (fun _ hq => nomatch hq))
  rcases fr_if h with h | h
  · obtain rfl := Option.some.inj h
    exact hF
  · rcases fr_if h with h | h
    · obtain rfl := Option.some.inj h
      exact hF
    · rcases fr_if h with h | h
      · rcases fr_if h with h | h
        · have h := (ck_s h).2
          obtain rfl := Option.some.inj h
          exact hF
        · have h := (ck_s h).2
          obtain rfl := Option.some.inj h
          exact hF
      · obtain rfl := Option.some.inj h
        exact hF
theorem fr_X8_trace  {p1 : Int32} {m : Mem} {t : Int32 × Mem} (h : f_X8_trace p1 m = some t) : Fr (l_X8_trace) m ((fun t => t.2) t) := by
  have hF : Fr (l_X8_trace) m m := Fr.rf
  rcases fr_if h with h | h
  · obtain rfl := Option.some.inj h
    exact hF
  · rcases fr_if h with h | h
    · obtain rfl := Option.some.inj h
      exact hF
    · rcases fr_if h with h | h
      · have h := (ck_s h).2
        obtain rfl := Option.some.inj h
        exact hF
      · obtain rfl := Option.some.inj h
        exact hF
theorem fr_X8_wish  {p1 : Int32} {p2 : Int32} {m : Mem} {t : Int32 × Mem} (h : f_X8_wish p1 p2 m = some t) : Fr (l_X8_wish) m ((fun t => t.2) t) := by
  have hF : Fr (l_X8_wish) m m := Fr.rf
  rcases fr_if h with h | h
  · obtain rfl := Option.some.inj h
    exact hF
  · rcases fr_if h with h | h
    · obtain rfl := Option.some.inj h
      exact hF
    · rcases fr_if h with h | h
      · obtain rfl := Option.some.inj h
        exact hF
      · rcases fr_if h with h | h
        · obtain ⟨q1, h0, h⟩ := Option.bind_eq_some_iff.mp h
          have hF := hF.trans ((fr_X7_wishNow h0).sub (fr_ix [0, 1, 2, 3, 4, 5, 6, 7, 8, 9, 10, 11, 12, 13] rfl))
          obtain rfl := Option.some.inj h
          exact hF
        · obtain rfl := Option.some.inj h
          exact hF
theorem fr_X9_above  {p1 : Int32} {m : Mem} {t : Int32 × Mem} (h : f_X9_above p1 m = some t) : Fr (l_X9_above) m ((fun t => t.2) t) := by
  have hF : Fr (l_X9_above) m m := Fr.rf
  rcases fr_if h with h | h
  · rcases fr_if h with h | h
    · rcases fr_if h with h | h
      · obtain rfl := Option.some.inj h
        exact hF
      · obtain rfl := Option.some.inj h
        exact hF
    · obtain rfl := Option.some.inj h
      exact hF
  · obtain rfl := Option.some.inj h
    exact hF
theorem fr_X9_within  {p1 : Int64} {p2 : Int64} {p3 : Int64} {m : Mem} {t : Int32 × Mem} (h : f_X9_within p1 p2 p3 m = some t) : Fr (l_X9_within) m ((fun t => t.2) t) := by
  have hF : Fr (l_X9_within) m m := Fr.rf
  rcases fr_if h with h | h
  · have h := (bz_s h).2
    obtain rfl := Option.some.inj h
    exact hF
  · rcases fr_if h with h | h
    · have h := (bz_s h).2
      obtain rfl := Option.some.inj h
      exact hF
    · have h := (bz_s h).2
      obtain rfl := Option.some.inj h
      exact hF
theorem fr_X9_isBody  {p1 : Int32} {m : Mem} {t : Int32 × Mem} (h : f_X9_isBody p1 m = some t) : Fr (l_X9_isBody) m ((fun t => t.2) t) := by
  have hF : Fr (l_X9_isBody) m m := Fr.rf
  obtain ⟨q1, h0, h⟩ := Option.bind_eq_some_iff.mp h
  have hF := hF.trans ((fr_X9_within h0).sub (fun _ hq => nomatch hq))
  have h := (bz_s h).2
  obtain rfl := Option.some.inj h
  exact hF
theorem fr_X9_begins  {p1 : Int32} {m : Mem} {t : Mem} (h : f_X9_begins p1 m = some t) : Fr (l_X9_begins) m ((fun t => t) t) := by
  have hF : Fr (l_X9_begins) m m := Fr.rf
  rcases fr_if h with h | h
  · obtain ⟨m1, hF, h⟩ := fr_stI (fr_at 1 rfl) hF h
    obtain rfl := Option.some.inj h
    exact hF
  · have h := (ck_s h).2
    obtain ⟨m2, hF, h⟩ := fr_stI (fr_at 0 rfl) hF h
    obtain ⟨m3, hF, h⟩ := fr_stI (fr_at 1 rfl) hF h
    obtain rfl := Option.some.inj h
    exact hF
theorem fr_X9_knowsAs_B {rc : Int32 → Int32 → Mem → Option (Int32 × Mem)} (hrf : ∀ (m : Mem) (t : Int32 × Mem) (p1 : Int32) (p2 : Int32), rc p1 p2 m = some t → Fr l_X9_knowsAs m ((fun t => t.2) t))  {p1 : Int32} {p2 : Int32} {m : Mem} {t : Int32 × Mem} (h : f_X9_knowsAs_B rc p1 p2 m = some t) : Fr (l_X9_knowsAs) m ((fun t => t.2) t) := by
  have hF : Fr (l_X9_knowsAs) m m := Fr.rf
  rcases fr_if h with h | h
  · rcases fr_if h with h | h
    · obtain ⟨q1, h0, h⟩ := Option.bind_eq_some_iff.mp h
      have hF := hF.trans ((fr_X9_begins h0).sub (fr_ix [0, 1] rfl))
      obtain rfl := Option.some.inj h
      exact hF
    · obtain ⟨q2, h0, h⟩ := Option.bind_eq_some_iff.mp h
      have hF := hF.trans ((fr_X9_begins h0).sub (fr_ix [0, 1] rfl))
      obtain ⟨q3, h0, h⟩ := Option.bind_eq_some_iff.mp h
      have hF := hF.trans ((hrf _ _ _ _ h0).sub (fr_ix [0, 1] rfl))
      obtain rfl := Option.some.inj h
      exact hF
  · obtain ⟨q4, h0, h⟩ := Option.bind_eq_some_iff.mp h
    have hF := hF.trans ((fr_X9_begins h0).sub (fr_ix [0, 1] rfl))
    obtain ⟨q5, h0, h⟩ := Option.bind_eq_some_iff.mp h
    have hF := hF.trans ((hrf _ _ _ _ h0).sub (fr_ix [0, 1] rfl))
    obtain rfl := Option.some.inj h
    exact hF
theorem fr_X9_knowsAs (n : Nat) : ∀ {p1 : Int32} {p2 : Int32} {m : Mem} {t : Int32 × Mem}, f_X9_knowsAs n p1 p2 m = some t → Fr (l_X9_knowsAs) m ((fun t => t.2) t) := by
  induction n with
  | zero => intro p1 p2 m t h; cases h
  | succ n ih => intro p1 p2 m t h; exact fr_X9_knowsAs_B (fun _ _ _ _ h => ih h) h
theorem fr_X9_stopsAs_J10 {rc : Int32 → Int32 → Mem → Option (Int32 × Mem)} (hrf : ∀ (m : Mem) (t : Int32 × Mem) (p1 : Int32) (p2 : Int32), rc p1 p2 m = some t → Fr l_X9_stopsAs m ((fun t => t.2) t))  {v2 : Int32}  {m : Mem} {t : Int32 × Mem} (h : f_X9_stopsAs_J10 rc v2 m = some t) : Fr (l_X9_stopsAs) m ((fun t => t.2) t) := by
  have hF : Fr (l_X9_stopsAs) m m := Fr.rf
  obtain ⟨q1, h0, h⟩ := Option.bind_eq_some_iff.mp h
  have hF := hF.trans ((fr_X9_begins h0).sub (fr_ix [0, 1] rfl))
  obtain ⟨q2, h0, h⟩ := Option.bind_eq_some_iff.mp h
  have hF := hF.trans ((hrf _ _ _ _ h0).sub (fr_ix [0, 1] rfl))
  obtain rfl := Option.some.inj h
  exact hF
theorem fr_X9_stopsAs_J36 {rc : Int32 → Int32 → Mem → Option (Int32 × Mem)} (hrf : ∀ (m : Mem) (t : Int32 × Mem) (p1 : Int32) (p2 : Int32), rc p1 p2 m = some t → Fr l_X9_stopsAs m ((fun t => t.2) t))  {v2 : Int32}  {m : Mem} {t : Int32 × Mem} (h : f_X9_stopsAs_J36 rc v2 m = some t) : Fr (l_X9_stopsAs) m ((fun t => t.2) t) := by
  have hF : Fr (l_X9_stopsAs) m m := Fr.rf
  obtain ⟨q3, h0, h⟩ := Option.bind_eq_some_iff.mp h
  have hF := hF.trans ((fr_X9_begins h0).sub (fr_ix [0, 1] rfl))
  obtain ⟨q4, h0, h⟩ := Option.bind_eq_some_iff.mp h
  have hF := hF.trans ((hrf _ _ _ _ h0).sub (fr_ix [0, 1] rfl))
  obtain ⟨q5, h0, h⟩ := Option.bind_eq_some_iff.mp h
  have hF := hF.trans ((fr_X9_knowsAs _ h0).sub (fr_ix [0, 1] rfl))
  obtain rfl := Option.some.inj h
  exact hF
theorem fr_X9_stopsAs_B {rc : Int32 → Int32 → Mem → Option (Int32 × Mem)} (hrf : ∀ (m : Mem) (t : Int32 × Mem) (p1 : Int32) (p2 : Int32), rc p1 p2 m = some t → Fr l_X9_stopsAs m ((fun t => t.2) t))  {p1 : Int32} {p2 : Int32} {m : Mem} {t : Int32 × Mem} (h : f_X9_stopsAs_B rc p1 p2 m = some t) : Fr (l_X9_stopsAs) m ((fun t => t.2) t) := by
  have hF : Fr (l_X9_stopsAs) m m := Fr.rf
  rcases fr_if h with h | h
  · exact hF.trans (fr_X9_stopsAs_J10 hrf h)
  · rcases fr_if h with h | h
    · rcases fr_if h with h | h
      · exact hF.trans (fr_X9_stopsAs_J36 hrf h)
      · rcases fr_if h with h | h
        · obtain ⟨q6, h0, h⟩ := Option.bind_eq_some_iff.mp h
          have hF := hF.trans ((fr_X9_begins h0).sub (fr_ix [0, 1] rfl))
          obtain rfl := Option.some.inj h
          exact hF
        · exact hF.trans (fr_X9_stopsAs_J36 hrf h)
    · exact hF.trans (fr_X9_stopsAs_J10 hrf h)
theorem fr_X9_stopsAs (n : Nat) : ∀ {p1 : Int32} {p2 : Int32} {m : Mem} {t : Int32 × Mem}, f_X9_stopsAs n p1 p2 m = some t → Fr (l_X9_stopsAs) m ((fun t => t.2) t) := by
  induction n with
  | zero => intro p1 p2 m t h; cases h
  | succ n ih => intro p1 p2 m t h; exact fr_X9_stopsAs_B (fun _ _ _ _ h => ih h) h
theorem fr_X9_speaksAs_J10 {rc : Int32 → Int32 → Mem → Option (Int32 × Mem)} (hrf : ∀ (m : Mem) (t : Int32 × Mem) (p1 : Int32) (p2 : Int32), rc p1 p2 m = some t → Fr l_X9_speaksAs m ((fun t => t.2) t))  {v2 : Int32}  {m : Mem} {t : Int32 × Mem} (h : f_X9_speaksAs_J10 rc v2 m = some t) : Fr (l_X9_speaksAs) m ((fun t => t.2) t) := by
  have hF : Fr (l_X9_speaksAs) m m := Fr.rf
  obtain ⟨q1, h0, h⟩ := Option.bind_eq_some_iff.mp h
  have hF := hF.trans ((fr_X9_begins h0).sub (fr_ix [0, 1] rfl))
  obtain ⟨q2, h0, h⟩ := Option.bind_eq_some_iff.mp h
  have hF := hF.trans ((hrf _ _ _ _ h0).sub (fr_ix [0, 1] rfl))
  obtain rfl := Option.some.inj h
  exact hF
theorem fr_X9_speaksAs_B {rc : Int32 → Int32 → Mem → Option (Int32 × Mem)} (hrf : ∀ (m : Mem) (t : Int32 × Mem) (p1 : Int32) (p2 : Int32), rc p1 p2 m = some t → Fr l_X9_speaksAs m ((fun t => t.2) t))  {p1 : Int32} {p2 : Int32} {m : Mem} {t : Int32 × Mem} (h : f_X9_speaksAs_B rc p1 p2 m = some t) : Fr (l_X9_speaksAs) m ((fun t => t.2) t) := by
  have hF : Fr (l_X9_speaksAs) m m := Fr.rf
  rcases fr_if h with h | h
  · exact hF.trans (fr_X9_speaksAs_J10 hrf h)
  · rcases fr_if h with h | h
    · rcases fr_if h with h | h
      · rcases fr_if h with h | h
        · obtain ⟨q3, h0, h⟩ := Option.bind_eq_some_iff.mp h
          have hF := hF.trans ((fr_X9_begins h0).sub (fr_ix [0, 1] rfl))
          obtain ⟨q4, h0, h⟩ := Option.bind_eq_some_iff.mp h
          have hF := hF.trans ((fr_X9_knowsAs _ h0).sub (fr_ix [0, 1] rfl))
          obtain rfl := Option.some.inj h
          exact hF
        · obtain ⟨q5, h0, h⟩ := Option.bind_eq_some_iff.mp h
          have hF := hF.trans ((fr_X9_begins h0).sub (fr_ix [0, 1] rfl))
          obtain ⟨q6, h0, h⟩ := Option.bind_eq_some_iff.mp h
          have hF := hF.trans ((hrf _ _ _ _ h0).sub (fr_ix [0, 1] rfl))
          obtain ⟨q7, h0, h⟩ := Option.bind_eq_some_iff.mp h
          have hF := hF.trans ((fr_X9_stopsAs _ h0).sub (fr_ix [0, 1] rfl))
          obtain rfl := Option.some.inj h
          exact hF
      · obtain ⟨q8, h0, h⟩ := Option.bind_eq_some_iff.mp h
        have hF := hF.trans ((fr_X9_begins h0).sub (fr_ix [0, 1] rfl))
        obtain ⟨q9, h0, h⟩ := Option.bind_eq_some_iff.mp h
        have hF := hF.trans ((hrf _ _ _ _ h0).sub (fr_ix [0, 1] rfl))
        obtain rfl := Option.some.inj h
        exact hF
    · exact hF.trans (fr_X9_speaksAs_J10 hrf h)
theorem fr_X9_speaksAs (n : Nat) : ∀ {p1 : Int32} {p2 : Int32} {m : Mem} {t : Int32 × Mem}, f_X9_speaksAs n p1 p2 m = some t → Fr (l_X9_speaksAs) m ((fun t => t.2) t) := by
  induction n with
  | zero => intro p1 p2 m t h; cases h
  | succ n ih => intro p1 p2 m t h; exact fr_X9_speaksAs_B (fun _ _ _ _ h => ih h) h
theorem fr_X9_decidesAs_B {rc : Int32 → Int32 → Mem → Option (Int32 × Mem)} (hrf : ∀ (m : Mem) (t : Int32 × Mem) (p1 : Int32) (p2 : Int32), rc p1 p2 m = some t → Fr l_X9_decidesAs m ((fun t => t.2) t))  {p1 : Int32} {p2 : Int32} {m : Mem} {t : Int32 × Mem} (h : f_X9_decidesAs_B rc p1 p2 m = some t) : Fr (l_X9_decidesAs) m ((fun t => t.2) t) := by
  have hF : Fr (l_X9_decidesAs) m m := Fr.rf
  rcases fr_if h with h | h
  · rcases fr_if h with h | h
    · obtain ⟨q1, h0, h⟩ := Option.bind_eq_some_iff.mp h
      have hF := hF.trans ((fr_X9_begins h0).sub (fr_ix [0, 1] rfl))
      obtain ⟨q2, h0, h⟩ := Option.bind_eq_some_iff.mp h
      have hF := hF.trans ((fr_X9_speaksAs _ h0).sub (fr_ix [0, 1] rfl))
      obtain ⟨q3, h0, h⟩ := Option.bind_eq_some_iff.mp h
      have hF := hF.trans ((fr_X9_stopsAs _ h0).sub (fr_ix [0, 1] rfl))
      obtain rfl := Option.some.inj h
      exact hF
    · obtain ⟨q4, h0, h⟩ := Option.bind_eq_some_iff.mp h
      have hF := hF.trans ((fr_X9_begins h0).sub (fr_ix [0, 1] rfl))
      obtain ⟨q5, h0, h⟩ := Option.bind_eq_some_iff.mp h
      have hF := hF.trans ((hrf _ _ _ _ h0).sub (fr_ix [0, 1] rfl))
      obtain rfl := Option.some.inj h
      exact hF
  · obtain ⟨q6, h0, h⟩ := Option.bind_eq_some_iff.mp h
    have hF := hF.trans ((fr_X9_begins h0).sub (fr_ix [0, 1] rfl))
    obtain ⟨q7, h0, h⟩ := Option.bind_eq_some_iff.mp h
    have hF := hF.trans ((hrf _ _ _ _ h0).sub (fr_ix [0, 1] rfl))
    obtain rfl := Option.some.inj h
    exact hF
theorem fr_X9_decidesAs (n : Nat) : ∀ {p1 : Int32} {p2 : Int32} {m : Mem} {t : Int32 × Mem}, f_X9_decidesAs n p1 p2 m = some t → Fr (l_X9_decidesAs) m ((fun t => t.2) t) := by
  induction n with
  | zero => intro p1 p2 m t h; cases h
  | succ n ih => intro p1 p2 m t h; exact fr_X9_decidesAs_B (fun _ _ _ _ h => ih h) h
theorem fr_X9_act  {p1 : Int32} {p2 : Int32} {p3 : Int32} {m : Mem} {t : Int32 × Mem} (h : f_X9_act p1 p2 p3 m = some t) : Fr (l_X9_act) m ((fun t => t.2) t) := by
  have hF : Fr (l_X9_act) m m := Fr.rf
  obtain ⟨m1, hF, h⟩ := fr_stI (fr_at 1 rfl) hF h
  obtain ⟨q2, h0, h⟩ := Option.bind_eq_some_iff.mp h
  have hF := hF.trans ((fr_X9_isBody h0).sub (fun _ hq => nomatch hq))
  rcases fr_if h with h | h
  · have h := (ck_s h).2
    obtain ⟨m3, hF, h⟩ := fr_stI (fr_at 2 rfl) hF h
    obtain ⟨m4, hF, h⟩ := fr_stI (fr_at 3 rfl) hF h
    rcases fr_sw h with h | h | h | h | h
    · obtain ⟨q5, h0, h⟩ := Option.bind_eq_some_iff.mp h
      have hF := hF.trans ((fr_X9_knowsAs _ h0).sub (fr_ix [0, 1] rfl))
      obtain rfl := Option.some.inj h
      exact hF
    · obtain ⟨q6, h0, h⟩ := Option.bind_eq_some_iff.mp h
      have hF := hF.trans ((fr_X9_speaksAs _ h0).sub (fr_ix [0, 1] rfl))
      obtain rfl := Option.some.inj h
      exact hF
    · obtain ⟨q7, h0, h⟩ := Option.bind_eq_some_iff.mp h
      have hF := hF.trans ((fr_X9_stopsAs _ h0).sub (fr_ix [0, 1] rfl))
      obtain rfl := Option.some.inj h
      exact hF
    · obtain ⟨q8, h0, h⟩ := Option.bind_eq_some_iff.mp h
      have hF := hF.trans ((fr_X9_decidesAs _ h0).sub (fr_ix [0, 1] rfl))
      obtain rfl := Option.some.inj h
      exact hF
    · obtain rfl := Option.some.inj h
      exact hF
  · obtain rfl := Option.some.inj h
    exact hF
theorem fr_X9_adds  {p1 : Int32} {p2 : Int32} {p3 : Int32} {m : Mem} {t : Mem} (h : f_X9_adds p1 p2 p3 m = some t) : Fr (l_X9_adds) m ((fun t => t) t) := by
  have hF : Fr (l_X9_adds) m m := Fr.rf
  have h := (ck_s h).2
  obtain ⟨m1, hF, h⟩ := fr_stI (fr_at 0 rfl) hF h
  have h := (ck_s h).2
  obtain ⟨m2, hF, h⟩ := fr_stI (fr_at 1 rfl) hF h
  have h := (ck_s h).2
  obtain ⟨m3, hF, h⟩ := fr_stI (fr_at 2 rfl) hF h
  obtain ⟨m4, hF, h⟩ := fr_stI (fr_at 3 rfl) hF h
  obtain rfl := Option.some.inj h
  exact hF
theorem fr_X9_bitsOf_L4  {s : Int32 × Int32 × Mem} {t : (Int32 × Int32 × Mem) ⊕ (Int32 × Mem)} (h : f_X9_bitsOf_L4 s = some t) : Fr (l_X9_bitsOf) s.2.2 ((mS (fun s => s.2.2) (fun t => t.2)) t) := by
  have hF : Fr (l_X9_bitsOf) s.2.2 s.2.2 := Fr.rf
  rcases fr_if h with h | h
  · refine fr_up h (fun r h => ?_)
    obtain rfl := Option.some.inj h
    exact hF
  · obtain ⟨y1, h⟩ := fr_bn h
    obtain ⟨y2, h⟩ := fr_bn h
    obtain rfl := Option.some.inj h
    exact hF
theorem fr_X9_bitsOf  {p1 : Int32} {m : Mem} {t : Int32 × Mem} (h : f_X9_bitsOf p1 m = some t) : Fr (l_X9_bitsOf) m ((fun t => t.2) t) := by
  have hF : Fr (l_X9_bitsOf) m m := Fr.rf
  have hW := fr_wh (l := l_X9_bitsOf) (f := fun s => s.2.2) (k := (fun t => t.2)) (fun s t h => fr_X9_bitsOf_L4 h) h
  exact hF.trans hW
theorem fr_X9_isAlone  {p1 : Int32} {m : Mem} {t : Int32 × Mem} (h : f_X9_isAlone p1 m = some t) : Fr (l_X9_isAlone) m ((fun t => t.2) t) := by
  have hF : Fr (l_X9_isAlone) m m := Fr.rf
  have h := (ck_s h).2
  obtain ⟨q1, h0, h⟩ := Option.bind_eq_some_iff.mp h
  have hF := hF.trans ((fr_X9_bitsOf h0).sub (fun _ hq => nomatch hq))
  rcases fr_if h with h | h
  · have h := (bz_s h).2
    obtain rfl := Option.some.inj h
    exact hF
  · have h := (bz_s h).2
    obtain rfl := Option.some.inj h
    exact hF
theorem fr_X9_isSaid  {p1 : Int32} {m : Mem} {t : Int32 × Mem} (h : f_X9_isSaid p1 m = some t) : Fr (l_X9_isSaid) m ((fun t => t.2) t) := by
  have hF : Fr (l_X9_isSaid) m m := Fr.rf
  have h := (ck_s h).2
  rcases fr_if h with h | h
  · have h := (bz_s h).2
    obtain rfl := Option.some.inj h
    exact hF
  · have h := (bz_s h).2
    obtain rfl := Option.some.inj h
    exact hF
theorem fr_X9_aloneSaid_L4  {s : Int32 × Int32 × Int32 × Mem} {t : (Int32 × Int32 × Int32 × Mem) ⊕ (Int32 × Mem)} (h : f_X9_aloneSaid_L4 s = some t) : Fr (l_X9_aloneSaid) s.2.2.2 ((mS (fun s => s.2.2.2) (fun t => t.2)) t) := by
  have hF : Fr (l_X9_aloneSaid) s.2.2.2 s.2.2.2 := Fr.rf
  rcases fr_if h with h | h
  · refine fr_up h (fun r h => ?_)
    obtain rfl := Option.some.inj h
    exact hF
  · obtain ⟨q1, h0, h⟩ := Option.bind_eq_some_iff.mp h
    have hF := hF.trans ((fr_X9_isAlone h0).sub (fun _ hq => nomatch hq))
    rcases fr_if h with h | h
    · obtain ⟨y2, h⟩ := fr_bn h
      obtain ⟨y3, h⟩ := fr_bn h
      obtain rfl := Option.some.inj h
      exact hF
    · rcases fr_if h with h | h
      · obtain ⟨y4, h⟩ := fr_bn h
        obtain ⟨y5, h⟩ := fr_bn h
        obtain rfl := Option.some.inj h
        exact hF
      · obtain ⟨q6, h0, h⟩ := Option.bind_eq_some_iff.mp h
        have hF := hF.trans ((fr_X9_isSaid h0).sub (fun _ hq => nomatch hq))
        rcases fr_if h with h | h
        · obtain ⟨y7, h⟩ := fr_bn h
          obtain ⟨y8, h⟩ := fr_bn h
          obtain rfl := Option.some.inj h
          exact hF
        · obtain ⟨y9, h⟩ := fr_bn h
          obtain ⟨y10, h⟩ := fr_bn h
          obtain rfl := Option.some.inj h
          exact hF
theorem fr_X9_aloneSaid  {p1 : Int32} {m : Mem} {t : Int32 × Mem} (h : f_X9_aloneSaid p1 m = some t) : Fr (l_X9_aloneSaid) m ((fun t => t.2) t) := by
  have hF : Fr (l_X9_aloneSaid) m m := Fr.rf
  have hW := fr_wh (l := l_X9_aloneSaid) (f := fun s => s.2.2.2) (k := (fun t => t.2)) (fun s t h => fr_X9_aloneSaid_L4 h) h
  exact hF.trans hW
theorem fr_X9_asSort  {p1 : Int32} {p2 : Int64} {m : Mem} {t : Int64 × Mem} (h : f_X9_asSort p1 p2 m = some t) : Fr (l_X9_asSort) m ((fun t => t.2) t) := by
  have hF : Fr (l_X9_asSort) m m := Fr.rf
  rcases fr_if h with h | h
  · rcases fr_if h with h | h
    · rcases fr_if h with h | h
      · rcases fr_if h with h | h
        · obtain rfl := Option.some.inj h
          exact hF
        · rcases fr_if h with h | h
          · obtain rfl := Option.some.inj h
            exact hF
          · obtain rfl := Option.some.inj h
            exact hF
      · obtain rfl := Option.some.inj h
        exact hF
    · obtain rfl := Option.some.inj h
      exact hF
  · obtain rfl := Option.some.inj h
    exact hF
theorem fr_X9_becomes_J97  {v1 : Int32} {v2 : Int32} {v3 : Int32}  {m : Mem} {t : Int32 × Mem} (h : f_X9_becomes_J97 v1 v2 v3 m = some t) : Fr (l_X9_becomes) m ((fun t => t.2) t) := by
  have hF : Fr (l_X9_becomes) m m := Fr.rf
  have h := (ck_s h).2
  obtain ⟨m2, hF, h⟩ := fr_stI (fr_at 1 rfl) hF h
  have h := (ck_s h).2
  obtain ⟨m3, hF, h⟩ := fr_stI (fr_at 2 rfl) hF h
  have h := (ck_s h).2
  obtain ⟨m4, hF, h⟩ := fr_stI (fr_at 3 rfl) hF h
  obtain ⟨m5, hF, h⟩ := fr_stI (fr_at 5 rfl) hF h
  obtain ⟨m6, hF, h⟩ := fr_stI (fr_at 4 rfl) hF h
  have h := (ck_s h).2
  obtain ⟨m7, hF, h⟩ := fr_stI (fr_at 0 rfl) hF h
  obtain rfl := Option.some.inj h
  exact hF
theorem fr_X9_becomes_L26  {s : Int32 × Int32 × Int32 × Int32 × Mem} {t : (Int32 × Int32 × Int32 × Int32 × Mem) ⊕ (Int32 × Mem)} (h : f_X9_becomes_L26 s = some t) : Fr (l_X9_becomes) s.2.2.2.2 ((mS (fun s => s.2.2.2.2) (fun t => t.2)) t) := by
  have hF : Fr (l_X9_becomes) s.2.2.2.2 s.2.2.2.2 := Fr.rf
  rcases fr_if h with h | h
  · refine fr_up h (fun r h => ?_)
    obtain ⟨m8, hF, h⟩ := fr_stI (fr_at 5 rfl) hF h
    exact hF.trans (fr_X9_becomes_J97 h)
  · have h := (ck_s h).2
    have h := (ck_s h).2
    obtain ⟨m9, hF, h⟩ := fr_stI (fr_at 1 rfl) hF h
    have h := (ck_s h).2
    have h := (ck_s h).2
    obtain ⟨m10, hF, h⟩ := fr_stI (fr_at 2 rfl) hF h
    have h := (ck_s h).2
    have h := (ck_s h).2
    obtain ⟨m11, hF, h⟩ := fr_stI (fr_at 3 rfl) hF h
    obtain ⟨y12, h⟩ := fr_bn h
    obtain rfl := Option.some.inj h
    exact hF
theorem fr_X9_becomes  {p1 : Int32} {p2 : Int32} {m : Mem} {t : Int32 × Mem} (h : f_X9_becomes p1 p2 m = some t) : Fr (l_X9_becomes) m ((fun t => t.2) t) := by
  have hF : Fr (l_X9_becomes) m m := Fr.rf
  have h := (ck_s h).2
  obtain ⟨y1, h⟩ := fr_bn h
  rcases fr_if h with h | h
  · rcases fr_if h with h | h
    · exact hF.trans (fr_X9_becomes_J97 h)
    · have hW := fr_wh (l := l_X9_becomes) (f := fun s => s.2.2.2.2) (k := (fun t => t.2)) (fun s t h => fr_X9_becomes_L26 h) h
      exact hF.trans hW
  · obtain rfl := Option.some.inj h
    exact hF
theorem fr_X9_bestTold  {p1 : Int32} {m : Mem} {t : Int32 × Mem} (h : f_X9_bestTold p1 m = some t) : Fr (l_X9_bestTold) m ((fun t => t.2) t) := by
  have hF : Fr (l_X9_bestTold) m m := Fr.rf
  rcases fr_if h with h | h
  · rcases fr_if h with h | h
    · obtain rfl := Option.some.inj h
      exact hF
    · obtain rfl := Option.some.inj h
      exact hF
  · obtain rfl := Option.some.inj h
    exact hF
theorem fr_X9_body  {p1 : Int32} {m : Mem} {t : Int32 × Mem} (h : f_X9_body p1 m = some t) : Fr (l_X9_body) m ((fun t => t.2) t) := by
  have hF : Fr (l_X9_body) m m := Fr.rf
  obtain ⟨q1, h0, h⟩ := Option.bind_eq_some_iff.mp h
  have hF := hF.trans ((fr_X9_within h0).sub (fun _ hq => nomatch hq))
  rcases fr_if h with h | h
  · rcases fr_if h with h | h
    · have h := (ck_s h).2
      obtain ⟨m2, hF, h⟩ := fr_stI (fr_at 0 rfl) hF h
      obtain ⟨m3, hF, h⟩ := fr_stI (fr_at 1 rfl) hF h
      obtain rfl := Option.some.inj h
      exact hF
    · obtain rfl := Option.some.inj h
      exact hF
  · obtain rfl := Option.some.inj h
    exact hF
theorem fr_X9_byteAt   {m : Mem} {t : Int32 × Mem} (h : f_X9_byteAt m = some t) : Fr (l_X9_byteAt) m ((fun t => t.2) t) := by
  have hF : Fr (l_X9_byteAt) m m := Fr.rf
  rcases fr_if h with h | h
  · obtain rfl := Option.some.inj h
    exact hF
  · rcases fr_if h with h | h
    · have h := (ck_s h).2
      obtain rfl := Option.some.inj h
      exact hF
    · have h := (ck_s h).2
      obtain rfl := Option.some.inj h
      exact hF
theorem fr_X9_product_J35 {rc : Mem → Option (Int32 × Mem)} (hrf : ∀ (m : Mem) (t : Int32 × Mem), rc m = some t → Fr l_X9_one m ((fun t => t.2) t))  {v1 : Int32} {v2 : Int32}  {m : Mem} {t : (Int32 × Int32 × Mem) ⊕ (Int32 × Mem)} (h : f_X9_product_J35 rc v1 v2 m = some t) : Fr (l_X9_product) m ((mS (fun s => s.2.2) (fun t => t.2)) t) := by
  have hF : Fr (l_X9_product) m m := Fr.rf
  obtain ⟨m3, hF, h⟩ := fr_stI (fr_at 0 rfl) hF h
  obtain ⟨q4, h0, h⟩ := Option.bind_eq_some_iff.mp h
  have hF := hF.trans ((hrf _ _ h0).sub (fr_ix [0, 1, 2] rfl))
  rcases fr_if h with h | h
  · rcases fr_if h with h | h
    · rcases fr_if h with h | h
      · have h := (dv_s h).2
        obtain ⟨y5, h⟩ := fr_bn h
        obtain ⟨q6, h0, h⟩ := Option.bind_eq_some_iff.mp h
        have hF := hF.trans ((fr_X9_byteAt h0).sub (fun _ hq => nomatch hq))
        obtain rfl := Option.some.inj h
        exact hF
      · have h := (dv_s h).2
        obtain ⟨y7, h⟩ := fr_bn h
        obtain ⟨q8, h0, h⟩ := Option.bind_eq_some_iff.mp h
        have hF := hF.trans ((fr_X9_byteAt h0).sub (fun _ hq => nomatch hq))
        obtain rfl := Option.some.inj h
        exact hF
    · obtain ⟨q9, h0, h⟩ := Option.bind_eq_some_iff.mp h
      have hF := hF.trans ((fr_X9_byteAt h0).sub (fun _ hq => nomatch hq))
      obtain rfl := Option.some.inj h
      exact hF
  · obtain ⟨y10, h⟩ := fr_bn h
    obtain ⟨q11, h0, h⟩ := Option.bind_eq_some_iff.mp h
    have hF := hF.trans ((fr_X9_byteAt h0).sub (fun _ hq => nomatch hq))
    obtain rfl := Option.some.inj h
    exact hF
theorem fr_X9_product_L10 {rc : Mem → Option (Int32 × Mem)} (hrf : ∀ (m : Mem) (t : Int32 × Mem), rc m = some t → Fr l_X9_one m ((fun t => t.2) t))  {s : Int32 × Int32 × Mem} {t : (Int32 × Int32 × Mem) ⊕ (Int32 × Mem)} (h : f_X9_product_L10 rc s = some t) : Fr (l_X9_product) s.2.2 ((mS (fun s => s.2.2) (fun t => t.2)) t) := by
  have hF : Fr (l_X9_product) s.2.2 s.2.2 := Fr.rf
  rcases fr_if h with h | h
  · refine fr_up h (fun r h => ?_)
    obtain rfl := Option.some.inj h
    exact hF
  · rcases fr_if h with h | h
    · exact hF.trans (fr_X9_product_J35 hrf h)
    · rcases fr_if h with h | h
      · exact hF.trans (fr_X9_product_J35 hrf h)
      · rcases fr_if h with h | h
        · refine fr_up h (fun r h => ?_)
          obtain rfl := Option.some.inj h
          exact hF
        · exact hF.trans (fr_X9_product_J35 hrf h)
theorem fr_X9_product {rc : Mem → Option (Int32 × Mem)} (hrf : ∀ (m : Mem) (t : Int32 × Mem), rc m = some t → Fr l_X9_one m ((fun t => t.2) t))   {m : Mem} {t : Int32 × Mem} (h : f_X9_product rc m = some t) : Fr (l_X9_product) m ((fun t => t.2) t) := by
  have hF : Fr (l_X9_product) m m := Fr.rf
  obtain ⟨q1, h0, h⟩ := Option.bind_eq_some_iff.mp h
  have hF := hF.trans ((hrf _ _ h0).sub (fr_ix [0, 1, 2] rfl))
  obtain ⟨q2, h0, h⟩ := Option.bind_eq_some_iff.mp h
  have hF := hF.trans ((fr_X9_byteAt h0).sub (fun _ hq => nomatch hq))
  have hW := fr_wh (l := l_X9_product) (f := fun s => s.2.2) (k := (fun t => t.2)) (fun s t h => fr_X9_product_L10 hrf h) h
  exact hF.trans hW
theorem fr_X9_sums_J44 {rc : Mem → Option (Int32 × Mem)} (hrf : ∀ (m : Mem) (t : Int32 × Mem), rc m = some t → Fr l_X9_one m ((fun t => t.2) t))  {v1 : Int32} {t0 : Int32}  {m : Mem} {t : (Int32 × Mem) ⊕ (Int32 × Mem)} (h : f_X9_sums_J44 rc v1 t0 m = some t) : Fr (l_X9_sums) m ((mS (fun s => s.2) (fun t => t.2)) t) := by
  have hF : Fr (l_X9_sums) m m := Fr.rf
  obtain ⟨m4, hF, h⟩ := fr_stI (fr_at 0 rfl) hF h
  obtain ⟨q5, h0, h⟩ := Option.bind_eq_some_iff.mp h
  have hF := hF.trans ((fr_X9_product hrf h0).sub (fr_ix [0, 1, 2] rfl))
  rcases fr_if h with h | h
  · obtain ⟨y6, h⟩ := fr_bn h
    obtain rfl := Option.some.inj h
    exact hF
  · obtain ⟨y7, h⟩ := fr_bn h
    obtain rfl := Option.some.inj h
    exact hF
theorem fr_X9_sums_J30 {rc : Mem → Option (Int32 × Mem)} (hrf : ∀ (m : Mem) (t : Int32 × Mem), rc m = some t → Fr l_X9_one m ((fun t => t.2) t))  {v1 : Int32}  {m : Mem} {t : (Int32 × Mem) ⊕ (Int32 × Mem)} (h : f_X9_sums_J30 rc v1 m = some t) : Fr (l_X9_sums) m ((mS (fun s => s.2) (fun t => t.2)) t) := by
  have hF : Fr (l_X9_sums) m m := Fr.rf
  obtain ⟨q3, h0, h⟩ := Option.bind_eq_some_iff.mp h
  have hF := hF.trans ((fr_X9_byteAt h0).sub (fun _ hq => nomatch hq))
  rcases fr_if h with h | h
  · exact hF.trans (fr_X9_sums_J44 hrf h)
  · exact hF.trans (fr_X9_sums_J44 hrf h)
theorem fr_X9_sums_L5 {rc : Mem → Option (Int32 × Mem)} (hrf : ∀ (m : Mem) (t : Int32 × Mem), rc m = some t → Fr l_X9_one m ((fun t => t.2) t))  {s : Int32 × Mem} {t : (Int32 × Mem) ⊕ (Int32 × Mem)} (h : f_X9_sums_L5 rc s = some t) : Fr (l_X9_sums) s.2 ((mS (fun s => s.2) (fun t => t.2)) t) := by
  have hF : Fr (l_X9_sums) s.2 s.2 := Fr.rf
  rcases fr_if h with h | h
  · refine fr_up h (fun r h => ?_)
    obtain rfl := Option.some.inj h
    exact hF
  · obtain ⟨q2, h0, h⟩ := Option.bind_eq_some_iff.mp h
    have hF := hF.trans ((fr_X9_byteAt h0).sub (fun _ hq => nomatch hq))
    rcases fr_if h with h | h
    · exact hF.trans (fr_X9_sums_J30 hrf h)
    · obtain ⟨q8, h0, h⟩ := Option.bind_eq_some_iff.mp h
      have hF := hF.trans ((fr_X9_byteAt h0).sub (fun _ hq => nomatch hq))
      rcases fr_if h with h | h
      · refine fr_up h (fun r h => ?_)
        obtain rfl := Option.some.inj h
        exact hF
      · exact hF.trans (fr_X9_sums_J30 hrf h)
theorem fr_X9_sums {rc : Mem → Option (Int32 × Mem)} (hrf : ∀ (m : Mem) (t : Int32 × Mem), rc m = some t → Fr l_X9_one m ((fun t => t.2) t))   {m : Mem} {t : Int32 × Mem} (h : f_X9_sums rc m = some t) : Fr (l_X9_sums) m ((fun t => t.2) t) := by
  have hF : Fr (l_X9_sums) m m := Fr.rf
  obtain ⟨q1, h0, h⟩ := Option.bind_eq_some_iff.mp h
  have hF := hF.trans ((fr_X9_product hrf h0).sub (fr_ix [0, 1, 2] rfl))
  have hW := fr_wh (l := l_X9_sums) (f := fun s => s.2) (k := (fun t => t.2)) (fun s t h => fr_X9_sums_L5 hrf h) h
  exact hF.trans hW
theorem fr_X9_compared_J37 {rc : Mem → Option (Int32 × Mem)} (hrf : ∀ (m : Mem) (t : Int32 × Mem), rc m = some t → Fr l_X9_one m ((fun t => t.2) t))  {v1 : Int32} {v2 : Int32}  {m : Mem} {t : Int32 × Mem} (h : f_X9_compared_J37 rc v1 v2 m = some t) : Fr (l_X9_compared) m ((fun t => t.2) t) := by
  have hF : Fr (l_X9_compared) m m := Fr.rf
  obtain ⟨m3, hF, h⟩ := fr_stI (fr_at 0 rfl) hF h
  obtain ⟨q4, h0, h⟩ := Option.bind_eq_some_iff.mp h
  have hF := hF.trans ((fr_X9_sums hrf h0).sub (fr_ix [0, 1, 2] rfl))
  rcases fr_if h with h | h
  · rcases fr_if h with h | h
    · rcases fr_if h with h | h
      · obtain rfl := Option.some.inj h
        exact hF
      · obtain rfl := Option.some.inj h
        exact hF
    · rcases fr_if h with h | h
      · obtain rfl := Option.some.inj h
        exact hF
      · obtain rfl := Option.some.inj h
        exact hF
  · rcases fr_if h with h | h
    · obtain rfl := Option.some.inj h
      exact hF
    · obtain rfl := Option.some.inj h
      exact hF
theorem fr_X9_compared {rc : Mem → Option (Int32 × Mem)} (hrf : ∀ (m : Mem) (t : Int32 × Mem), rc m = some t → Fr l_X9_one m ((fun t => t.2) t))   {m : Mem} {t : Int32 × Mem} (h : f_X9_compared rc m = some t) : Fr (l_X9_compared) m ((fun t => t.2) t) := by
  have hF : Fr (l_X9_compared) m m := Fr.rf
  obtain ⟨q1, h0, h⟩ := Option.bind_eq_some_iff.mp h
  have hF := hF.trans ((fr_X9_sums hrf h0).sub (fr_ix [0, 1, 2] rfl))
  obtain ⟨q2, h0, h⟩ := Option.bind_eq_some_iff.mp h
  have hF := hF.trans ((fr_X9_byteAt h0).sub (fun _ hq => nomatch hq))
  rcases fr_if h with h | h
  · obtain rfl := Option.some.inj h
    exact hF
  · rcases fr_if h with h | h
    · exact hF.trans (fr_X9_compared_J37 hrf h)
    · rcases fr_if h with h | h
      · exact hF.trans (fr_X9_compared_J37 hrf h)
      · rcases fr_if h with h | h
        · exact hF.trans (fr_X9_compared_J37 hrf h)
        · obtain rfl := Option.some.inj h
          exact hF
theorem fr_X9_takes  {p1 : Int32} {m : Mem} {t : Int32 × Mem} (h : f_X9_takes p1 m = some t) : Fr (l_X9_takes) m ((fun t => t.2) t) := by
  have hF : Fr (l_X9_takes) m m := Fr.rf
  rcases fr_if h with h | h
  · have h := (bz_s h).2
    obtain rfl := Option.some.inj h
    exact hF
  · obtain ⟨q1, h0, h⟩ := Option.bind_eq_some_iff.mp h
    have hF := hF.trans ((fr_X9_byteAt h0).sub (fun _ hq => nomatch hq))
    rcases fr_if h with h | h
    · obtain ⟨m2, hF, h⟩ := fr_stI (fr_at 0 rfl) hF h
      have h := (bz_s h).2
      obtain rfl := Option.some.inj h
      exact hF
    · have h := (bz_s h).2
      obtain rfl := Option.some.inj h
      exact hF
theorem fr_X9_both_L5 {rc : Mem → Option (Int32 × Mem)} (hrf : ∀ (m : Mem) (t : Int32 × Mem), rc m = some t → Fr l_X9_one m ((fun t => t.2) t))  {s : Int32 × Mem} {t : (Int32 × Mem) ⊕ (Int32 × Mem)} (h : f_X9_both_L5 rc s = some t) : Fr (l_X9_both) s.2 ((mS (fun s => s.2) (fun t => t.2)) t) := by
  have hF : Fr (l_X9_both) s.2 s.2 := Fr.rf
  obtain ⟨q2, h0, h⟩ := Option.bind_eq_some_iff.mp h
  have hF := hF.trans ((fr_X9_takes h0).sub (fr_ix [0] rfl))
  rcases fr_if h with h | h
  · refine fr_up h (fun r h => ?_)
    obtain rfl := Option.some.inj h
    exact hF
  · obtain ⟨q3, h0, h⟩ := Option.bind_eq_some_iff.mp h
    have hF := hF.trans ((fr_X9_compared hrf h0).sub (fr_ix [0, 1, 2] rfl))
    rcases fr_if h with h | h
    · obtain rfl := Option.some.inj h
      exact hF
    · rcases fr_if h with h | h
      · obtain rfl := Option.some.inj h
        exact hF
      · obtain rfl := Option.some.inj h
        exact hF
theorem fr_X9_both {rc : Mem → Option (Int32 × Mem)} (hrf : ∀ (m : Mem) (t : Int32 × Mem), rc m = some t → Fr l_X9_one m ((fun t => t.2) t))   {m : Mem} {t : Int32 × Mem} (h : f_X9_both rc m = some t) : Fr (l_X9_both) m ((fun t => t.2) t) := by
  have hF : Fr (l_X9_both) m m := Fr.rf
  obtain ⟨q1, h0, h⟩ := Option.bind_eq_some_iff.mp h
  have hF := hF.trans ((fr_X9_compared hrf h0).sub (fr_ix [0, 1, 2] rfl))
  have hW := fr_wh (l := l_X9_both) (f := fun s => s.2) (k := (fun t => t.2)) (fun s t h => fr_X9_both_L5 hrf h) h
  exact hF.trans hW
theorem fr_X9_isThere  {p1 : Int32} {m : Mem} {t : Int32 × Mem} (h : f_X9_isThere p1 m = some t) : Fr (l_X9_isThere) m ((fun t => t.2) t) := by
  have hF : Fr (l_X9_isThere) m m := Fr.rf
  rcases fr_if h with h | h
  · have h := (bz_s h).2
    obtain rfl := Option.some.inj h
    exact hF
  · have h := (ck_s h).2
    rcases fr_if h with h | h
    · have h := (bz_s h).2
      obtain rfl := Option.some.inj h
      exact hF
    · have h := (bz_s h).2
      obtain rfl := Option.some.inj h
      exact hF
theorem fr_X9_wishes  {p1 : Int32} {m : Mem} {t : Int32 × Mem} (h : f_X9_wishes p1 m = some t) : Fr (l_X9_wishes) m ((fun t => t.2) t) := by
  have hF : Fr (l_X9_wishes) m m := Fr.rf
  obtain ⟨q1, h0, h⟩ := Option.bind_eq_some_iff.mp h
  have hF := hF.trans ((fr_X9_isThere h0).sub (fun _ hq => nomatch hq))
  rcases fr_if h with h | h
  · have h := (bz_s h).2
    obtain rfl := Option.some.inj h
    exact hF
  · have h := (ck_s h).2
    rcases fr_if h with h | h
    · have h := (bz_s h).2
      obtain rfl := Option.some.inj h
      exact hF
    · have h := (bz_s h).2
      obtain rfl := Option.some.inj h
      exact hF
theorem fr_X9_byTurns_L2  {s : Int32 × Mem} {t : (Int32 × Mem) ⊕ (Int32 × Mem)} (h : f_X9_byTurns_L2 s = some t) : Fr (l_X9_byTurns) s.2 ((mS (fun s => s.2) (fun t => t.2)) t) := by
  have hF : Fr (l_X9_byTurns) s.2 s.2 := Fr.rf
  rcases fr_if h with h | h
  · refine fr_up h (fun r h => ?_)
    obtain rfl := Option.some.inj h
    exact hF
  · have h := (dv_s h).2
    obtain ⟨y1, h⟩ := fr_bn h
    obtain ⟨q2, h0, h⟩ := Option.bind_eq_some_iff.mp h
    have hF := hF.trans ((fr_X9_wishes h0).sub (fun _ hq => nomatch hq))
    rcases fr_if h with h | h
    · obtain ⟨y3, h⟩ := fr_bn h
      obtain rfl := Option.some.inj h
      exact hF
    · refine fr_up h (fun r h => ?_)
      obtain rfl := Option.some.inj h
      exact hF
theorem fr_X9_byTurns   {m : Mem} {t : Int32 × Mem} (h : f_X9_byTurns m = some t) : Fr (l_X9_byTurns) m ((fun t => t.2) t) := by
  have hF : Fr (l_X9_byTurns) m m := Fr.rf
  have hW := fr_wh (l := l_X9_byTurns) (f := fun s => s.2) (k := (fun t => t.2)) (fun s t h => fr_X9_byTurns_L2 h) h
  exact hF.trans hW
theorem fr_X9_isOne  {p1 : Int64} {p2 : Int64} {p3 : Int64} {m : Mem} {t : Int32 × Mem} (h : f_X9_isOne p1 p2 p3 m = some t) : Fr (l_X9_isOne) m ((fun t => t.2) t) := by
  have hF : Fr (l_X9_isOne) m m := Fr.rf
  obtain ⟨q1, h0, h⟩ := Option.bind_eq_some_iff.mp h
  have hF := hF.trans ((fr_X9_within h0).sub (fun _ hq => nomatch hq))
  rcases fr_if h with h | h
  · have h := (bz_s h).2
    obtain rfl := Option.some.inj h
    exact hF
  · obtain ⟨q2, h0, h⟩ := Option.bind_eq_some_iff.mp h
    have hF := hF.trans ((fr_X9_within h0).sub (fun _ hq => nomatch hq))
    rcases fr_if h with h | h
    · have h := (bz_s h).2
      obtain rfl := Option.some.inj h
      exact hF
    · obtain ⟨q3, h0, h⟩ := Option.bind_eq_some_iff.mp h
      have hF := hF.trans ((fr_X9_within h0).sub (fun _ hq => nomatch hq))
      rcases fr_if h with h | h
      · have h := (bz_s h).2
        obtain rfl := Option.some.inj h
        exact hF
      · have h := (bz_s h).2
        obtain rfl := Option.some.inj h
        exact hF
theorem fr_X9_card  {p1 : Int32} {p2 : Int32} {p3 : Int32} {m : Mem} {t : Int32 × Mem} (h : f_X9_card p1 p2 p3 m = some t) : Fr (l_X9_card) m ((fun t => t.2) t) := by
  have hF : Fr (l_X9_card) m m := Fr.rf
  obtain ⟨q1, h0, h⟩ := Option.bind_eq_some_iff.mp h
  have hF := hF.trans ((fr_X9_isOne h0).sub (fun _ hq => nomatch hq))
  rcases fr_if h with h | h
  · rcases fr_if h with h | h
    · obtain ⟨q2, h0, h⟩ := Option.bind_eq_some_iff.mp h
      have hF := hF.trans ((fr_X9_adds h0).sub (fr_ix [0, 1, 2, 3] rfl))
      obtain rfl := Option.some.inj h
      exact hF
    · obtain rfl := Option.some.inj h
      exact hF
  · obtain rfl := Option.some.inj h
    exact hF
theorem fr_X9_isShelf  {p1 : Int32} {m : Mem} {t : Int32 × Mem} (h : f_X9_isShelf p1 m = some t) : Fr (l_X9_isShelf) m ((fun t => t.2) t) := by
  have hF : Fr (l_X9_isShelf) m m := Fr.rf
  obtain ⟨q1, h0, h⟩ := Option.bind_eq_some_iff.mp h
  have hF := hF.trans ((fr_X9_within h0).sub (fun _ hq => nomatch hq))
  have h := (bz_s h).2
  obtain rfl := Option.some.inj h
  exact hF
theorem fr_X9_cards_J168  {v1 : Int32} {v2 : Int32} {v3 : Int32} {v4 : Int32} {v6 : Int32} {t0 : Int32}  {m : Mem} {t : (Int32 × Int32 × Int32 × Int32 × Int32 × Mem) ⊕ (Int32 × Mem)} (h : f_X9_cards_J168 v1 v2 v3 v4 v6 t0 m = some t) : Fr (l_X9_cards) m ((mS (fun s => s.2.2.2.2.2) (fun t => t.2)) t) := by
  have hF : Fr (l_X9_cards) m m := Fr.rf
  rcases fr_if h with h | h
  · obtain rfl := Option.some.inj h
    exact hF
  · have h := (ck_s h).2
    have h := (ck_s h).2
    have h := (ck_s h).2
    obtain ⟨q4, h0, h⟩ := Option.bind_eq_some_iff.mp h
    have hF := hF.trans ((fr_X9_adds h0).sub (fr_ix [0, 1, 2, 3] rfl))
    obtain ⟨y5, h⟩ := fr_bn h
    obtain rfl := Option.some.inj h
    exact hF
theorem fr_X9_cards_J167  {v1 : Int32} {v2 : Int32} {v3 : Int32} {v4 : Int32} {v6 : Int32}  {m : Mem} {t : (Int32 × Int32 × Int32 × Int32 × Int32 × Mem) ⊕ (Int32 × Mem)} (h : f_X9_cards_J167 v1 v2 v3 v4 v6 m = some t) : Fr (l_X9_cards) m ((mS (fun s => s.2.2.2.2.2) (fun t => t.2)) t) := by
  have hF : Fr (l_X9_cards) m m := Fr.rf
  exact hF.trans (fr_X9_cards_J168 h)
theorem fr_X9_cards_J111  {v1 : Int32} {v2 : Int32} {v3 : Int32} {v4 : Int32} {t0 : Int32}  {m : Mem} {t : (Int32 × Int32 × Int32 × Int32 × Int32 × Mem) ⊕ (Int32 × Mem)} (h : f_X9_cards_J111 v1 v2 v3 v4 t0 m = some t) : Fr (l_X9_cards) m ((mS (fun s => s.2.2.2.2.2) (fun t => t.2)) t) := by
  have hF : Fr (l_X9_cards) m m := Fr.rf
  obtain ⟨y3, h⟩ := fr_bn h
  rcases fr_if h with h | h
  · exact hF.trans (fr_X9_cards_J167 h)
  · have h := (ck_s h).2
    have h := (ck_s h).2
    have h := (ck_s h).2
    obtain ⟨q6, h0, h⟩ := Option.bind_eq_some_iff.mp h
    have hF := hF.trans ((fr_X9_isOne h0).sub (fun _ hq => nomatch hq))
    rcases fr_if h with h | h
    · exact hF.trans (fr_X9_cards_J167 h)
    · exact hF.trans (fr_X9_cards_J168 h)
theorem fr_X9_cards_J110  {v1 : Int32} {v2 : Int32} {v3 : Int32} {v4 : Int32}  {m : Mem} {t : (Int32 × Int32 × Int32 × Int32 × Int32 × Mem) ⊕ (Int32 × Mem)} (h : f_X9_cards_J110 v1 v2 v3 v4 m = some t) : Fr (l_X9_cards) m ((mS (fun s => s.2.2.2.2.2) (fun t => t.2)) t) := by
  have hF : Fr (l_X9_cards) m m := Fr.rf
  exact hF.trans (fr_X9_cards_J111 h)
theorem fr_X9_cards_L69  {s : Int32 × Int32 × Int32 × Int32 × Int32 × Mem} {t : (Int32 × Int32 × Int32 × Int32 × Int32 × Mem) ⊕ (Int32 × Mem)} (h : f_X9_cards_L69 s = some t) : Fr (l_X9_cards) s.2.2.2.2.2 ((mS (fun s => s.2.2.2.2.2) (fun t => t.2)) t) := by
  have hF : Fr (l_X9_cards) s.2.2.2.2.2 s.2.2.2.2.2 := Fr.rf
  rcases fr_if h with h | h
  · refine fr_up h (fun r h => ?_)
    obtain rfl := Option.some.inj h
    exact hF
  · rcases fr_if h with h | h
    · refine fr_up h (fun r h => ?_)
      obtain rfl := Option.some.inj h
      exact hF
    · have h := (ck_s h).2
      rcases fr_if h with h | h
      · exact hF.trans (fr_X9_cards_J110 h)
      · rcases fr_if h with h | h
        · exact hF.trans (fr_X9_cards_J110 h)
        · exact hF.trans (fr_X9_cards_J111 h)
theorem fr_X9_cards_J44  {v1 : Int32} {v2 : Int32} {v3 : Int32}  {m : Mem} {t : Int32 × Mem} (h : f_X9_cards_J44 v1 v2 v3 m = some t) : Fr (l_X9_cards) m ((fun t => t.2) t) := by
  have hF : Fr (l_X9_cards) m m := Fr.rf
  have h := (ck_s h).2
  rcases fr_if h with h | h
  · have hW := fr_wh (l := l_X9_cards) (f := fun s => s.2.2.2.2.2) (k := (fun t => t.2)) (fun s t h => fr_X9_cards_L69 h) h
    exact hF.trans hW
  · rcases fr_if h with h | h
    · have hW := fr_wh (l := l_X9_cards) (f := fun s => s.2.2.2.2.2) (k := (fun t => t.2)) (fun s t h => fr_X9_cards_L69 h) h
      exact hF.trans hW
    · have hW := fr_wh (l := l_X9_cards) (f := fun s => s.2.2.2.2.2) (k := (fun t => t.2)) (fun s t h => fr_X9_cards_L69 h) h
      exact hF.trans hW
theorem fr_X9_cards  {p1 : Int32} {p2 : Int32} {p3 : Int32} {m : Mem} {t : Int32 × Mem} (h : f_X9_cards p1 p2 p3 m = some t) : Fr (l_X9_cards) m ((fun t => t.2) t) := by
  have hF : Fr (l_X9_cards) m m := Fr.rf
  obtain ⟨q1, h0, h⟩ := Option.bind_eq_some_iff.mp h
  have hF := hF.trans ((fr_X9_isShelf h0).sub (fun _ hq => nomatch hq))
  rcases fr_if h with h | h
  · obtain rfl := Option.some.inj h
    exact hF
  · obtain ⟨q2, h0, h⟩ := Option.bind_eq_some_iff.mp h
    have hF := hF.trans ((fr_X9_within h0).sub (fun _ hq => nomatch hq))
    rcases fr_if h with h | h
    · have h := (ck_s h).2
      rcases fr_if h with h | h
      · exact hF.trans (fr_X9_cards_J44 h)
      · have h := (ck_s h).2
        rcases fr_if h with h | h
        · exact hF.trans (fr_X9_cards_J44 h)
        · obtain rfl := Option.some.inj h
          exact hF
    · obtain rfl := Option.some.inj h
      exact hF
theorem fr_X9_mostWishing_J38  {v1 : Int32} {v2 : Int32} {v3 : Int32} {v4 : Int32}  {m : Mem} {t : (Int32 × Int32 × Int32 × Int32 × Mem) ⊕ (Int32 × Mem)} (h : f_X9_mostWishing_J38 v1 v2 v3 v4 m = some t) : Fr (l_X9_mostWishing) m ((mS (fun s => s.2.2.2.2) (fun t => t.2)) t) := by
  have hF : Fr (l_X9_mostWishing) m m := Fr.rf
  rcases fr_if h with h | h
  · obtain ⟨y3, h⟩ := fr_bn h
    obtain rfl := Option.some.inj h
    exact hF
  · have h := (ck_s h).2
    have h := (ck_s h).2
    rcases fr_if h with h | h
    · obtain ⟨y4, h⟩ := fr_bn h
      obtain rfl := Option.some.inj h
      exact hF
    · obtain ⟨y5, h⟩ := fr_bn h
      obtain rfl := Option.some.inj h
      exact hF
theorem fr_X9_mostWishing_L5  {s : Int32 × Int32 × Int32 × Int32 × Mem} {t : (Int32 × Int32 × Int32 × Int32 × Mem) ⊕ (Int32 × Mem)} (h : f_X9_mostWishing_L5 s = some t) : Fr (l_X9_mostWishing) s.2.2.2.2 ((mS (fun s => s.2.2.2.2) (fun t => t.2)) t) := by
  have hF : Fr (l_X9_mostWishing) s.2.2.2.2 s.2.2.2.2 := Fr.rf
  rcases fr_if h with h | h
  · refine fr_up h (fun r h => ?_)
    obtain rfl := Option.some.inj h
    exact hF
  · obtain ⟨q1, h0, h⟩ := Option.bind_eq_some_iff.mp h
    have hF := hF.trans ((fr_X9_wishes h0).sub (fun _ hq => nomatch hq))
    rcases fr_if h with h | h
    · obtain ⟨y2, h⟩ := fr_bn h
      obtain rfl := Option.some.inj h
      exact hF
    · rcases fr_if h with h | h
      · exact hF.trans (fr_X9_mostWishing_J38 h)
      · have h := (ck_s h).2
        rcases fr_if h with h | h
        · obtain ⟨y6, h⟩ := fr_bn h
          obtain rfl := Option.some.inj h
          exact hF
        · exact hF.trans (fr_X9_mostWishing_J38 h)
theorem fr_X9_mostWishing  {p1 : Int32} {p2 : Int32} {m : Mem} {t : Int32 × Mem} (h : f_X9_mostWishing p1 p2 m = some t) : Fr (l_X9_mostWishing) m ((fun t => t.2) t) := by
  have hF : Fr (l_X9_mostWishing) m m := Fr.rf
  have hW := fr_wh (l := l_X9_mostWishing) (f := fun s => s.2.2.2.2) (k := (fun t => t.2)) (fun s t h => fr_X9_mostWishing_L5 h) h
  exact hF.trans hW
theorem fr_X9_chiefLast_L4  {s : Int32 × Int32 × Mem} {t : (Int32 × Int32 × Mem) ⊕ (Int32 × Mem)} (h : f_X9_chiefLast_L4 s = some t) : Fr (l_X9_chiefLast) s.2.2 ((mS (fun s => s.2.2) (fun t => t.2)) t) := by
  have hF : Fr (l_X9_chiefLast) s.2.2 s.2.2 := Fr.rf
  rcases fr_if h with h | h
  · refine fr_up h (fun r h => ?_)
    obtain ⟨q1, h0, h⟩ := Option.bind_eq_some_iff.mp h
    have hF := hF.trans ((fr_X9_mostWishing h0).sub (fun _ hq => nomatch hq))
    rcases fr_if h with h | h
    · obtain rfl := Option.some.inj h
      exact hF
    · obtain ⟨q2, h0, h⟩ := Option.bind_eq_some_iff.mp h
      have hF := hF.trans ((fr_X9_mostWishing h0).sub (fun _ hq => nomatch hq))
      obtain rfl := Option.some.inj h
      exact hF
  · obtain ⟨q3, h0, h⟩ := Option.bind_eq_some_iff.mp h
    have hF := hF.trans ((fr_X9_isThere h0).sub (fun _ hq => nomatch hq))
    rcases fr_if h with h | h
    · obtain ⟨y4, h⟩ := fr_bn h
      obtain rfl := Option.some.inj h
      exact hF
    · have h := (ck_s h).2
      rcases fr_if h with h | h
      · obtain ⟨y5, h⟩ := fr_bn h
        obtain rfl := Option.some.inj h
        exact hF
      · have h := (ck_s h).2
        obtain ⟨y6, h⟩ := fr_bn h
        obtain ⟨y7, h⟩ := fr_bn h
        obtain rfl := Option.some.inj h
        exact hF
theorem fr_X9_chiefLast   {m : Mem} {t : Int32 × Mem} (h : f_X9_chiefLast m = some t) : Fr (l_X9_chiefLast) m ((fun t => t.2) t) := by
  have hF : Fr (l_X9_chiefLast) m m := Fr.rf
  have hW := fr_wh (l := l_X9_chiefLast) (f := fun s => s.2.2) (k := (fun t => t.2)) (fun s t h => fr_X9_chiefLast_L4 h) h
  exact hF.trans hW
theorem fr_X9_comesTo_L12  {s : Int32 × Int32 × Int32 × Mem} {t : (Int32 × Int32 × Int32 × Mem) ⊕ (Int32 × Mem)} (h : f_X9_comesTo_L12 s = some t) : Fr (l_X9_comesTo) s.2.2.2 ((mS (fun s => s.2.2.2) (fun t => t.2)) t) := by
  have hF : Fr (l_X9_comesTo) s.2.2.2 s.2.2.2 := Fr.rf
  rcases fr_if h with h | h
  · refine fr_up h (fun r h => ?_)
    obtain rfl := Option.some.inj h
    exact hF
  · have h := (ck_s h).2
    rcases fr_if h with h | h
    · obtain ⟨y2, h⟩ := fr_bn h
      obtain ⟨y3, h⟩ := fr_bn h
      obtain rfl := Option.some.inj h
      exact hF
    · obtain ⟨q4, h0, h⟩ := Option.bind_eq_some_iff.mp h
      have hF := hF.trans ((fr_X9_isSaid h0).sub (fun _ hq => nomatch hq))
      rcases fr_if h with h | h
      · obtain ⟨y5, h⟩ := fr_bn h
        obtain ⟨y6, h⟩ := fr_bn h
        obtain rfl := Option.some.inj h
        exact hF
      · have h := (ck_s h).2
        obtain ⟨y7, h⟩ := fr_bn h
        obtain ⟨y8, h⟩ := fr_bn h
        obtain rfl := Option.some.inj h
        exact hF
theorem fr_X9_comesTo  {p1 : Int32} {m : Mem} {t : Int32 × Mem} (h : f_X9_comesTo p1 m = some t) : Fr (l_X9_comesTo) m ((fun t => t.2) t) := by
  have hF : Fr (l_X9_comesTo) m m := Fr.rf
  have h := (ck_s h).2
  obtain ⟨y1, h⟩ := fr_bn h
  have hW := fr_wh (l := l_X9_comesTo) (f := fun s => s.2.2.2) (k := (fun t => t.2)) (fun s t h => fr_X9_comesTo_L12 h) h
  exact hF.trans hW
theorem fr_X9_thereFor  {p1 : Int32} {m : Mem} {t : Int32 × Mem} (h : f_X9_thereFor p1 m = some t) : Fr (l_X9_thereFor) m ((fun t => t.2) t) := by
  have hF : Fr (l_X9_thereFor) m m := Fr.rf
  have h := (ck_s h).2
  rcases fr_if h with h | h
  · obtain rfl := Option.some.inj h
    exact hF
  · have h := (ck_s h).2
    obtain rfl := Option.some.inj h
    exact hF
theorem fr_X9_cost_L4  {s : Int32 × Int32 × Mem} {t : (Int32 × Int32 × Mem) ⊕ (Int32 × Mem)} (h : f_X9_cost_L4 s = some t) : Fr (l_X9_cost) s.2.2 ((mS (fun s => s.2.2) (fun t => t.2)) t) := by
  have hF : Fr (l_X9_cost) s.2.2 s.2.2 := Fr.rf
  rcases fr_if h with h | h
  · refine fr_up h (fun r h => ?_)
    obtain rfl := Option.some.inj h
    exact hF
  · have h := (ck_s h).2
    obtain ⟨q1, h0, h⟩ := Option.bind_eq_some_iff.mp h
    have hF := hF.trans ((fr_X9_thereFor h0).sub (fun _ hq => nomatch hq))
    obtain ⟨y2, h⟩ := fr_bn h
    obtain ⟨y3, h⟩ := fr_bn h
    obtain rfl := Option.some.inj h
    exact hF
theorem fr_X9_cost   {m : Mem} {t : Int32 × Mem} (h : f_X9_cost m = some t) : Fr (l_X9_cost) m ((fun t => t.2) t) := by
  have hF : Fr (l_X9_cost) m m := Fr.rf
  have hW := fr_wh (l := l_X9_cost) (f := fun s => s.2.2) (k := (fun t => t.2)) (fun s t h => fr_X9_cost_L4 h) h
  exact hF.trans hW
theorem fr_X9_count  {p1 : Int32} {m : Mem} {t : Int32 × Mem} (h : f_X9_count p1 m = some t) : Fr (l_X9_count) m ((fun t => t.2) t) := by
  have hF : Fr (l_X9_count) m m := Fr.rf
  rcases fr_sw h with h | h | h | h | h | h | h | h
  · obtain rfl := Option.some.inj h
    exact hF
  · obtain rfl := Option.some.inj h
    exact hF
  · obtain rfl := Option.some.inj h
    exact hF
  · obtain rfl := Option.some.inj h
    exact hF
  · obtain rfl := Option.some.inj h
    exact hF
  · obtain rfl := Option.some.inj h
    exact hF
  · obtain rfl := Option.some.inj h
    exact hF
  · obtain rfl := Option.some.inj h
    exact hF
theorem fr_X9_decided_L4  {s : Int32 × Int32 × Mem} {t : (Int32 × Int32 × Mem) ⊕ (Int32 × Mem)} (h : f_X9_decided_L4 s = some t) : Fr (l_X9_decided) s.2.2 ((mS (fun s => s.2.2) (fun t => t.2)) t) := by
  have hF : Fr (l_X9_decided) s.2.2 s.2.2 := Fr.rf
  rcases fr_if h with h | h
  · refine fr_up h (fun r h => ?_)
    obtain rfl := Option.some.inj h
    exact hF
  · obtain ⟨q1, h0, h⟩ := Option.bind_eq_some_iff.mp h
    have hF := hF.trans ((fr_X9_comesTo h0).sub (fun _ hq => nomatch hq))
    rcases fr_if h with h | h
    · obtain ⟨y2, h⟩ := fr_bn h
      obtain ⟨y3, h⟩ := fr_bn h
      obtain rfl := Option.some.inj h
      exact hF
    · obtain ⟨y4, h⟩ := fr_bn h
      obtain ⟨y5, h⟩ := fr_bn h
      obtain rfl := Option.some.inj h
      exact hF
theorem fr_X9_decided   {m : Mem} {t : Int32 × Mem} (h : f_X9_decided m = some t) : Fr (l_X9_decided) m ((fun t => t.2) t) := by
  have hF : Fr (l_X9_decided) m m := Fr.rf
  have hW := fr_wh (l := l_X9_decided) (f := fun s => s.2.2) (k := (fun t => t.2)) (fun s t h => fr_X9_decided_L4 h) h
  exact hF.trans hW
theorem fr_X9_did_J134  {v1 : Int32} {v2 : Int32} {v3 : Int32} {v4 : Int32} {v5 : Int32} {v6 : Int32} {t0 : Int32}  {m : Mem} {t : (Int32 × Int32 × Int32 × Int32 × Int32 × Int32 × Mem) ⊕ (Int32 × Mem)} (h : f_X9_did_J134 v1 v2 v3 v4 v5 v6 t0 m = some t) : Fr (l_X9_did) m ((mS (fun s => s.2.2.2.2.2.2) (fun t => t.2)) t) := by
  have hF : Fr (l_X9_did) m m := Fr.rf
  rcases fr_if h with h | h
  · obtain ⟨y5, h⟩ := fr_bn h
    obtain ⟨y6, h⟩ := fr_bn h
    obtain rfl := Option.some.inj h
    exact hF
  · have h := (ck_s h).2
    have h := (ck_s h).2
    rcases fr_if h with h | h
    · obtain ⟨y7, h⟩ := fr_bn h
      obtain ⟨y8, h⟩ := fr_bn h
      obtain rfl := Option.some.inj h
      exact hF
    · have h := (ck_s h).2
      have h := (ck_s h).2
      rcases fr_if h with h | h
      · obtain ⟨y9, h⟩ := fr_bn h
        obtain ⟨y10, h⟩ := fr_bn h
        obtain rfl := Option.some.inj h
        exact hF
      · obtain ⟨y11, h⟩ := fr_bn h
        obtain ⟨y12, h⟩ := fr_bn h
        obtain rfl := Option.some.inj h
        exact hF
theorem fr_X9_did_J133  {v1 : Int32} {v2 : Int32} {v3 : Int32} {v4 : Int32} {v5 : Int32} {v6 : Int32}  {m : Mem} {t : (Int32 × Int32 × Int32 × Int32 × Int32 × Int32 × Mem) ⊕ (Int32 × Mem)} (h : f_X9_did_J133 v1 v2 v3 v4 v5 v6 m = some t) : Fr (l_X9_did) m ((mS (fun s => s.2.2.2.2.2.2) (fun t => t.2)) t) := by
  have hF : Fr (l_X9_did) m m := Fr.rf
  exact hF.trans (fr_X9_did_J134 h)
theorem fr_X9_did_J105  {v1 : Int32} {v2 : Int32} {v3 : Int32} {v5 : Int32} {v6 : Int32} {t0 : Int32} {t1 : Int32}  {m : Mem} {t : (Int32 × Int32 × Int32 × Int32 × Int32 × Int32 × Mem) ⊕ (Int32 × Mem)} (h : f_X9_did_J105 v1 v2 v3 v5 v6 t0 t1 m = some t) : Fr (l_X9_did) m ((mS (fun s => s.2.2.2.2.2.2) (fun t => t.2)) t) := by
  have hF : Fr (l_X9_did) m m := Fr.rf
  obtain ⟨y4, h⟩ := fr_bn h
  have h := (ck_s h).2
  rcases fr_if h with h | h
  · exact hF.trans (fr_X9_did_J133 h)
  · have h := (ck_s h).2
    rcases fr_if h with h | h
    · exact hF.trans (fr_X9_did_J133 h)
    · exact hF.trans (fr_X9_did_J134 h)
theorem fr_X9_did_J85  {v1 : Int32} {v2 : Int32} {v4 : Int32} {v5 : Int32} {v6 : Int32} {t0 : Int32} {t1 : Int32}  {m : Mem} {t : (Int32 × Int32 × Int32 × Int32 × Int32 × Int32 × Mem) ⊕ (Int32 × Mem)} (h : f_X9_did_J85 v1 v2 v4 v5 v6 t0 t1 m = some t) : Fr (l_X9_did) m ((mS (fun s => s.2.2.2.2.2.2) (fun t => t.2)) t) := by
  have hF : Fr (l_X9_did) m m := Fr.rf
  obtain ⟨y3, h⟩ := fr_bn h
  have h := (ck_s h).2
  rcases fr_if h with h | h
  · exact hF.trans (fr_X9_did_J105 h)
  · exact hF.trans (fr_X9_did_J105 h)
theorem fr_X9_did_L53  {s : Int32 × Int32 × Int32 × Int32 × Int32 × Int32 × Mem} {t : (Int32 × Int32 × Int32 × Int32 × Int32 × Int32 × Mem) ⊕ (Int32 × Mem)} (h : f_X9_did_L53 s = some t) : Fr (l_X9_did) s.2.2.2.2.2.2 ((mS (fun s => s.2.2.2.2.2.2) (fun t => t.2)) t) := by
  have hF : Fr (l_X9_did) s.2.2.2.2.2.2 s.2.2.2.2.2.2 := Fr.rf
  rcases fr_if h with h | h
  · refine fr_up h (fun r h => ?_)
    rcases fr_if h with h | h
    · rcases fr_if h with h | h
      · rcases fr_if h with h | h
        · have h := (ck_s h).2
          obtain rfl := Option.some.inj h
          exact hF
        · obtain rfl := Option.some.inj h
          exact hF
      · obtain rfl := Option.some.inj h
        exact hF
    · have h := (ck_s h).2
      rcases fr_if h with h | h
      · have h := (ck_s h).2
        have h := (dv_s h).2
        obtain rfl := Option.some.inj h
        exact hF
      · obtain rfl := Option.some.inj h
        exact hF
  · have h := (ck_s h).2
    rcases fr_if h with h | h
    · exact hF.trans (fr_X9_did_J85 h)
    · have h := (ck_s h).2
      exact hF.trans (fr_X9_did_J85 h)
theorem fr_X9_did  {p1 : Int32} {p2 : Int32} {m : Mem} {t : Int32 × Mem} (h : f_X9_did p1 p2 m = some t) : Fr (l_X9_did) m ((fun t => t.2) t) := by
  have hF : Fr (l_X9_did) m m := Fr.rf
  obtain ⟨q1, h0, h⟩ := Option.bind_eq_some_iff.mp h
  have hF := hF.trans ((fr_X9_within h0).sub (fun _ hq => nomatch hq))
  rcases fr_if h with h | h
  · rcases fr_if h with h | h
    · obtain ⟨q2, h0, h⟩ := Option.bind_eq_some_iff.mp h
      have hF := hF.trans ((fr_X9_within h0).sub (fun _ hq => nomatch hq))
      rcases fr_if h with h | h
      · have hW := fr_wh (l := l_X9_did) (f := fun s => s.2.2.2.2.2.2) (k := (fun t => t.2)) (fun s t h => fr_X9_did_L53 h) h
        exact hF.trans hW
      · obtain rfl := Option.some.inj h
        exact hF
    · obtain rfl := Option.some.inj h
      exact hF
  · obtain rfl := Option.some.inj h
    exact hF
theorem fr_X9_either_L5 {rc : Mem → Option (Int32 × Mem)} (hrf : ∀ (m : Mem) (t : Int32 × Mem), rc m = some t → Fr l_X9_one m ((fun t => t.2) t))  {s : Int32 × Mem} {t : (Int32 × Mem) ⊕ (Int32 × Mem)} (h : f_X9_either_L5 rc s = some t) : Fr (l_X9_either) s.2 ((mS (fun s => s.2) (fun t => t.2)) t) := by
  have hF : Fr (l_X9_either) s.2 s.2 := Fr.rf
  obtain ⟨q2, h0, h⟩ := Option.bind_eq_some_iff.mp h
  have hF := hF.trans ((fr_X9_takes h0).sub (fr_ix [0] rfl))
  rcases fr_if h with h | h
  · refine fr_up h (fun r h => ?_)
    obtain rfl := Option.some.inj h
    exact hF
  · obtain ⟨q3, h0, h⟩ := Option.bind_eq_some_iff.mp h
    have hF := hF.trans ((fr_X9_both hrf h0).sub (fr_ix [0, 1, 2] rfl))
    rcases fr_if h with h | h
    · obtain rfl := Option.some.inj h
      exact hF
    · rcases fr_if h with h | h
      · obtain rfl := Option.some.inj h
        exact hF
      · obtain rfl := Option.some.inj h
        exact hF
theorem fr_X9_either {rc : Mem → Option (Int32 × Mem)} (hrf : ∀ (m : Mem) (t : Int32 × Mem), rc m = some t → Fr l_X9_one m ((fun t => t.2) t))   {m : Mem} {t : Int32 × Mem} (h : f_X9_either rc m = some t) : Fr (l_X9_either) m ((fun t => t.2) t) := by
  have hF : Fr (l_X9_either) m m := Fr.rf
  obtain ⟨q1, h0, h⟩ := Option.bind_eq_some_iff.mp h
  have hF := hF.trans ((fr_X9_both hrf h0).sub (fr_ix [0, 1, 2] rfl))
  have hW := fr_wh (l := l_X9_either) (f := fun s => s.2) (k := (fun t => t.2)) (fun s t h => fr_X9_either_L5 hrf h) h
  exact hF.trans hW
theorem fr_X9_refusal  {p1 : Int32} {p2 : Int32} {m : Mem} {t : Int32 × Mem} (h : f_X9_refusal p1 p2 m = some t) : Fr (l_X9_refusal) m ((fun t => t.2) t) := by
  have hF : Fr (l_X9_refusal) m m := Fr.rf
  obtain ⟨q1, h0, h⟩ := Option.bind_eq_some_iff.mp h
  have hF := hF.trans ((fr_X9_isShelf h0).sub (fun _ hq => nomatch hq))
  rcases fr_if h with h | h
  · have h := (ck_s h).2
    rcases fr_if h with h | h
    · have h := (ck_s h).2
      rcases fr_if h with h | h
      · rcases fr_if h with h | h
        · obtain rfl := Option.some.inj h
          exact hF
        · have h := (ck_s h).2
          rcases fr_if h with h | h
          · obtain rfl := Option.some.inj h
            exact hF
          · obtain rfl := Option.some.inj h
            exact hF
      · obtain rfl := Option.some.inj h
        exact hF
    · obtain rfl := Option.some.inj h
      exact hF
  · obtain rfl := Option.some.inj h
    exact hF
theorem fr_X9_element  {p1 : Int32} {p2 : Int32} {m : Mem} {t : Int64 × Mem} (h : f_X9_element p1 p2 m = some t) : Fr (l_X9_element) m ((fun t => t.2) t) := by
  have hF : Fr (l_X9_element) m m := Fr.rf
  obtain ⟨q1, h0, h⟩ := Option.bind_eq_some_iff.mp h
  have hF := hF.trans ((fr_X9_refusal h0).sub (fun _ hq => nomatch hq))
  rcases fr_if h with h | h
  · have h := (ck_s h).2
    obtain rfl := Option.some.inj h
    exact hF
  · obtain rfl := Option.some.inj h
    exact hF
theorem fr_X9_feed  {p1 : Int32} {m : Mem} {t : Int32 × Mem} (h : f_X9_feed p1 m = some t) : Fr (l_X9_feed) m ((fun t => t.2) t) := by
  have hF : Fr (l_X9_feed) m m := Fr.rf
  obtain ⟨q1, h0, h⟩ := Option.bind_eq_some_iff.mp h
  have hF := hF.trans ((fr_X9_within h0).sub (fun _ hq => nomatch hq))
  rcases fr_if h with h | h
  · rcases fr_if h with h | h
    · have h := (ck_s h).2
      obtain ⟨m2, hF, h⟩ := fr_stI (fr_at 0 rfl) hF h
      obtain ⟨m3, hF, h⟩ := fr_stI (fr_at 1 rfl) hF h
      obtain rfl := Option.some.inj h
      exact hF
    · obtain rfl := Option.some.inj h
      exact hF
  · obtain rfl := Option.some.inj h
    exact hF
theorem fr_X9_isTable   {m : Mem} {t : Int32 × Mem} (h : f_X9_isTable m = some t) : Fr (l_X9_isTable) m ((fun t => t.2) t) := by
  have hF : Fr (l_X9_isTable) m m := Fr.rf
  rcases fr_if h with h | h
  · have h := (bz_s h).2
    obtain rfl := Option.some.inj h
    exact hF
  · rcases fr_if h with h | h
    · have h := (bz_s h).2
      obtain rfl := Option.some.inj h
      exact hF
    · have h := (bz_s h).2
      obtain rfl := Option.some.inj h
      exact hF
theorem fr_X9_plain_L23  {s : Int32 × Mem} {t : (Int32 × Mem) ⊕ Mem} (h : f_X9_plain_L23 s = some t) : Fr (l_X9_plain) s.2 ((mS (fun s => s.2) (fun t => t)) t) := by
  have hF : Fr (l_X9_plain) s.2 s.2 := Fr.rf
  rcases fr_if h with h | h
  · refine fr_up h (fun r h => ?_)
    obtain rfl := Option.some.inj h
    exact hF
  · have h := (ck_s h).2
    obtain ⟨m4, hF, h⟩ := fr_stI (fr_at 0 rfl) hF h
    obtain ⟨y5, h⟩ := fr_bn h
    obtain rfl := Option.some.inj h
    exact hF
theorem fr_X9_plain   {m : Mem} {t : Mem} (h : f_X9_plain m = some t) : Fr (l_X9_plain) m ((fun t => t) t) := by
  have hF : Fr (l_X9_plain) m m := Fr.rf
  obtain ⟨m1, hF, h⟩ := fr_stI (fr_at 1 rfl) hF h
  obtain ⟨m2, hF, h⟩ := fr_stI (fr_at 2 rfl) hF h
  obtain ⟨m3, hF, h⟩ := fr_stI (fr_at 3 rfl) hF h
  have hW := fr_wh (l := l_X9_plain) (f := fun s => s.2) (k := (fun t => t)) (fun s t h => fr_X9_plain_L23 h) h
  exact hF.trans hW
theorem fr_X9_knows  {p1 : Int32} {p2 : Int32} {m : Mem} {t : Int32 × Mem} (h : f_X9_knows p1 p2 m = some t) : Fr (l_X9_knows) m ((fun t => t.2) t) := by
  have hF : Fr (l_X9_knows) m m := Fr.rf
  have h := (ck_s h).2
  rcases fr_if h with h | h
  · have h := (bz_s h).2
    obtain rfl := Option.some.inj h
    exact hF
  · have h := (bz_s h).2
    obtain rfl := Option.some.inj h
    exact hF
theorem fr_X9_putsPaper_L12  {s : Int32 × Int32 × Int32 × Mem} {t : (Int32 × Int32 × Int32 × Mem) ⊕ ((Int32 × Int32 × Mem) ⊕ Mem)} (h : f_X9_putsPaper_L12 s = some t) : Fr (l_X9_putsPaper) s.2.2.2 ((mS (fun s => s.2.2.2) (mS (fun s => s.2.2) (fun t => t))) t) := by
  have hF : Fr (l_X9_putsPaper) s.2.2.2 s.2.2.2 := Fr.rf
  rcases fr_if h with h | h
  · refine fr_up h (fun r h => ?_)
    obtain ⟨y1, h⟩ := fr_bn h
    obtain rfl := Option.some.inj h
    exact hF
  · have h := (ck_s h).2
    rcases fr_if h with h | h
    · obtain ⟨y2, h⟩ := fr_bn h
      obtain rfl := Option.some.inj h
      exact hF
    · obtain ⟨q3, h0, h⟩ := Option.bind_eq_some_iff.mp h
      have hF := hF.trans ((fr_X9_isSaid h0).sub (fun _ hq => nomatch hq))
      rcases fr_if h with h | h
      · obtain ⟨y4, h⟩ := fr_bn h
        obtain rfl := Option.some.inj h
        exact hF
      · obtain ⟨q5, h0, h⟩ := Option.bind_eq_some_iff.mp h
        have hF := hF.trans ((fr_X9_isThere h0).sub (fun _ hq => nomatch hq))
        rcases fr_if h with h | h
        · obtain ⟨y6, h⟩ := fr_bn h
          obtain rfl := Option.some.inj h
          exact hF
        · obtain ⟨q7, h0, h⟩ := Option.bind_eq_some_iff.mp h
          have hF := hF.trans ((fr_X9_knows h0).sub (fun _ hq => nomatch hq))
          rcases fr_if h with h | h
          · obtain ⟨y8, h⟩ := fr_bn h
            obtain rfl := Option.some.inj h
            exact hF
          · have h := (ck_s h).2
            obtain ⟨m9, hF, h⟩ := fr_stI (fr_at 0 rfl) hF h
            have h := (ck_s h).2
            obtain ⟨m10, hF, h⟩ := fr_stI (fr_at 1 rfl) hF h
            obtain ⟨y11, h⟩ := fr_bn h
            obtain rfl := Option.some.inj h
            exact hF
theorem fr_X9_putsPaper_L2  {s : Int32 × Int32 × Mem} {t : (Int32 × Int32 × Mem) ⊕ Mem} (h : f_X9_putsPaper_L2 s = some t) : Fr (l_X9_putsPaper) s.2.2 ((mS (fun s => s.2.2) (fun t => t)) t) := by
  have hF : Fr (l_X9_putsPaper) s.2.2 s.2.2 := Fr.rf
  rcases fr_if h with h | h
  · refine fr_up h (fun r h => ?_)
    obtain rfl := Option.some.inj h
    exact hF
  · have hW := fr_wh (l := l_X9_putsPaper) (f := fun s => s.2.2.2) (k := (mS (fun s => s.2.2) (fun t => t))) (fun s t h => fr_X9_putsPaper_L12 h) h
    exact hF.trans hW
theorem fr_X9_putsPaper  {p1 : Int32} {m : Mem} {t : Mem} (h : f_X9_putsPaper p1 m = some t) : Fr (l_X9_putsPaper) m ((fun t => t) t) := by
  have hF : Fr (l_X9_putsPaper) m m := Fr.rf
  have hW := fr_wh (l := l_X9_putsPaper) (f := fun s => s.2.2) (k := (fun t => t)) (fun s t h => fr_X9_putsPaper_L2 h) h
  exact hF.trans hW
theorem fr_X9_unsaid_L5  {s : Int32 × Int32 × Int32 × Int32 × Mem} {t : (Int32 × Int32 × Int32 × Int32 × Mem) ⊕ (Int32 × Mem)} (h : f_X9_unsaid_L5 s = some t) : Fr (l_X9_unsaid) s.2.2.2.2 ((mS (fun s => s.2.2.2.2) (fun t => t.2)) t) := by
  have hF : Fr (l_X9_unsaid) s.2.2.2.2 s.2.2.2.2 := Fr.rf
  rcases fr_if h with h | h
  · refine fr_up h (fun r h => ?_)
    obtain rfl := Option.some.inj h
    exact hF
  · have h := (ck_s h).2
    rcases fr_if h with h | h
    · obtain ⟨y1, h⟩ := fr_bn h
      obtain ⟨y2, h⟩ := fr_bn h
      obtain rfl := Option.some.inj h
      exact hF
    · obtain ⟨q3, h0, h⟩ := Option.bind_eq_some_iff.mp h
      have hF := hF.trans ((fr_X9_knows h0).sub (fun _ hq => nomatch hq))
      rcases fr_if h with h | h
      · obtain ⟨y4, h⟩ := fr_bn h
        obtain ⟨y5, h⟩ := fr_bn h
        obtain rfl := Option.some.inj h
        exact hF
      · obtain ⟨q6, h0, h⟩ := Option.bind_eq_some_iff.mp h
        have hF := hF.trans ((fr_X9_isSaid h0).sub (fun _ hq => nomatch hq))
        rcases fr_if h with h | h
        · obtain ⟨y7, h⟩ := fr_bn h
          obtain ⟨y8, h⟩ := fr_bn h
          obtain rfl := Option.some.inj h
          exact hF
        · obtain ⟨y9, h⟩ := fr_bn h
          obtain ⟨y10, h⟩ := fr_bn h
          obtain rfl := Option.some.inj h
          exact hF
theorem fr_X9_unsaid  {p1 : Int32} {p2 : Int32} {m : Mem} {t : Int32 × Mem} (h : f_X9_unsaid p1 p2 m = some t) : Fr (l_X9_unsaid) m ((fun t => t.2) t) := by
  have hF : Fr (l_X9_unsaid) m m := Fr.rf
  have hW := fr_wh (l := l_X9_unsaid) (f := fun s => s.2.2.2.2) (k := (fun t => t.2)) (fun s t h => fr_X9_unsaid_L5 h) h
  exact hF.trans hW
theorem fr_X9_wrong   {m : Mem} {t : Int32 × Mem} (h : f_X9_wrong m = some t) : Fr (l_X9_wrong) m ((fun t => t.2) t) := by
  have hF : Fr (l_X9_wrong) m m := Fr.rf
  rcases fr_if h with h | h
  · obtain ⟨m1, hF, h⟩ := fr_stI (fr_at 0 rfl) hF h
    obtain rfl := Option.some.inj h
    exact hF
  · obtain ⟨m2, hF, h⟩ := fr_stI (fr_at 0 rfl) hF h
    obtain rfl := Option.some.inj h
    exact hF
theorem fr_X9_nameOf  {p1 : Int32} {m : Mem} {t : Int32 × Mem} (h : f_X9_nameOf p1 m = some t) : Fr (l_X9_nameOf) m ((fun t => t.2) t) := by
  have hF : Fr (l_X9_nameOf) m m := Fr.rf
  rcases fr_sw h with h | h | h | h | h | h | h | h | h | h | h | h | h | h | h | h | h | h | h
  · obtain rfl := Option.some.inj h
    exact hF
  · obtain rfl := Option.some.inj h
    exact hF
  · obtain rfl := Option.some.inj h
    exact hF
  · obtain rfl := Option.some.inj h
    exact hF
  · obtain rfl := Option.some.inj h
    exact hF
  · obtain rfl := Option.some.inj h
    exact hF
  · obtain rfl := Option.some.inj h
    exact hF
  · obtain rfl := Option.some.inj h
    exact hF
  · obtain rfl := Option.some.inj h
    exact hF
  · obtain rfl := Option.some.inj h
    exact hF
  · obtain rfl := Option.some.inj h
    exact hF
  · obtain rfl := Option.some.inj h
    exact hF
  · obtain rfl := Option.some.inj h
    exact hF
  · obtain rfl := Option.some.inj h
    exact hF
  · obtain rfl := Option.some.inj h
    exact hF
  · obtain rfl := Option.some.inj h
    exact hF
  · obtain rfl := Option.some.inj h
    exact hF
  · obtain rfl := Option.some.inj h
    exact hF
  · obtain rfl := Option.some.inj h
    exact hF
theorem fr_X9_one_J104 {rc : Mem → Option (Int32 × Mem)} (hrf : ∀ (m : Mem) (t : Int32 × Mem), rc m = some t → Fr l_X9_one m ((fun t => t.2) t))  {v1 : Int32} {v2 : Int32}  {m : Mem} {t : Int32 × Mem} (h : f_X9_one_J104 rc v1 v2 m = some t) : Fr (l_X9_one) m ((fun t => t.2) t) := by
  have hF : Fr (l_X9_one) m m := Fr.rf
  obtain ⟨m5, hF, h⟩ := fr_stI (fr_at 2 rfl) hF h
  rcases fr_if h with h | h
  · rcases fr_if h with h | h
    · rcases fr_if h with h | h
      · obtain rfl := Option.some.inj h
        exact hF
      · obtain rfl := Option.some.inj h
        exact hF
    · obtain rfl := Option.some.inj h
      exact hF
  · obtain rfl := Option.some.inj h
    exact hF
theorem fr_X9_one_J83 {rc : Mem → Option (Int32 × Mem)} (hrf : ∀ (m : Mem) (t : Int32 × Mem), rc m = some t → Fr l_X9_one m ((fun t => t.2) t))  {v1 : Int32} {t0 : Int32}  {m : Mem} {t : Int32 × Mem} (h : f_X9_one_J83 rc v1 t0 m = some t) : Fr (l_X9_one) m ((fun t => t.2) t) := by
  have hF : Fr (l_X9_one) m m := Fr.rf
  rcases fr_if h with h | h
  · exact hF.trans (fr_X9_one_J104 hrf h)
  · obtain ⟨q6, h0, h⟩ := Option.bind_eq_some_iff.mp h
    have hF := hF.trans ((fr_X9_takes h0).sub (fr_ix [0] rfl))
    rcases fr_if h with h | h
    · exact hF.trans (fr_X9_one_J104 hrf h)
    · obtain ⟨q7, h0, h⟩ := Option.bind_eq_some_iff.mp h
      have hF := hF.trans ((fr_X9_wrong h0).sub (fr_ix [1] rfl))
      obtain rfl := Option.some.inj h
      exact hF
theorem fr_X9_one_J32 {rc : Mem → Option (Int32 × Mem)} (hrf : ∀ (m : Mem) (t : Int32 × Mem), rc m = some t → Fr l_X9_one m ((fun t => t.2) t))  {v1 : Int32}  {m : Mem} {t : Int32 × Mem} (h : f_X9_one_J32 rc v1 m = some t) : Fr (l_X9_one) m ((fun t => t.2) t) := by
  have hF : Fr (l_X9_one) m m := Fr.rf
  rcases fr_if h with h | h
  · obtain ⟨m2, hF, h⟩ := fr_stI (fr_at 2 rfl) hF h
    obtain ⟨m3, hF, h⟩ := fr_stI (fr_at 0 rfl) hF h
    rcases fr_if h with h | h
    · obtain ⟨q4, h0, h⟩ := Option.bind_eq_some_iff.mp h
      have hF := hF.trans ((hrf _ _ h0).sub (fr_ix [0, 1, 2] rfl))
      exact hF.trans (fr_X9_one_J83 hrf h)
    · obtain ⟨q8, h0, h⟩ := Option.bind_eq_some_iff.mp h
      have hF := hF.trans ((fr_X9_either hrf h0).sub (fr_ix [0, 1, 2] rfl))
      exact hF.trans (fr_X9_one_J83 hrf h)
  · obtain ⟨q9, h0, h⟩ := Option.bind_eq_some_iff.mp h
    have hF := hF.trans ((fr_X9_wrong h0).sub (fr_ix [1] rfl))
    obtain rfl := Option.some.inj h
    exact hF
theorem fr_X9_one_J229 {rc : Mem → Option (Int32 × Mem)} (hrf : ∀ (m : Mem) (t : Int32 × Mem), rc m = some t → Fr l_X9_one m ((fun t => t.2) t))  {v3 : Int32} {v4 : Int32}  {m : Mem} {t : Int32 × Mem} (h : f_X9_one_J229 rc v3 v4 m = some t) : Fr (l_X9_one) m ((fun t => t.2) t) := by
  have hF : Fr (l_X9_one) m m := Fr.rf
  rcases fr_if h with h | h
  · obtain rfl := Option.some.inj h
    exact hF
  · obtain ⟨q11, h0, h⟩ := Option.bind_eq_some_iff.mp h
    have hF := hF.trans ((fr_X9_wrong h0).sub (fr_ix [1] rfl))
    obtain rfl := Option.some.inj h
    exact hF
theorem fr_X9_one_L176 {rc : Mem → Option (Int32 × Mem)} (hrf : ∀ (m : Mem) (t : Int32 × Mem), rc m = some t → Fr l_X9_one m ((fun t => t.2) t))  {s : Int32 × Int32 × Mem} {t : (Int32 × Int32 × Mem) ⊕ (Int32 × Mem)} (h : f_X9_one_L176 rc s = some t) : Fr (l_X9_one) s.2.2 ((mS (fun s => s.2.2) (fun t => t.2)) t) := by
  have hF : Fr (l_X9_one) s.2.2 s.2.2 := Fr.rf
  rcases fr_if h with h | h
  · refine fr_up h (fun r h => ?_)
    exact hF.trans (fr_X9_one_J229 hrf h)
  · obtain ⟨q12, h0, h⟩ := Option.bind_eq_some_iff.mp h
    have hF := hF.trans ((fr_X9_byteAt h0).sub (fun _ hq => nomatch hq))
    rcases fr_if h with h | h
    · refine fr_up h (fun r h => ?_)
      exact hF.trans (fr_X9_one_J229 hrf h)
    · obtain ⟨q13, h0, h⟩ := Option.bind_eq_some_iff.mp h
      have hF := hF.trans ((fr_X9_byteAt h0).sub (fun _ hq => nomatch hq))
      rcases fr_if h with h | h
      · refine fr_up h (fun r h => ?_)
        exact hF.trans (fr_X9_one_J229 hrf h)
      · obtain ⟨q14, h0, h⟩ := Option.bind_eq_some_iff.mp h
        have hF := hF.trans ((fr_X9_byteAt h0).sub (fun _ hq => nomatch hq))
        obtain ⟨y15, h⟩ := fr_bn h
        obtain ⟨y16, h⟩ := fr_bn h
        obtain ⟨m17, hF, h⟩ := fr_stI (fr_at 0 rfl) hF h
        obtain rfl := Option.some.inj h
        exact hF
theorem fr_X9_one_B {rc : Mem → Option (Int32 × Mem)} (hrf : ∀ (m : Mem) (t : Int32 × Mem), rc m = some t → Fr l_X9_one m ((fun t => t.2) t))   {m : Mem} {t : Int32 × Mem} (h : f_X9_one_B rc m = some t) : Fr (l_X9_one) m ((fun t => t.2) t) := by
  have hF : Fr (l_X9_one) m m := Fr.rf
  rcases fr_if h with h | h
  · obtain ⟨q1, h0, h⟩ := Option.bind_eq_some_iff.mp h
    have hF := hF.trans ((fr_X9_byteAt h0).sub (fun _ hq => nomatch hq))
    rcases fr_if h with h | h
    · exact hF.trans (fr_X9_one_J32 hrf h)
    · rcases fr_if h with h | h
      · exact hF.trans (fr_X9_one_J32 hrf h)
      · rcases fr_if h with h | h
        · obtain ⟨q10, h0, h⟩ := Option.bind_eq_some_iff.mp h
          have hF := hF.trans ((fr_X9_nameOf h0).sub (fun _ hq => nomatch hq))
          rcases fr_if h with h | h
          · have hW := fr_wh (l := l_X9_one) (f := fun s => s.2.2) (k := (fun t => t.2)) (fun s t h => fr_X9_one_L176 hrf h) h
            exact hF.trans hW
          · obtain ⟨m18, hF, h⟩ := fr_stI (fr_at 0 rfl) hF h
            have h := (ck_s h).2
            obtain rfl := Option.some.inj h
            exact hF
        · exact hF.trans (fr_X9_one_J32 hrf h)
  · obtain rfl := Option.some.inj h
    exact hF
theorem fr_X9_one (n : Nat) : ∀ {m : Mem} {t : Int32 × Mem}, f_X9_one n m = some t → Fr (l_X9_one) m ((fun t => t.2) t) := by
  induction n with
  | zero => intro m t h; cases h
  | succ n ih => intro m t h; exact fr_X9_one_B (fun _ _ h => ih h) h
theorem fr_X9_workOut_J74  {v3 : Int32} {v4 : Int32} {v6 : Int32} {v7 : Int32}  {m : Mem} {t : (Int32 × Int32 × Int32 × Mem) ⊕ (Int32 × Mem)} (h : f_X9_workOut_J74 v3 v4 v6 v7 m = some t) : Fr (l_X9_workOut) m ((mS (fun s => s.2.2.2) (fun t => t.2)) t) := by
  have hF : Fr (l_X9_workOut) m m := Fr.rf
  rcases fr_if h with h | h
  · obtain ⟨q9, h0, h⟩ := Option.bind_eq_some_iff.mp h
    have hF := hF.trans ((fr_X9_takes h0).sub (fr_ix [1] rfl))
    obtain rfl := Option.some.inj h
    exact hF
  · rcases fr_if h with h | h
    · obtain ⟨q10, h0, h⟩ := Option.bind_eq_some_iff.mp h
      have hF := hF.trans ((fr_X9_takes h0).sub (fr_ix [1] rfl))
      obtain rfl := Option.some.inj h
      exact hF
    · rcases fr_if h with h | h
      · obtain ⟨q11, h0, h⟩ := Option.bind_eq_some_iff.mp h
        have hF := hF.trans ((fr_X9_takes h0).sub (fr_ix [1] rfl))
        obtain rfl := Option.some.inj h
        exact hF
      · obtain ⟨q12, h0, h⟩ := Option.bind_eq_some_iff.mp h
        have hF := hF.trans ((fr_X9_takes h0).sub (fr_ix [1] rfl))
        obtain rfl := Option.some.inj h
        exact hF
theorem fr_X9_workOut_J66  {v3 : Int32} {v4 : Int32} {t0 : Int32}  {m : Mem} {t : (Int32 × Int32 × Int32 × Mem) ⊕ (Int32 × Mem)} (h : f_X9_workOut_J66 v3 v4 t0 m = some t) : Fr (l_X9_workOut) m ((mS (fun s => s.2.2.2) (fun t => t.2)) t) := by
  have hF : Fr (l_X9_workOut) m m := Fr.rf
  obtain ⟨q13, h0, h⟩ := Option.bind_eq_some_iff.mp h
  have hF := hF.trans ((fr_X9_either (fun _ _ h => fr_X9_one _ h) h0).sub (fr_ix [1, 3, 4] rfl))
  exact hF.trans (fr_X9_workOut_J74 h)
theorem fr_X9_workOut_L33  {s : Int32 × Int32 × Int32 × Mem} {t : (Int32 × Int32 × Int32 × Mem) ⊕ (Int32 × Mem)} (h : f_X9_workOut_L33 s = some t) : Fr (l_X9_workOut) s.2.2.2 ((mS (fun s => s.2.2.2) (fun t => t.2)) t) := by
  have hF : Fr (l_X9_workOut) s.2.2.2 s.2.2.2 := Fr.rf
  rcases fr_if h with h | h
  · refine fr_up h (fun r h => ?_)
    rcases fr_if h with h | h
    · obtain rfl := Option.some.inj h
      exact hF
    · rcases fr_if h with h | h
      · obtain rfl := Option.some.inj h
        exact hF
      · obtain ⟨q6, h0, h⟩ := Option.bind_eq_some_iff.mp h
        have hF := hF.trans ((fr_X9_wrong h0).sub (fr_ix [3] rfl))
        obtain rfl := Option.some.inj h
        exact hF
  · obtain ⟨q7, h0, h⟩ := Option.bind_eq_some_iff.mp h
    have hF := hF.trans ((fr_X9_either (fun _ _ h => fr_X9_one _ h) h0).sub (fr_ix [1, 3, 4] rfl))
    obtain ⟨q8, h0, h⟩ := Option.bind_eq_some_iff.mp h
    have hF := hF.trans ((fr_X9_takes h0).sub (fr_ix [1] rfl))
    rcases fr_if h with h | h
    · exact hF.trans (fr_X9_workOut_J74 h)
    · rcases fr_if h with h | h
      · exact hF.trans (fr_X9_workOut_J66 h)
      · exact hF.trans (fr_X9_workOut_J66 h)
theorem fr_X9_workOut  {p1 : Int32} {p2 : Int32} {m : Mem} {t : Int32 × Mem} (h : f_X9_workOut p1 p2 m = some t) : Fr (l_X9_workOut) m ((fun t => t.2) t) := by
  have hF : Fr (l_X9_workOut) m m := Fr.rf
  obtain ⟨m1, hF, h⟩ := fr_stI (fr_at 0 rfl) hF h
  obtain ⟨m2, hF, h⟩ := fr_stI (fr_at 1 rfl) hF h
  obtain ⟨m3, hF, h⟩ := fr_stI (fr_at 2 rfl) hF h
  obtain ⟨m4, hF, h⟩ := fr_stI (fr_at 3 rfl) hF h
  obtain ⟨m5, hF, h⟩ := fr_stI (fr_at 4 rfl) hF h
  have hW := fr_wh (l := l_X9_workOut) (f := fun s => s.2.2.2) (k := (fun t => t.2)) (fun s t h => fr_X9_workOut_L33 h) h
  exact hF.trans hW
theorem fr_X9_wishOf  {p1 : Int32} {p2 : Int32} {p3 : Int32} {p4 : Int32} {p5 : Int32} {p6 : Int32} {m : Mem} {t : Int32 × Mem} (h : f_X9_wishOf p1 p2 p3 p4 p5 p6 m = some t) : Fr (l_X9_wishOf) m ((fun t => t.2) t) := by
  have hF : Fr (l_X9_wishOf) m m := Fr.rf
  have h := (ck_s h).2
  obtain ⟨y1, h⟩ := fr_bn h
  have h := (ck_s h).2
  obtain ⟨y2, h⟩ := fr_bn h
  rcases fr_if h with h | h
  · have h := (ck_s h).2
    have h := (ck_s h).2
    obtain ⟨m3, hF, h⟩ := fr_stI (fr_at 0 rfl) hF h
    have h := (ck_s h).2
    obtain ⟨m4, hF, h⟩ := fr_stI (fr_at 0 rfl) hF h
    have h := (ck_s h).2
    obtain ⟨m5, hF, h⟩ := fr_stI (fr_at 0 rfl) hF h
    have h := (ck_s h).2
    obtain ⟨m6, hF, h⟩ := fr_stI (fr_at 0 rfl) hF h
    have h := (ck_s h).2
    obtain ⟨m7, hF, h⟩ := fr_stI (fr_at 0 rfl) hF h
    have h := (ck_s h).2
    obtain ⟨m8, hF, h⟩ := fr_stI (fr_at 0 rfl) hF h
    have h := (ck_s h).2
    obtain ⟨m9, hF, h⟩ := fr_stI (fr_at 0 rfl) hF h
    have h := (ck_s h).2
    obtain ⟨m10, hF, h⟩ := fr_stI (fr_at 0 rfl) hF h
    obtain ⟨q11, h0, h⟩ := Option.bind_eq_some_iff.mp h
    have hF := hF.trans ((fr_X9_workOut h0).sub (fr_ix [1, 2, 3, 4, 5] rfl))
    obtain rfl := Option.some.inj h
    exact hF
  · obtain rfl := Option.some.inj h
    exact hF
