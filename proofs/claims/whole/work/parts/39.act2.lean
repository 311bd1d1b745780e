theorem sim_map {b c R K : Nat} {X Y : Option (Int32 × Mem)} (f : Int32 → Int32) (h : SimR b c R K X Y) : SimR b c R K (X.bind (fun q => some (f q.1, q.2))) (Y.bind (fun q => some (f q.1, q.2))) := by
  obtain ⟨v, m1, m2, R', rfl, rfl, h1, h2⟩ := h
  exact ⟨f v, m1, m2, R', rfl, rfl, h1, h2⟩
theorem sim_le {b c R K K' : Nat} {X Y : Option (Int32 × Mem)} (hk : K ≤ K') (h : SimR b c R K X Y) : SimR b c R K' X Y := by
  obtain ⟨v, m1, m2, R', e1, e2, h1, h2⟩ := h
  exact ⟨v, m1, m2, R', e1, e2, by omega, h2⟩
theorem c8 {c : Nat} (h : c < 8) : c = 0 ∨ c = 1 ∨ c = 2 ∨ c = 3 ∨ c = 4 ∨ c = 5 ∨ c = 6 ∨ c = 7 := by omega
theorem kn_0 {b c R d : Nat} {m m' : Mem} (hR : R < 500) (h : RT b c R m m') (hd : d ≤ 40) (x : Int32) {rc : Int32 → Int32 → Int32 → Int32 → Mem → Option (Int32 × Mem)} : SimR b c R 1 (f_X0_run_J45 rc (nI 0) x (nI d) (nI 0) m) ((f_X9_begins 1 m').bind (fun q1 => some (x + gI q1 85 71, q1))) := by
  rw [j_0_0 hd]
  refine sim_mark hR h 1 (fun m1 m2 h2 => ?_)
  simp only [h2.2.2.1]
  exact sim_val h2 _
theorem sim_knows {b c R d k : Nat} {m m' : Mem} (hR : R < 490) (h : RT b c R m m') (hd : d < 40) (hk : k < 8) (n g : Nat) (x : Int32) : SimR b c R 2 (f_X0_run (n + 2) (nI k) (nI 0) x (nI d) m) (f_X9_knowsAs (g + 2) (nI k) x m') := by
  refine sim_run hk (by decide) ?_
  rcases c8 hk with rfl | rfl | rfl | rfl | rfl | rfl | rfl | rfl
  · exact sim_le (by decide) (kn_0 (by omega) h (by omega) x)
  · show SimR b c R 2 (f_X0_run_J45 _ (nI 0) x (nI d) (nI 1) m) _
    rw [j_1_0 (by omega)]
    exact sim_mark (by omega) h 20 (fun m1 m2 h2 => sim_map (fun v => v + 3) (sim_run (by decide) (by decide) (kn_0 (by omega) h2 (by omega) x)))
  · exact sim_le (by decide) (kn_0 (by omega) h (by omega) x)
  · exact sim_le (by decide) (kn_0 (by omega) h (by omega) x)
  · exact sim_le (by decide) (kn_0 (by omega) h (by omega) x)
  · exact sim_le (by decide) (kn_0 (by omega) h (by omega) x)
  · show SimR b c R 2 (f_X0_run_J45 _ (nI 0) x (nI d) (nI 6) m) _
    rw [j_6_0 (by omega)]
    exact sim_mark (by omega) h 70 (fun m1 m2 h2 => sim_map (fun v => v * 2) (sim_run (by decide) (by decide) (kn_0 (by omega) h2 (by omega) x)))
  · exact sim_le (by decide) (kn_0 (by omega) h (by omega) x)
theorem st_0' {b c R d : Nat} {m m' : Mem} (hR : R < 500) (h : RT b c R m m') (hd : d ≤ 40) (x : Int32) {rc : Int32 → Int32 → Int32 → Int32 → Mem → Option (Int32 × Mem)} : SimR b c R 1 (f_X0_run_J45 rc (nI 2) x (nI d) (nI 0) m) ((f_X9_begins 11 m').bind (fun q1 => some (x ^^^ gI q1 85 71, q1))) := by
  rw [j_0_2 hd]
  refine sim_mark hR h 11 (fun m1 m2 h2 => ?_)
  simp only [h2.2.2.1]
  exact sim_val h2 _
theorem st_4' {b c R d : Nat} {m m' : Mem} (hR : R < 480) (h : RT b c R m m') (hd : d < 39) (hc : c < 8) (n : Nat) (x : Int32) {G : Option (Int32 × Mem)} (hG : G = (f_X9_begins 50 m').bind (fun q3 => ((f_X9_begins 11 q3).bind (fun q1 => some (x ^^^ gI q1 85 71, q1))).bind (fun q4 => (f_X9_knowsAs 4 (gI q4.2 85 70) 2 q4.2).bind (fun q5 => some (q4.1 - q5.1, q5.2))))) : SimR b c R 4 (f_X0_run_J45 (f_X0_run (n + 2)) (nI 2) x (nI d) (nI 4) m) G := by
  rw [hG, j_4_2 (by omega)]
  refine sim_mark (by omega) h 50 (fun m1 m2 h2 => ?_)
  refine sim_seq (K1 := 1) (K2 := 2) (sim_run (by decide) (by decide) (st_0' (by omega) h2 (by omega) x)) (by decide) (fun v n1 n2 R' hr h3 => ?_)
  simp only [h3.2.2.2.1, h3.2.2.2.2]
  exact sim_map (fun w => v - w) (sim_knows (by omega) h3 (by omega) hc n 2 2)
theorem sim_stops {b c R d k : Nat} {m m' : Mem} (hR : R < 480) (h : RT b c R m m') (hd : d < 39) (hc : c < 8) (hk : k < 8) (n g : Nat) (x : Int32) : SimR b c R 4 (f_X0_run (n + 3) (nI k) (nI 2) x (nI d) m) (f_X9_stopsAs (g + 2) (nI k) x m') := by
  refine sim_run hk (by decide) ?_
  have b3 : SimR b c R 4 (f_X0_run_J45 (f_X0_run (n + 2)) (nI 2) x (nI d) (nI 3) m) ((f_X9_begins 40 m').bind (fun q3 => ((f_X9_begins 11 q3).bind (fun q1 => some (x ^^^ gI q1 85 71, q1))).bind (fun q2 => some (q2.1 * 3, q2.2)))) := by
    rw [j_3_2 (by omega)]
    exact sim_le (by decide) (sim_mark (by omega) h 40 (fun m1 m2 h2 => sim_map (fun v => v * 3) (sim_run (by decide) (by decide) (st_0' (by omega) h2 (by omega) x))))
  rcases c8 hk with rfl | rfl | rfl | rfl | rfl | rfl | rfl | rfl
  · exact sim_le (by decide) (st_0' (by omega) h (by omega) x)
  · exact sim_le (by decide) (st_0' (by omega) h (by omega) x)
  · exact sim_le (by decide) (st_0' (by omega) h (by omega) x)
  · exact b3
  · exact st_4' hR h hd hc n x rfl
  · exact b3
  · exact sim_le (by decide) (st_0' (by omega) h (by omega) x)
  · exact st_4' hR h hd hc n x rfl
theorem sp_0' {b c R d : Nat} {m m' : Mem} (hR : R < 480) (h : RT b c R m m') (hd : d < 39) (hc : c < 8) (n : Nat) (x : Int32) : SimR b c R 3 (f_X0_run_J45 (f_X0_run (n + 2)) (nI 1) x (nI d) (nI 0) m) ((f_X9_begins 10 m').bind (fun q3 => (f_X9_knowsAs 4 (gI q3 85 70) x q3).bind (fun q4 => some (q4.1 * 2, q4.2)))) := by
  rw [j_0_1 (by omega)]
  refine sim_mark (by omega) h 10 (fun m1 m2 h2 => ?_)
  simp only [h2.2.2.2.1, h2.2.2.2.2]
  exact sim_map (fun v => v * 2) (sim_knows (by omega) h2 (by omega) hc n 2 x)
theorem sp_2' {b c R d : Nat} {m m' : Mem} (hR : R < 475) (h : RT b c R m m') (hd : d < 38) (hc : c < 8) (n : Nat) (x : Int32) : SimR b c R 4 (f_X0_run_J45 (f_X0_run (n + 3)) (nI 1) x (nI d) (nI 2) m) ((f_X9_begins 30 m').bind (fun q8 => ((f_X9_begins 10 q8).bind (fun q3 => (f_X9_knowsAs 4 (gI q3 85 70) x q3).bind (fun q4 => some (q4.1 * 2, q4.2)))).bind (fun q9 => some (-q9.1, q9.2)))) := by
  rw [j_2_1 (by omega)]
  exact sim_mark (by omega) h 30 (fun m1 m2 h2 => sim_map (fun v => -v) (sim_run (by decide) (by decide) (sp_0' (by omega) h2 (by omega) hc n x)))
theorem sp_3' {b c R d : Nat} {m m' : Mem} (hR : R < 472) (h : RT b c R m m') (hd : d < 37) (hc : c < 8) (n : Nat) (x : Int32) : SimR b c R 5 (f_X0_run_J45 (f_X0_run (n + 4)) (nI 1) x (nI d) (nI 3) m) ((f_X9_begins 41 m').bind (fun q1 => ((f_X9_begins 30 q1).bind (fun q8 => ((f_X9_begins 10 q8).bind (fun q3 => (f_X9_knowsAs 4 (gI q3 85 70) (x + 1) q3).bind (fun q4 => some (q4.1 * 2, q4.2)))).bind (fun q9 => some (-q9.1, q9.2)))).bind (fun q2 => some (q2.1, q2.2)))) := by
  rw [j_3_1 (by omega)]
  exact sim_mark (by omega) h 41 (fun m1 m2 h2 => sim_map (fun v => v) (sim_run (by decide) (by decide) (sp_2' (by omega) h2 (by omega) hc n (x + 1))))
theorem sp_7' {b c R d : Nat} {m m' : Mem} (hR : R < 470) (h : RT b c R m m') (hd : d < 37) (hc : c < 8) (n : Nat) (x : Int32) : SimR b c R 8 (f_X0_run_J45 (f_X0_run (n + 3)) (nI 1) x (nI d) (nI 7) m) ((f_X9_begins 80 m').bind (fun q5 => ((f_X9_begins 10 q5).bind (fun q3 => (f_X9_knowsAs 4 (gI q3 85 70) x q3).bind (fun q4 => some (q4.1 * 2, q4.2)))).bind (fun q6 => (f_X9_stopsAs 4 (gI q6.2 85 70) 2 q6.2).bind (fun q7 => some (q6.1 + q7.1, q7.2))))) := by
  rw [j_7_1 (by omega)]
  refine sim_mark (by omega) h 80 (fun m1 m2 h2 => ?_)
  refine sim_seq (K1 := 3) (K2 := 4) (sim_run (by decide) (by decide) (sp_0' (by omega) h2 (by omega) hc n x)) (by decide) (fun v n1 n2 R' hr h3 => ?_)
  simp only [h3.2.2.2.1, h3.2.2.2.2]
  exact sim_map (fun w => v + w) (sim_stops (by omega) h3 (by omega) hc hc n 2 2)
theorem sim_speaks {b c R d k : Nat} {m m' : Mem} (hR : R < 470) (h : RT b c R m m') (hd : d < 37) (hc : c < 8) (hk : k < 8) (n g : Nat) (x : Int32) : SimR b c R 8 (f_X0_run (n + 5) (nI k) (nI 1) x (nI d) m) (f_X9_speaksAs (g + 3) (nI k) x m') := by
  refine sim_run hk (by decide) ?_
  rcases c8 hk with rfl | rfl | rfl | rfl | rfl | rfl | rfl | rfl
  · exact sim_le (by decide) (sp_0' (by omega) h (by omega) hc (n + 2) x)
  · exact sim_le (by decide) (sp_0' (by omega) h (by omega) hc (n + 2) x)
  · exact sim_le (by decide) (sp_2' (by omega) h (by omega) hc (n + 1) x)
  · exact sim_le (by decide) (sp_3' (by omega) h (by omega) hc n x)
  · exact sim_le (by decide) (sp_0' (by omega) h (by omega) hc (n + 2) x)
  · exact sim_le (by decide) (sp_3' (by omega) h (by omega) hc n x)
  · exact sim_le (by decide) (sp_0' (by omega) h (by omega) hc (n + 2) x)
  · exact sp_7' (by omega) h hd hc (n + 1) x
theorem de_0' {b c R d : Nat} {m m' : Mem} (hR : R < 460) (h : RT b c R m m') (hd : d < 36) (hc : c < 8) (n : Nat) (x : Int32) : SimR b c R 13 (f_X0_run_J45 (f_X0_run (n + 5)) (nI 3) x (nI d) (nI 0) m) ((f_X9_begins 2 m').bind (fun q1 => (f_X9_speaksAs 6 (gI q1 85 70) x q1).bind (fun q2 => (f_X9_stopsAs 4 (gI q2.2 85 70) 1 q2.2).bind (fun q3 => some (q2.1 - q3.1, q3.2))))) := by
  rw [j_0_3 (by omega)]
  refine sim_mark (by omega) h 2 (fun m1 m2 h2 => ?_)
  simp only [h2.2.2.2.1, h2.2.2.2.2]
  refine sim_seq (K1 := 8) (K2 := 4) (sim_speaks (by omega) h2 (by omega) hc hc n 3 x) (by decide) (fun v n1 n2 R' hr h3 => ?_)
  simp only [h3.2.2.2.1, h3.2.2.2.2]
  exact sim_map (fun w => v - w) (sim_stops (by omega) h3 (by omega) hc hc (n + 2) 2 1)
theorem sim_decides {b c R d k : Nat} {m m' : Mem} (hR : R < 450) (h : RT b c R m m') (hd : d < 35) (hc : c < 8) (hk : k < 8) (n g : Nat) (x : Int32) : SimR b c R 14 (f_X0_run (n + 7) (nI k) (nI 3) x (nI d) m) (f_X9_decidesAs (g + 2) (nI k) x m') := by
  refine sim_run hk (by decide) ?_
  rcases c8 hk with rfl | rfl | rfl | rfl | rfl | rfl | rfl | rfl
  · exact sim_le (by decide) (de_0' (by omega) h (by omega) hc (n + 1) x)
  · exact sim_le (by decide) (de_0' (by omega) h (by omega) hc (n + 1) x)
  · exact sim_le (by decide) (de_0' (by omega) h (by omega) hc (n + 1) x)
  · exact sim_le (by decide) (de_0' (by omega) h (by omega) hc (n + 1) x)
  · exact sim_le (by decide) (de_0' (by omega) h (by omega) hc (n + 1) x)
  · show SimR b c R 14 (f_X0_run_J45 _ (nI 3) x (nI d) (nI 5) m) _
    rw [j_5_3 (by omega)]
    exact sim_mark (by omega) h 60 (fun m1 m2 h2 => sim_map (fun v => v ^^^ 5) (sim_run (by decide) (by decide) (de_0' (by omega) h2 (by omega) hc n x)))
  · exact sim_le (by decide) (de_0' (by omega) h (by omega) hc (n + 1) x)
  · show SimR b c R 14 (f_X0_run_J45 _ (nI 3) x (nI d) (nI 7) m) _
    rw [j_7_3 (by omega)]
    exact sim_mark (by omega) h 81 (fun m1 m2 h2 => sim_map (fun v => v - 1) (sim_run (by decide) (by decide) (de_0' (by omega) h2 (by omega) hc n x)))
