/-! THE BEGINNING, and the law's loop -/
theorem up_z {c i : Nat} : ∀ (l : List (Nat × Nat × Int32)) (u : UI), (l.all fun q => !(q.1 == c && q.2.1 == i)) = true → (l.foldl (fun u q => uI u q.1 q.2.1 q.2.2) u) c i = u c i
  | [], _, _ => rfl
  | q :: l, u, h => by
    rw [List.all_cons, Bool.and_eq_true] at h
    rw [List.foldl_cons, up_z l _ h.2]
    have h1 := h.1
    have hne : ¬ (c = q.1 ∧ i = q.2.1) := fun z => by
      rw [← z.1, ← z.2, beq_self_eq_true, beq_self_eq_true] at h1
      exact absurd h1 (by decide)
    exact g_sI (u, wZ, false) q.1 q.2.1 q.2.2 c i |>.trans (if_neg hne)
theorem z_all {c : Nat} (h : ((UPl.take 27).all fun q => !(q.1 == c)) = true) (i : Nat) : gI m0 c i = 0 := by
  refine up_z (UPl.take 27) _ ?_
  refine List.all_eq_true.mpr (fun q hq => ?_)
  have := List.all_eq_true.mp h q hq
  rw [Bool.not_eq_true'] at this ⊢
  rw [this]; rfl
theorem z_2 (i : Nat) : gI m0 2 i = 0 := z_all (by decide +kernel) i
theorem z_3 (i : Nat) : gI m0 3 i = 0 := z_all (by decide +kernel) i
theorem z_4 (i : Nat) : gI m0 4 i = 0 := z_all (by decide +kernel) i
theorem z_5 (i : Nat) : gI m0 5 i = 0 := z_all (by decide +kernel) i
theorem z_6 (i : Nat) : gI m0 6 i = 0 := z_all (by decide +kernel) i
theorem z_7 (i : Nat) : gI m0 7 i = 0 := z_all (by decide +kernel) i
theorem z_8 (i : Nat) : gI m0 8 i = 0 := z_all (by decide +kernel) i
theorem z_9 (i : Nat) : gI m0 9 i = 0 := z_all (by decide +kernel) i
theorem z_10 (i : Nat) : gI m0 10 i = 0 := z_all (by decide +kernel) i
theorem z_12 (i : Nat) : gI m0 12 i = 0 := z_all (by decide +kernel) i
theorem z_13 (i : Nat) : gI m0 13 i = 0 := z_all (by decide +kernel) i
theorem z_15 (i : Nat) : gI m0 15 i = 0 := z_all (by decide +kernel) i
theorem z_70 (i : Nat) : gI m0 70 i = 0 := z_all (by decide +kernel) i
theorem z_71 (i : Nat) : gI m0 71 i = 0 := z_all (by decide +kernel) i
theorem z_86 (i : Nat) : gI m0 86 i = 0 := z_all (by decide +kernel) i
theorem z_90 (i : Nat) : gI m0 90 i = 0 := z_all (by decide +kernel) i
theorem z_91 (i : Nat) : gI m0 91 i = 0 := z_all (by decide +kernel) i
theorem z_92 (i : Nat) : gI m0 92 i = 0 := z_all (by decide +kernel) i
theorem z_93 (i : Nat) : gI m0 93 i = 0 := z_all (by decide +kernel) i
theorem z_94 (i : Nat) : gI m0 94 i = 0 := z_all (by decide +kernel) i
theorem z_124 (i : Nat) : gI m0 124 i = 0 := z_all (by decide +kernel) i
theorem z_125 (i : Nat) : gI m0 125 i = 0 := z_all (by decide +kernel) i
theorem z_127 (i : Nat) : gI m0 127 i = 0 := z_all (by decide +kernel) i
theorem inv_0 : Inv 0 m0 := by
  refine ⟨0, 0, 0, 0, 0, 0, 0, ⟨⟨⟨?_, ?_, by decide⟩, ⟨?_, ?_, by decide⟩, ⟨?_, ?_, by decide⟩, ?_⟩, fun p hp => ?_, fun p hp => ?_, fun p hp => ?_, ⟨fun p hp i hi => ?_, fun p hp i hi => ?_⟩, ⟨⟨?_, 0, by decide, ?_⟩, ⟨?_, 0, by decide, ?_⟩, ?_, 3, by decide, by decide, ?_⟩, Or.inl ⟨?_, ?_⟩, ⟨⟨?_, ?_⟩, ⟨?_, ?_⟩, ⟨by decide, by decide⟩, fun i hi => absurd hi (Nat.not_lt_zero i)⟩, ⟨⟨?_, ?_, by decide⟩, fun i hi => ?_⟩, Or.inl ⟨?_, ?_⟩, fun q hq => ?_⟩, ⟨⟨?_, ?_, by decide⟩, fun i hi => ?_, ⟨0, by decide, ?_, ?_⟩, fun i hi => ?_⟩, fun d hd => ?_⟩
  rotate_left 7
  · rw [z_2, z_3, z_4, z_5, z_86, z_86, z_86, z_90]
    exact ⟨⟨rfl, rfl, rfl, rfl⟩, ⟨0, by decide, rfl⟩, ⟨0, by decide, rfl⟩, ⟨0, by decide, rfl⟩, 0, by decide, rfl⟩
  · rw [z_6, z_7, z_86, z_86]
    exact ⟨⟨rfl, rfl⟩, by decide, 0, by decide, rfl⟩
  · rw [z_8, z_9, z_10, z_91, z_92, z_93]
    exact ⟨⟨rfl, rfl, rfl⟩, fun z => absurd z (Nat.not_lt_zero _), by decide, 0, by decide, rfl⟩
  · rw [z_12, b_0, decide_eq_false (Nat.not_lt_zero i)]; rfl
  · rw [z_13, b_0, decide_eq_false (Nat.not_lt_zero i)]; rfl
  rotate_left 14
  · rw [z_15, z_94]
    exact ⟨rfl, 0, by decide, rfl⟩
  rotate_left 2
  · have h3 : q = 0 ∨ q = 1 ∨ q = 2 := by omega
    have h56 : gI m0 56 q = -1 := by rcases h3 with rfl | rfl | rfl <;> decide +kernel
    rw [h56]
    exact ⟨Or.inl rfl, fun z => absurd z (by decide)⟩
  rotate_left 2
  · rw [z_71, z_124]
    exact ⟨rfl, 0, by decide, rfl⟩
  rotate_left 2
  · rw [z_70, z_125]
  · have h6 : d = 0 ∨ d = 1 ∨ d = 2 ∨ d = 3 ∨ d = 4 ∨ d = 5 := by omega
    refine ⟨⟨0, by decide, ?_, z_127 d⟩, Or.inl ⟨?_, ?_⟩, fun i hi => rfl⟩
    · rcases h6 with rfl | rfl | rfl | rfl | rfl | rfl <;> decide +kernel
    · rcases h6 with rfl | rfl | rfl | rfl | rfl | rfl <;> decide +kernel
    · rcases h6 with rfl | rfl | rfl | rfl | rfl | rfl <;> decide +kernel
  all_goals decide +kernel
def GO (z : Int32) (V : Nat) (o : Option ((Int32 × Mem) ⊕ (Int32 × Mem))) : Prop := ∃ m' V', o = some (.inl (z + 6, m')) ∧ Inv V' m' ∧ V' ≤ V + 20
theorem GO_sw {z x c : Int32} {V : Nat} {o d : Option ((Int32 × Mem) ⊕ (Int32 × Mem))} {l : List (Int32 × Option ((Int32 × Mem) ⊕ (Int32 × Mem)))} (h1 : GO z V o) (h2 : GO z V (sw x l d)) : GO z V (sw x ((c, o) :: l) d) := by
  show GO z V (if x = c then o else sw x l d)
  split
  · exact h1
  · exact h2
theorem GO_n {z x : Int32} {V : Nat} {d : Option ((Int32 × Mem) ⊕ (Int32 × Mem))} (h : GO z V d) : GO z V (sw x [] d) := h
theorem cmp_0 (a : Int64) : lg_cmp a a = 0 := by
  unfold lg_cmp
  rw [if_neg (show ¬ a > a from Int64.lt_irrefl), if_pos rfl]
theorem step_go {g : Gx} {z : Int32} {V : Nat} {m : Mem} (hI : Inv V m) (hV : V < 2000000) (h0 : ¬ (nI (gN g)) - (6 : Int32) < z) (c0 : ∀ {T : Type} (K : Option T), ck z (gN g) K = K) (c1 : ∀ {T : Type} (K : Option T), ck (z + 1) (gN g) K = K) (c2 : ∀ {T : Type} (K : Option T), ck (z + 2) (gN g) K = K) (c3 : ∀ {T : Type} (K : Option T), ck (z + 3) (gN g) K = K) (c4 : ∀ {T : Type} (K : Option T), ck (z + 4) (gN g) K = K) (c5 : ∀ {T : Type} (K : Option T), ck (z + 5) (gN g) K = K) : GO z V (f_law_L18 g (z, m)) := by
  unfold f_law_L18
  rw [if_neg h0, c0]
  refine GO_sw ?_ ?_
  · obtain ⟨v, m1, m2, V', h1, h2, h3, h4⟩ := c_person hI hV _ _
    exact ⟨m2, V', ckb (c1) (ckb (c2) (bs h1 (ckb (c1) (ckb (c2) (bs h2 ((if_pos rfl).trans (bn rfl))))))), h3, h4⟩
  refine GO_sw ?_ ?_
  · obtain ⟨v, m1, m2, V', h1, h2, h3, h4⟩ := c_thing hI hV _ _
    exact ⟨m2, V', ckb (c1) (ckb (c2) (bs h1 (ckb (c1) (ckb (c2) (bs h2 ((if_pos rfl).trans (bn rfl))))))), h3, h4⟩
  refine GO_sw ?_ ?_
  · obtain ⟨v, m1, m2, V', h1, h2, h3, h4⟩ := c_card hI hV _ _ _
    exact ⟨m2, V', ckb (c1) (ckb (c2) (ckb (c3) (bs h1 (ckb (c1) (ckb (c2) (ckb (c3) (bs h2 ((if_pos rfl).trans (bn rfl))))))))), h3, h4⟩
  refine GO_sw ?_ ?_
  · obtain ⟨v, m1, m2, V', h1, h2, h3, h4⟩ := c_cards hI hV _ _ _
    exact ⟨m2, V', ckb (c1) (ckb (c2) (ckb (c3) (bs h1 (ckb (c1) (ckb (c2) (ckb (c3) (bs h2 ((if_pos rfl).trans (bn rfl))))))))), h3, h4⟩
  refine GO_sw ?_ ?_
  · obtain ⟨v, m1, m2, V', h1, h2, h3, h4⟩ := c_feed hI _
    exact ⟨m2, V', ckb (c1) (bs h1 (ckb (c1) (bs h2 ((if_pos rfl).trans (bn rfl))))), h3, h4⟩
  refine GO_sw ?_ ?_
  · obtain ⟨v, m1, m2, V', h1, h2, h3, h4⟩ := c_law hI hV
    exact ⟨m2, V', bs h1 (bs h2 ((if_pos rfl).trans (bn rfl))), h3, h4⟩
  refine GO_sw ?_ ?_
  · obtain ⟨v, m1, m2, V', h1, h2, h3, h4⟩ := c_set hI hV _ _
    exact ⟨m2, V', ckb (c1) (ckb (c2) (bs h1 (ckb (c1) (ckb (c2) (bs h2 ((if_pos rfl).trans (bn rfl))))))), h3, h4⟩
  refine GO_sw ?_ ?_
  · obtain ⟨v, m1, m2, V', h1, h2, h3, h4⟩ := c_mend hI hV _ _ _
    exact ⟨m2, V', ckb (c1) (ckb (c2) (ckb (c3) (bs h1 (ckb (c1) (ckb (c2) (ckb (c3) (bs h2 ((if_pos rfl).trans (bn rfl))))))))), h3, h4⟩
  refine GO_sw ?_ ?_
  · obtain ⟨v, m1, m2, V', h1, h2, h3, h4⟩ := c_of hI _ _
    exact ⟨m2, V', ckb (c1) (ckb (c2) (bs h1 (ckb (c1) (ckb (c2) (bs h2 ((if_pos rfl).trans (bn rfl))))))), h3, h4⟩
  refine GO_sw ?_ ?_
  · obtain ⟨v, m1, m2, V', h1, h2, h3, h4⟩ := c_meet hI _
    exact ⟨m2, V', ckb (c1) (bs h1 (ckb (c1) (bs h2 ((if_pos rfl).trans (bn rfl))))), h3, h4⟩
  refine GO_sw ?_ ?_
  · obtain ⟨v, m1, m2, V', h1, h2, h3, h4⟩ := c_told hI _
    exact ⟨m2, V', ckb (c1) (bs h1 (ckb (c1) (bs h2 ((if_pos rfl).trans (bn rfl))))), h3, h4⟩
  refine GO_sw ?_ ?_
  · obtain ⟨v, m1, m2, V', h1, h2, h3, h4⟩ := c_saying hI _ _
    exact ⟨m2, V', ckb (c1) (ckb (c2) (bs h1 (ckb (c1) (ckb (c2) (bs h2 ((if_pos rfl).trans (bn rfl))))))), h3, h4⟩
  refine GO_sw ?_ ?_
  · obtain ⟨v, m1, m2, V', h1, h2, h3, h4⟩ := c_took hI _ _
    exact ⟨m2, V', ckb (c1) (ckb (c2) (bs h1 (ckb (c1) (ckb (c2) (bs h2 ((if_pos rfl).trans (bn rfl))))))), h3, h4⟩
  refine GO_sw ?_ ?_
  · obtain ⟨v, m1, m2, V', h1, h2, h3, h4⟩ := c_did hI _ _
    exact ⟨m2, V', ckb (c1) (ckb (c2) (bs h1 (ckb (c1) (ckb (c2) (bs h2 ((if_pos rfl).trans (bn rfl))))))), h3, h4⟩
  refine GO_sw ?_ ?_
  · obtain ⟨v, m1, m2, V', h1, h2, h3, h4⟩ := c_first hI _ _
    exact ⟨m2, V', ckb (c1) (ckb (c2) (bs h1 (ckb (c1) (ckb (c2) (bs h2 ((if_pos rfl).trans (bn rfl))))))), h3, h4⟩
  refine GO_sw ?_ ?_
  · obtain ⟨v, m1, m2, V', h1, h2, h3, h4⟩ := c_rule hI hV _
    exact ⟨m2, V', ckb (c1) (bs h1 (ckb (c1) (bs h2 ((if_pos rfl).trans (bn rfl))))), h3, h4⟩
  refine GO_sw ?_ ?_
  · obtain ⟨v, m1, m2, V', h1, h2, h3, h4⟩ := c_order hI hV _
    exact ⟨m2, V', ckb (c1) (bs h1 (ckb (c1) (bs h2 ((if_pos rfl).trans (bn rfl))))), h3, h4⟩
  refine GO_sw ?_ ?_
  · obtain ⟨v, m1, m2, V', h1, h2, h3, h4⟩ := c_times hI hV _
    exact ⟨m2, V', ckb (c1) (bs h1 (ckb (c1) (bs h2 ((if_pos rfl).trans (bn rfl))))), h3, h4⟩
  refine GO_sw ?_ ?_
  · obtain ⟨v, m1, m2, V', h1, h2, h3, h4⟩ := c_film hI _
    exact ⟨m2, V', ckb (c1) (bs h1 (ckb (c1) (bs h2 ((if_pos rfl).trans (bn rfl))))), h3, h4⟩
  refine GO_sw ?_ ?_
  · obtain ⟨v, m1, m2, V', h1, h2, h3, h4⟩ := c_wish hI _ _
    exact ⟨m2, V', ckb (c1) (ckb (c2) (bs h1 (ckb (c1) (ckb (c2) (bs h2 ((if_pos rfl).trans (bn rfl))))))), h3, h4⟩
  refine GO_sw ?_ ?_
  · obtain ⟨v, m1, m2, V', h1, h2, h3, h4⟩ := c_undo hI hV
    exact ⟨m2, V', bs h1 (bs h2 ((if_pos rfl).trans (bn rfl))), h3, h4⟩
  refine GO_sw ?_ ?_
  · obtain ⟨v, m1, m2, V', h1, h2, h3, h4⟩ := c_redo hI hV
    exact ⟨m2, V', bs h1 (bs h2 ((if_pos rfl).trans (bn rfl))), h3, h4⟩
  refine GO_sw ?_ ?_
  · obtain ⟨v, m1, m2, V', h1, h2, h3, h4⟩ := c_body hI _
    exact ⟨m2, V', ckb (c1) (bs h1 (ckb (c1) (bs h2 ((if_pos rfl).trans (bn rfl))))), h3, h4⟩
  refine GO_sw ?_ ?_
  · obtain ⟨v, m1, m2, V', h1, h2, h3, h4⟩ := c_act hI _ _ _
    exact ⟨m2, V', ckb (c1) (ckb (c2) (ckb (c3) (bs h1 (ckb (c1) (ckb (c2) (ckb (c3) (bs h2 ((if_pos rfl).trans (bn rfl))))))))), h3, h4⟩
  refine GO_sw ?_ ?_
  · obtain ⟨v, m1, m2, V', h1, h2, h3, h4⟩ := c_trace hI _
    exact ⟨m2, V', ckb (c1) (bs h1 (ckb (c1) (bs h2 ((if_pos rfl).trans (bn rfl))))), h3, h4⟩
  refine GO_sw ?_ ?_
  · obtain ⟨v, m1, m2, V', h1, h2, h3, h4⟩ := c_keep hI _ _
    exact ⟨m2, V', ckb (c1) (ckb (c2) (bs h1 (ckb (c1) (ckb (c2) (bs h2 ((if_pos rfl).trans (bn rfl))))))), h3, h4⟩
  refine GO_sw ?_ ?_
  · obtain ⟨v, m1, m2, V', h1, h2, h3, h4⟩ := c_row hI _ _ _
    exact ⟨m2, V', ckb (c1) (ckb (c2) (ckb (c3) (bs h1 (ckb (c1) (ckb (c2) (ckb (c3) (bs h2 ((if_pos rfl).trans (bn rfl))))))))), h3, h4⟩
  refine GO_sw ?_ ?_
  · obtain ⟨v, m1, m2, V', h1, h2, h3, h4⟩ := c_put hI _ _ _
    exact ⟨m2, V', ckb (c1) (ckb (c2) (ckb (c3) (ckb (c4) (bs h1 (ckb (c1) (ckb (c2) (ckb (c3) (ckb (c4) (bs h2 ((if_pos rfl).trans (bn rfl))))))))))), h3, h4⟩
  refine GO_sw ?_ ?_
  · obtain ⟨v, m1, m2, V', h1, h2, h3, h4⟩ := c_element hI _ _
    exact ⟨m2, V', ckb (c1) (ckb (c2) (bs h1 (ckb (c1) (ckb (c2) (bs h2 ((if_pos (cmp_0 _)).trans (bn rfl))))))), h3, h4⟩
  refine GO_sw ?_ ?_
  · obtain ⟨v, m1, m2, V', h1, h2, h3, h4⟩ := c_shift hI _ _ _ _ _
    exact ⟨m2, V', ckb (c1) (ckb (c2) (ckb (c3) (ckb (c4) (ckb (c5) (bs h1 (ckb (c1) (ckb (c2) (ckb (c3) (ckb (c4) (ckb (c5) (bs h2 ((if_pos rfl).trans (bn rfl))))))))))))), h3, h4⟩
  refine GO_sw ?_ ?_
  · obtain ⟨v, m1, m2, V', h1, h2, h3, h4⟩ := c_taken hI _ _
    exact ⟨m2, V', ckb (c1) (ckb (c2) (bs h1 (ckb (c1) (ckb (c2) (bs h2 ((if_pos rfl).trans (bn rfl))))))), h3, h4⟩
  refine GO_sw ?_ ?_
  · obtain ⟨v, m1, m2, V', h1, h2, h3, h4⟩ := c_count hI _
    exact ⟨m2, V', ckb (c1) (bs h1 (ckb (c1) (bs h2 ((if_pos rfl).trans (bn rfl))))), h3, h4⟩
  exact GO_n ⟨m, V, bn rfl, hI, by omega⟩
theorem goal0 : Goal := by
  intro g hg
  have hg2 : gN g < 2 ^ 31 := by omega
  have hb : (nI (gN g) - 6).toInt = (gN g : Int) - 6 := by
    rw [sub_i (by rw [nI_toInt hg2]; change _ ≤ (gN g : Int) - 6; omega) (by rw [nI_toInt hg2]; change (gN g : Int) - 6 ≤ _; omega), nI_toInt hg2]; rfl
  have stop : ∀ (k : Nat) (m : Mem), k ≤ 65 → gN g < 6 * k + 6 → f_law_L18 g (nI (6 * k), m) = some (.inr (1, m)) := fun k m hk h => by
    unfold f_law_L18
    rw [if_pos (show nI (gN g) - 6 < nI (6 * k) by rw [Int32.lt_iff_toInt_lt, hb, nI_toInt (by omega)]; omega), bz_1]
    rfl
  have hw := wh_inv (body := f_law_L18 g) (fun k s => ∃ V m, s = (nI (6 * k), m) ∧ Inv V m ∧ V ≤ 20 * k) (fun r => ∃ m', r = ((1 : Int32), m')) 65 (fun k s hk hs => ?_) (fun s hs => ?_) 0 (0, m0) (Nat.zero_le _) ⟨0, m0, rfl, inv_0, Nat.le_refl 0⟩
  · obtain ⟨r, h1, m', h2⟩ := hw
    exact ⟨m', by rw [h1, h2]⟩
  · obtain ⟨V, m, rfl, hI, hV⟩ := hs
    by_cases hlt : gN g < 6 * k + 6
    · exact Or.inr ⟨(1, m), stop k m (by omega) hlt, m, rfl⟩
    · left
      have cj : ∀ j, j < 6 → ∀ {T : Type} (K : Option T), ck (nI (6 * k + j)) (gN g) K = K := fun j hj {T} K => ck_in (by omega) hg2
      have cc : ∀ j (J : Int32), j < 6 → J = nI j → ∀ {T : Type} (K : Option T), ck (nI (6 * k) + J) (gN g) K = K := fun j J hj e {T} K => by
        rw [e, nI_add]; exact cj j hj K
      obtain ⟨m', V', h1, h2, h3⟩ := step_go (g := g) (z := nI (6 * k)) hI (by omega) (by rw [Int32.lt_iff_toInt_lt, hb, nI_toInt (by omega)]; omega) (cj 0 (by decide)) (cc 1 1 (by decide) rfl) (cc 2 2 (by decide) rfl) (cc 3 3 (by decide) rfl) (cc 4 4 (by decide) rfl) (cc 5 5 (by decide) rfl)
      refine ⟨_, h1, V', m', ?_, h2, by omega⟩
      rw [show nI (6 * k) + 6 = nI (6 * k + 6) from nI_add _ 6, show 6 * k + 6 = 6 * (k + 1) by omega]
  · obtain ⟨V, m, rfl, hI, hV⟩ := hs
    exact ⟨(1, m), stop 65 m (Nat.le_refl _) (by omega), m, rfl⟩
