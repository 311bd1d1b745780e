/-! wish() -/
theorem op_wish {P T C V : Nat} {m m' : Mem} (hB : TB P T C V m m') (x y : Int32) : ∃ v n n', f_X8_wish x y m = some (v, n) ∧ f_X9_wish x y m' = some (v, n') := by
  have hB0 := hB
  obtain ⟨⟨⟨n1, n2, n3⟩, ⟨n4, n5, n6⟩, ⟨n7, n8, n9⟩, n0⟩, htp, hth, -, -, -, -⟩ := hB
  unfold f_X8_wish f_X9_wish
  by_cases hx : x < 0 ∨ nI P ≤ x
  · refine ⟨-2000000000, m, m', ?_, by rw [isPerson_n n2 n3 hx]; rfl⟩
    by_cases c : x < 0
    · rw [if_pos c]
    · rw [if_neg c, n1, if_pos (hx.resolve_left c)]
  · obtain ⟨p, hp, rfl⟩ := nn_of2 (n := P) (by omega) (Int32.not_lt.mp fun q => hx (Or.inl q)) (Int32.not_le.mp fun q => hx (Or.inr q))
    rw [if_neg (nn_lt0 (by omega)), n1, if_neg (nI_ge hp (by omega)), isPerson_y n2 n3 hp, some_bind, if_neg (show ¬ ((1 : Int32), m').1 = 0 from (by decide : ¬ ((1 : Int32) = 0)))]
    by_cases hy : y < 0 ∨ nI T ≤ y
    · refine ⟨-2000000000, m, m', ?_, by show (f_X9_isThing y m').bind _ = _; rw [isThing_n n5 n6 hy]; rfl⟩
      by_cases c : y < 0
      · rw [if_pos c]
      · rw [if_neg c, n4, if_neg (Int32.not_lt.mpr (hy.resolve_left c))]
    · obtain ⟨t, ht, rfl⟩ := nn_of2 (n := T) (by omega) (Int32.not_lt.mp fun q => hy (Or.inl q)) (Int32.not_le.mp fun q => hy (Or.inr q))
      rw [if_neg (nn_lt0 (by omega)), n4, if_pos (nI_lt ht (by omega))]
      show ∃ v n n', _ ∧ (f_X9_isThing (nI t) m').bind _ = _
      rw [isThing_y n5 n6 ht, some_bind, if_pos (show ¬ ((1 : Int32), m').1 = 0 from (by decide : ¬ ((1 : Int32) = 0)))]
      -- the class
      obtain ⟨q1, c1, ⟨c7, c8, c9, c18⟩, cT, cK, cP⟩ := clear_v (a := 57) m
      have F1 := fr_X3_clear c1
      have T1 : TS m q1 := TS_fr F1 rfl
      have hB1 := TB_cong hB0 T1 TS'.rf
      have hkn := kn_b hB1 (show p < 10 by omega) (show t < 6 by omega)
      have hx2 : ∀ i, i < 32 → bt ((gI q1 12 p &&& gI q1 13 t) &&& (gI q1 57 9 ^^^ -1)) i = (decide (i < C) && Kn m' p t i) := fun i hi => by
        rw [b_and, hkn i hi, b_xor, b_m1 i hi, c9, b_0]
        cases (decide (i < C) && Kn m' p t i) <;> rfl
      have hpop : ∀ q, f_J6_bitCount_0f7a4 ((gI q1 12 p &&& gI q1 13 t) &&& (gI q1 57 9 ^^^ -1)) q = some (nI (fb_ct (fun k => Kn m' p t k) C), q) := fun q => by
        rw [pop_v (fun i h1 h2 => by rw [hx2 i h2, decide_eq_false (by omega)]; rfl), ct_C n9 (fun i hi => hx2 i (by omega))]
      obtain ⟨q2, x1, z0, z1, z2, z3, z4, z5, z6, z7⟩ := names_v (a := 57) (Or.inr (Or.inr rfl)) (show p < 10 by omega) (show t < 6 by omega) q1 hpop
      have F2 := fr_X3_namesOf x1
      have T2 : TS q1 q2 := TS_fr F2 rfl
      obtain ⟨-, -, -, -, -, -, val, hL, hL'⟩ := TB_cong hB1 T2 TS'.rf
      obtain ⟨q3, v1⟩ := hL q2 (57 + 8) (Or.inr (Or.inr rfl)) ⟨rfl, fun _ => rfl, fun _ => rfl, rfl⟩
      have hp1 := (hB1.2.1 p (by omega)).1
      have ht1 := (hB1.2.2.1 t (by omega)).1
      have e7 : gI q2 (57 + 8) 7 = 0 := by
        rw [z7, c18, if_neg (m1_n (by omega))]
      obtain ⟨r', w1⟩ := hL' m' p t (nI (fb_ct (fun k => Kn m' p t k) C)) 0 0 0 (by omega) (by omega) ⟨rfl, fun _ => rfl⟩ (fun j => gI q2 (57 + 8) j) (by rw [z0, hp1.1]) (by rw [z1, hp1.2.1]) (by rw [z2, ht1.2]) z3 (by rw [z4, (cP p (by omega)).2.2.2.1]) (by rw [z5, cT t (by omega)]) z6 e7
      refine ⟨val fun j => gI q2 (57 + 8) j, q3, r', ?_, ?_⟩
      · unfold f_X7_wishNow
        rw [c1, some_bind, x1, some_bind, v1]
        rfl
      · have hw := wh_inv (body := f_X9_wish_L24) (fun k s => s = (nI p, nI t, nI (fb_ct (fun k => Kn m' p t k) k), nI k, m')) (fun r => r = (val fun j => gI q2 (57 + 8) j, r')) C (fun k s hk hs => ?_) (fun s hs => ?_) 0 (nI p, nI t, 0, 0, m') (Nat.zero_le _) rfl
        · obtain ⟨r, h1, h2⟩ := hw
          show wh f_X9_wish_L24 (nI p, nI t, 0, 0, m') = _
          rw [h1, h2]
        · subst hs
          left
          refine ⟨_, ?_, rfl⟩
          have nk : ¬ nI C ≤ nI k := nI_ge hk (by omega)
          unfold f_X9_wish_L24
          simp only [n8, nk, if_false, ck_in (show k < 20 by omega) (show 20 < 2 ^ 31 by decide), ix_n (show k < 2 ^ 31 by omega), knows_v (show p < 10 by omega) (show k < 20 by omega), some_bind, bnd, nI_1, Int32.add_zero]
          rw [fb_ct_succ]
          unfold Kn
          by_cases q : gI m' 91 k = nI t
          · rw [if_neg (fun z => z q), decide_eq_true q]
            cases bt (gI m' 93 k) p
            · rw [if_pos (show bi false = 0 from rfl)]; rfl
            · rw [if_neg (show ¬ bi true = 0 by decide)]; rfl
          · rw [if_pos q, decide_eq_false q]; rfl
        · subst hs
          refine ⟨_, ?_, rfl⟩
          unfold f_X9_wish_L24
          simp only [n8, nI_le (Nat.le_refl C) (show C < 2 ^ 31 by omega), if_true, w1, some_bind, up_some]
