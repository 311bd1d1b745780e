/-! FRAMES: which cells a function may change -/
def Fr (l : List (Nat × Option Nat)) (m m' : Mem) : Prop := (∀ c i : Nat, (∀ q ∈ l, q.1 = c → ¬ (q.2 = none ∨ q.2 = some i)) → m'.1 c i = m.1 c i ∧ m'.2.1 c i = m.2.1 c i) ∧ (((1000, none) : Nat × Option Nat) ∉ l → m'.2.2 = m.2.2)
theorem Fr.rf {l : List (Nat × Option Nat)} {m : Mem} : Fr l m m := ⟨fun _ _ _ => ⟨rfl, rfl⟩, fun _ => rfl⟩
theorem Fr.trans {l : List (Nat × Option Nat)} {m m1 m2 : Mem} (h : Fr l m m1) (k : Fr l m1 m2) : Fr l m m2 :=
  ⟨fun c i hq => ⟨(k.1 c i hq).1.trans (h.1 c i hq).1, (k.1 c i hq).2.trans (h.1 c i hq).2⟩, fun hq => (k.2 hq).trans (h.2 hq)⟩
theorem Fr.sub {l l' : List (Nat × Option Nat)} {m m1 : Mem} (h : Fr l' m m1) (hs : ∀ q ∈ l', q ∈ l) : Fr l m m1 :=
  ⟨fun c i hq => h.1 c i (fun q h1 => hq q (hs q h1)), fun hq => h.2 (fun h1 => hq (hs _ h1))⟩
theorem fr_ix {l l' : List (Nat × Option Nat)} (is : List Nat) (h : is.filterMap (fun i => l[i]?) = l') : ∀ q ∈ l', q ∈ l := by
  intro q hq
  rw [← h] at hq
  obtain ⟨i, -, hi⟩ := List.mem_filterMap.mp hq
  exact List.mem_of_getElem? hi
/-- a cell's place that may change -/
def FrIn (l : List (Nat × Option Nat)) (c : Nat) (i : Nat) : Prop := ∃ q ∈ l, q.1 = c ∧ (q.2 = none ∨ q.2 = some i)
theorem fr_at {l : List (Nat × Option Nat)} {c i : Nat} (j : Nat) {o : Option Nat} (h : l[j]? = some (c, o)) (ho : o = none ∨ o = some i := by first | exact Or.inl rfl | exact Or.inr rfl) : FrIn l c i := ⟨_, List.mem_of_getElem? h, rfl, ho⟩
theorem fr_in {l : List (Nat × Option Nat)} {c i : Nat} (h : (c, none) ∈ l) : FrIn l c i := ⟨_, h, rfl, Or.inl rfl⟩
theorem fr_cd {l : List (Nat × Option Nat)} {i : Nat} {b : Bool} (h1 : (17, none) ∈ l) (h2 : (18, none) ∈ l) : FrIn l (cD b) i := by
  cases b
  · exact ⟨_, h2, rfl, Or.inl rfl⟩
  · exact ⟨_, h1, rfl, Or.inl rfl⟩
theorem fr_bn {α T : Type} {x : α} {K : α → Option T} {t : T} (h : bnd x K = some t) : ∃ y, K y = some t := ⟨x, h⟩
theorem fr_stI {T : Type} {l : List (Nat × Option Nat)} {m m0 : Mem} {a i : Nat} {x : Int32} {K : Mem → Option T} {t : T} (hl : FrIn l a i) (hF : Fr l m0 m) (h : bnd (sI m a i x) K = some t) : ∃ m1, Fr l m0 m1 ∧ K m1 = some t := by
  refine ⟨sI m a i x, hF.trans ⟨fun c j hq => ⟨?_, rfl⟩, fun _ => rfl⟩, h⟩
  obtain ⟨q, h1, h2, h3⟩ := hl
  show uI m.1 a i x c j = m.1 c j
  unfold uI upd
  by_cases hc : c = a
  · subst hc
    rw [if_pos rfl]
    by_cases hj : j = i
    · subst hj
      exact absurd h3 (hq q h1 h2)
    · show (if j = i then x else m.1 c j) = _
      rw [if_neg hj]
  · rw [if_neg hc]
theorem fr_stJ {T : Type} {l : List (Nat × Option Nat)} {m m0 : Mem} {a i : Nat} {x : Int64} {K : Mem → Option T} {t : T} (hl : FrIn l a i) (hF : Fr l m0 m) (h : bnd (sJ m a i x) K = some t) : ∃ m1, Fr l m0 m1 ∧ K m1 = some t := by
  refine ⟨sJ m a i x, hF.trans ⟨fun c j hq => ⟨rfl, ?_⟩, fun _ => rfl⟩, h⟩
  obtain ⟨q, h1, h2, h3⟩ := hl
  show uL m.2.1 a i x c j = m.2.1 c j
  unfold uL vp_updL
  by_cases hc : c = a
  · subst hc
    rw [if_pos rfl]
    by_cases hj : j = i
    · subst hj
      exact absurd h3 (hq q h1 h2)
    · show (if j = i then x else m.2.1 c j) = _
      rw [if_neg hj]
  · rw [if_neg hc]
theorem fr_cpI {T : Type} {l : List (Nat × Option Nat)} {m m0 : Mem} {a b : Nat} {sp dp n : Int32} {K : Mem → Option T} {t : T} (hl : (b, none) ∈ l) (hF : Fr l m0 m) (h : bnd (cI m a sp b dp n) K = some t) : ∃ m1, Fr l m0 m1 ∧ K m1 = some t := by
  refine ⟨cI m a sp b dp n, hF.trans ⟨fun c j hq => ⟨?_, rfl⟩, fun _ => rfl⟩, h⟩
  by_cases hc : c = b
  · subst hc; exact absurd (Or.inl rfl) (hq _ hl rfl)
  · show (if c = b then _ else m.1 c) j = _
    rw [if_neg hc]
theorem fr_cpJ {T : Type} {l : List (Nat × Option Nat)} {m m0 : Mem} {a b : Nat} {sp dp n : Int32} {K : Mem → Option T} {t : T} (hl : (b, none) ∈ l) (hF : Fr l m0 m) (h : bnd (cJ m a sp b dp n) K = some t) : ∃ m1, Fr l m0 m1 ∧ K m1 = some t := by
  refine ⟨cJ m a sp b dp n, hF.trans ⟨fun c j hq => ⟨rfl, ?_⟩, fun _ => rfl⟩, h⟩
  by_cases hc : c = b
  · subst hc; exact absurd (Or.inl rfl) (hq _ hl rfl)
  · show (if c = b then _ else m.2.1 c) j = _
    rw [if_neg hc]
theorem fr_sB {T : Type} {l : List (Nat × Option Nat)} {m m0 : Mem} {K : Mem → Option T} {t : T} (hl : FrIn l 1000 0) (hF : Fr l m0 m) (h : bnd (sB m) K = some t) (hn : ((1000, none) : Nat × Option Nat) ∈ l := by simp) : ∃ m1, Fr l m0 m1 ∧ K m1 = some t :=
  ⟨sB m, hF.trans ⟨fun c j hq => ⟨rfl, rfl⟩, fun hq => absurd hn hq⟩, h⟩
theorem fr_if {T : Type} {c : Prop} [Decidable c] {A B : Option T} {t : T} (h : (if c then A else B) = some t) : A = some t ∨ B = some t := by
  by_cases hc : c
  · rw [if_pos hc] at h; exact Or.inl h
  · rw [if_neg hc] at h; exact Or.inr h
def swO {T : Type} (t : T) : List (Int32 × Option T) → Option T → Prop
  | [], D => D = some t
  | q :: l, D => q.2 = some t ∨ swO t l D
theorem fr_sw {T : Type} {x : Int32} {t : T} : ∀ {cs : List (Int32 × Option T)} {D : Option T}, sw x cs D = some t → swO t cs D
  | [], _, h => h
  | q :: l, D, h => by
    unfold sw at h
    by_cases hc : x = q.1
    · rw [if_pos hc] at h; exact Or.inl h
    · rw [if_neg hc] at h; exact Or.inr (fr_sw h)
theorem fr_shelf {T : Type} {i : Int32} {K : Nat → Option T} {t : T} (h : ck i 6 (bnd (73 + 2 * ix i) K) = some t) : ∃ s, SA s ∧ K s = some t := by
  have hi : i.toNatClampNeg < 6 := Nat.not_le.mp fun q => (ck_s h).1 (Or.inr q)
  exact ⟨_, SA_of hi, (ck_s h).2⟩
def mS {S T : Type} (f : S → Mem) (k : T → Mem) : S ⊕ T → Mem
  | .inl s => f s
  | .inr r => k r
theorem fr_up {S T : Type} {l : List (Nat × Option Nat)} {m : Mem} {f : S → Mem} {k : T → Mem} {x : Option T} {t : S ⊕ T} (h : up x = some t) (g : ∀ r, x = some r → Fr l m (k r)) : Fr l m (mS f k t) := by
  obtain ⟨r, h1, h2⟩ := up_s h
  subst h2
  exact g r h1
theorem fr_wh {S T : Type} {l : List (Nat × Option Nat)} {f : S → Mem} {k : T → Mem} {body : S → Option (S ⊕ T)} (hb : ∀ s t, body s = some t → Fr l (f s) (mS f k t)) {s : S} {r : T} (h : wh body s = some r) : Fr l (f s) (k r) := by
  obtain ⟨n, hn⟩ := wh_to h
  clear h
  induction n generalizing s with
  | zero => cases hn
  | succ n ih =>
    unfold itr at hn
    split at hn
    · cases hn
    · next s' e => exact (hb s _ e).trans (ih hn)
    · next r' e => cases hn; exact hb s _ e
abbrev l_J0_coder_7d493  : List (Nat × Option Nat) := []
abbrev l_J0_isLatin1_aae02  : List (Nat × Option Nat) := []
abbrev l_J0_length_8abf5  : List (Nat × Option Nat) := []
abbrev l_J1_canEncode_9a6ad  : List (Nat × Option Nat) := []
abbrev l_J1_indexOfChar_4cfef  : List (Nat × Option Nat) := []
abbrev l_J1_indexOf_4cfef  : List (Nat × Option Nat) := []
abbrev l_J0_indexOf_7cf53  : List (Nat × Option Nat) := []
abbrev l_J0_indexOf_0f7a4  : List (Nat × Option Nat) := []
abbrev l_J6_bitCount_0f7a4  : List (Nat × Option Nat) := []
abbrev l_J7_fill_53178 (ar : Nat) : List (Nat × Option Nat) := [(ar, none)]
abbrev l_J7_fill_d0a16 (ar : Nat) : List (Nat × Option Nat) := [(ar, none)]
abbrev l_X0_addBody  : List (Nat × Option Nat) := [(71, none), (69, (some 1))]
abbrev l_X0_kindOf  : List (Nat × Option Nat) := []
abbrev l_X0_mark  : List (Nat × Option Nat) := [(70, none), (69, (some 2))]
abbrev l_X0_run  : List (Nat × Option Nat) := [(70, none), (69, (some 2))]
abbrev l_X0_begin  : List (Nat × Option Nat) := [(70, none), (69, (some 2)), (69, (some 4)), (69, (some 5))]
abbrev l_X0_isUnder  : List (Nat × Option Nat) := []
abbrev l_X1_dropOldest  : List (Nat × Option Nat) := [(20, none), (21, none), (22, none), (23, none), (19, (some 4))]
abbrev l_X1_goBack  : List (Nat × Option Nat) := [(19, (some 4))]
abbrev l_X1_goOn  : List (Nat × Option Nat) := [(19, (some 4))]
abbrev l_X1_note  : List (Nat × Option Nat) := [(20, none), (21, none), (22, none), (23, none), (19, (some 4)), (19, (some 5))]
abbrev l_X2_bit  : List (Nat × Option Nat) := []
abbrev l_X2_emit  : List (Nat × Option Nat) := [(17, none), (18, none), (14, (some 6))]
abbrev l_X2_next  : List (Nat × Option Nat) := []
abbrev l_X2_isDigit  : List (Nat × Option Nat) := []
abbrev l_X2_readNumber  : List (Nat × Option Nat) := [(17, none), (18, none), (14, (some 6)), (14, (some 7))]
abbrev l_X2_refuse  : List (Nat × Option Nat) := [(14, (some 8))]
abbrev l_X2_readOperand  : List (Nat × Option Nat) := [(17, none), (18, none), (14, (some 6)), (14, (some 7)), (14, (some 8))]
abbrev l_X2_readProduct  : List (Nat × Option Nat) := [(17, none), (18, none), (14, (some 6)), (14, (some 7)), (14, (some 8))]
abbrev l_X2_readSum  : List (Nat × Option Nat) := [(17, none), (18, none), (14, (some 6)), (14, (some 7)), (14, (some 8))]
abbrev l_X2_readCompared  : List (Nat × Option Nat) := [(17, none), (18, none), (14, (some 6)), (14, (some 7)), (14, (some 8))]
abbrev l_X2_readBoth  : List (Nat × Option Nat) := [(17, none), (18, none), (14, (some 6)), (14, (some 7)), (14, (some 8))]
abbrev l_X2_readEither  : List (Nat × Option Nat) := [(17, none), (18, none), (14, (some 6)), (14, (some 7)), (14, (some 8))]
abbrev l_X2_readOpened  : List (Nat × Option Nat) := [(17, none), (18, none), (14, (some 6)), (14, (some 7)), (14, (some 8))]
abbrev l_X2_readLine  : List (Nat × Option Nat) := [(17, none), (18, none), (14, (some 6)), (14, (some 7)), (14, (some 8))]
abbrev l_X2_enact  : List (Nat × Option Nat) := [(17, none), (18, none), (1000, none), (14, (some 2)), (14, (some 5)), (14, (some 6)), (14, (some 7)), (14, (some 8))]
abbrev l_X2_isFull  : List (Nat × Option Nat) := []
abbrev l_X2_joined  : List (Nat × Option Nat) := []
abbrev l_X2_value  : List (Nat × Option Nat) := [(16, none)]
abbrev l_X2_write  : List (Nat × Option Nat) := [(15, none), (14, (some 2))]
abbrev l_X3_byTurns (a : Nat) : List (Nat × Option Nat) := []
abbrev l_X3_isThere (a : Nat) : List (Nat × Option Nat) := []
abbrev l_X3_cardsThere (a : Nat) : List (Nat × Option Nat) := []
abbrev l_X3_whoWishesMost (a : Nat) : List (Nat × Option Nat) := []
abbrev l_X3_chiefLast (a : Nat) : List (Nat × Option Nat) := []
abbrev l_X3_clear (a : Nat) : List (Nat × Option Nat) := [(a + 2, none), (a + 3, none), (a + 4, none), (a + 5, none), (a + 6, none), (a + 7, none), (a, (some 7)), (a, (some 8)), (a, (some 9)), (a + 10, none), (a + 11, none), (a, (some 18))]
abbrev l_X3_minutesThere (a : Nat) : List (Nat × Option Nat) := []
abbrev l_X3_cost (a : Nat) : List (Nat × Option Nat) := []
abbrev l_X6_sum  : List (Nat × Option Nat) := []
abbrev l_X6_decided  : List (Nat × Option Nat) := []
abbrev l_X3_decided (a : Nat) : List (Nat × Option Nat) := []
abbrev l_X3_sayFirst (a : Nat) : List (Nat × Option Nat) := [(a + 3, none), (a + 4, none), (a, (some 9))]
abbrev l_X3_writeDown (a : Nat) : List (Nat × Option Nat) := [(a + 3, none), (a + 4, none), (a, (some 9))]
abbrev l_X3_namesOf (a : Nat) : List (Nat × Option Nat) := [(a + 8, none)]
abbrev l_X3_weigh (a : Nat) : List (Nat × Option Nat) := [(16, none), (a + 8, none), (a + 9, none)]
abbrev l_X3_whoSpokeLeast (a : Nat) : List (Nat × Option Nat) := []
abbrev l_X3_nextSpeaker (a : Nat) : List (Nat × Option Nat) := []
abbrev l_X3_whoStops (a : Nat) : List (Nat × Option Nat) := []
abbrev l_X3_lowestBits  : List (Nat × Option Nat) := []
abbrev l_X3_lowestPlace  : List (Nat × Option Nat) := []
abbrev l_X3_lengthOf (a : Nat) : List (Nat × Option Nat) := []
abbrev l_X3_writeLog (a : Nat) : List (Nat × Option Nat) := [(a + 1, none), (a, (some 7))]
abbrev l_X3_speak (a : Nat) : List (Nat × Option Nat) := [(a + 1, none), (a + 2, none), (a + 3, none), (a + 4, none), (a + 5, none), (a + 6, none), (a + 7, none), (a, (some 7)), (a, (some 8)), (a, (some 9)), (a + 10, none), (a + 11, none), (a, (some 18))]
abbrev l_X3_discuss (a : Nat) : List (Nat × Option Nat) := [(16, none), (a + 1, none), (a + 2, none), (a + 3, none), (a + 4, none), (a + 5, none), (a + 6, none), (a + 7, none), (a + 8, none), (a + 9, none), (a, (some 7)), (a, (some 8)), (a, (some 9)), (a + 10, none), (a + 11, none), (a, (some 18))]
abbrev l_X3_hold (a : Nat) : List (Nat × Option Nat) := [(16, none), (a + 1, none), (a + 2, none), (a + 3, none), (a + 4, none), (a + 5, none), (a + 6, none), (a + 7, none), (a + 8, none), (a + 9, none), (a, (some 7)), (a, (some 8)), (a, (some 9)), (a + 10, none), (a + 11, none), (a, (some 15)), (a, (some 16)), (a, (some 17)), (a, (some 18))]
abbrev l_X6_knownCards  : List (Nat × Option Nat) := []
abbrev l_X3_wrong (a : Nat) : List (Nat × Option Nat) := []
abbrev l_X4_hadCard  : List (Nat × Option Nat) := []
abbrev l_X4_hadPerson  : List (Nat × Option Nat) := []
abbrev l_X4_hadThing  : List (Nat × Option Nat) := []
abbrev l_X6_aloneCards  : List (Nat × Option Nat) := []
abbrev l_X4_minutesByWorth  : List (Nat × Option Nat) := []
abbrev l_X4_shed  : List (Nat × Option Nat) := []
abbrev l_X4_summarize  : List (Nat × Option Nat) := [(25, none)]
abbrev l_X4_needed  : List (Nat × Option Nat) := [(16, none), (42, none), (43, none), (44, none), (45, none), (46, none), (47, none), (48, none), (49, none), (50, none), (51, none), (52, none), (41, (some 7)), (41, (some 8)), (41, (some 9)), (41, (some 15)), (41, (some 16)), (41, (some 17)), (41, (some 18))]
abbrev l_X4_hold  : List (Nat × Option Nat) := [(16, none), (25, none), (26, none), (28, none), (30, none), (31, none), (32, none), (33, none), (34, none), (35, none), (36, none), (37, none), (38, none), (39, none), (40, none), (42, none), (43, none), (44, none), (45, none), (46, none), (47, none), (48, none), (49, none), (50, none), (51, none), (52, none), (24, (some 3)), (24, (some 8)), (24, (some 9)), (29, (some 7)), (29, (some 8)), (29, (some 9)), (41, (some 7)), (41, (some 8)), (41, (some 9)), (24, (some 10)), (29, (some 15)), (29, (some 16)), (29, (some 17)), (29, (some 18)), (41, (some 15)), (41, (some 16)), (41, (some 17)), (41, (some 18))]
abbrev l_X4_ofPerson  : List (Nat × Option Nat) := []
abbrev l_X8_asTheyCame (ag : Nat) : List (Nat × Option Nat) := [(ag, none)]
abbrev l_X4_takesOrder  : List (Nat × Option Nat) := [(27, none)]
abbrev l_X5_hasRun (sf : Nat) : List (Nat × Option Nat) := []
abbrev l_X5_holdBody (sf : Nat) : List (Nat × Option Nat) := [(sf, (some 0)), (sf, (some 1)), (sf, (some 2))]
abbrev l_X5_holdRow (sf : Nat) : List (Nat × Option Nat) := [(sf + 1, none), (sf, (some 0)), (sf, (some 1)), (sf, (some 2))]
abbrev l_X5_refusalAt (sf : Nat) : List (Nat × Option Nat) := []
abbrev l_X5_store (sf : Nat) : List (Nat × Option Nat) := [(sf + 1, none)]
abbrev l_X6_addCard  : List (Nat × Option Nat) := [(8, none), (9, none), (10, none), (12, none), (13, none), (1, (some 15)), (1, (some 16))]
abbrev l_X6_isCard  : List (Nat × Option Nat) := []
abbrev l_X6_addCards (sf : Nat) : List (Nat × Option Nat) := [(8, none), (9, none), (10, none), (12, none), (13, none), (1, (some 15)), (1, (some 16))]
abbrev l_X6_addPerson  : List (Nat × Option Nat) := [(2, none), (3, none), (4, none), (5, none), (1, (some 13)), (1, (some 16))]
abbrev l_X6_addThing  : List (Nat × Option Nat) := [(6, none), (7, none), (1, (some 14)), (1, (some 16))]
abbrev l_X6_mendable  : List (Nat × Option Nat) := []
abbrev l_X6_isBare  : List (Nat × Option Nat) := []
abbrev l_X6_ofCard  : List (Nat × Option Nat) := []
abbrev l_X6_ofPerson  : List (Nat × Option Nat) := []
abbrev l_X7_compare  : List (Nat × Option Nat) := [(55, none)]
abbrev l_X7_tryRules  : List (Nat × Option Nat) := [(16, none), (55, none), (58, none), (59, none), (60, none), (61, none), (62, none), (63, none), (64, none), (65, none), (66, none), (67, none), (68, none), (57, (some 7)), (57, (some 8)), (57, (some 9)), (57, (some 15)), (57, (some 16)), (57, (some 17)), (57, (some 18))]
abbrev l_X7_digits  : List (Nat × Option Nat) := []
abbrev l_X7_swap  : List (Nat × Option Nat) := [(54, none)]
abbrev l_X7_nextOrder  : List (Nat × Option Nat) := [(54, none)]
abbrev l_X7_tryOrders  : List (Nat × Option Nat) := [(16, none), (54, none), (55, none), (58, none), (59, none), (60, none), (61, none), (62, none), (63, none), (64, none), (65, none), (66, none), (67, none), (68, none), (57, (some 7)), (57, (some 8)), (57, (some 9)), (57, (some 15)), (57, (some 16)), (57, (some 17)), (57, (some 18))]
abbrev l_X7_tryTimers  : List (Nat × Option Nat) := [(16, none), (55, none), (58, none), (59, none), (60, none), (61, none), (62, none), (63, none), (64, none), (65, none), (66, none), (67, none), (68, none), (57, (some 7)), (57, (some 8)), (57, (some 9)), (57, (some 15)), (57, (some 16)), (57, (some 17)), (57, (some 18))]
abbrev l_X7_answer  : List (Nat × Option Nat) := [(16, none), (54, none), (55, none), (56, none), (58, none), (59, none), (60, none), (61, none), (62, none), (63, none), (64, none), (65, none), (66, none), (67, none), (68, none), (57, (some 7)), (57, (some 8)), (57, (some 9)), (57, (some 15)), (57, (some 16)), (57, (some 17)), (57, (some 18))]
abbrev l_X7_isShown (sf : Nat) : List (Nat × Option Nat) := []
abbrev l_X7_rulesOf (sf : Nat) : List (Nat × Option Nat) := [(16, none), (54, none), (58, none), (59, none), (60, none), (61, none), (62, none), (63, none), (64, none), (65, none), (66, none), (67, none), (68, none), (57, (some 7)), (57, (some 8)), (57, (some 9)), (57, (some 15)), (57, (some 16)), (57, (some 17)), (57, (some 18))]
abbrev l_X7_wishNow  : List (Nat × Option Nat) := [(16, none), (59, none), (60, none), (61, none), (62, none), (63, none), (64, none), (65, none), (67, none), (68, none), (57, (some 7)), (57, (some 8)), (57, (some 9)), (57, (some 18))]
abbrev l_X8_act  : List (Nat × Option Nat) := [(70, none), (69, (some 2)), (69, (some 4)), (69, (some 5))]
abbrev l_X8_body  : List (Nat × Option Nat) := [(71, none), (69, (some 1))]
abbrev l_X8_card  : List (Nat × Option Nat) := [(8, none), (9, none), (10, none), (12, none), (13, none), (1, (some 15)), (1, (some 16))]
abbrev l_X8_isNoShelf  : List (Nat × Option Nat) := []
abbrev l_X8_cards  : List (Nat × Option Nat) := [(8, none), (9, none), (10, none), (12, none), (13, none), (1, (some 15)), (1, (some 16))]
abbrev l_X8_count  : List (Nat × Option Nat) := []
abbrev l_X8_did  : List (Nat × Option Nat) := []
abbrev l_X8_element  : List (Nat × Option Nat) := []
abbrev l_X8_feed  : List (Nat × Option Nat) := [(15, none), (14, (some 2))]
abbrev l_X8_film  : List (Nat × Option Nat) := [(16, none), (54, none), (58, none), (59, none), (60, none), (61, none), (62, none), (63, none), (64, none), (65, none), (66, none), (67, none), (68, none), (57, (some 7)), (57, (some 8)), (57, (some 9)), (57, (some 15)), (57, (some 16)), (57, (some 17)), (57, (some 18))]
abbrev l_X8_first  : List (Nat × Option Nat) := []
abbrev l_X8_keep  : List (Nat × Option Nat) := [(73, (some 0)), (73, (some 1)), (73, (some 2)), (75, (some 0)), (75, (some 1)), (75, (some 2)), (77, (some 0)), (77, (some 1)), (77, (some 2)), (79, (some 0)), (79, (some 1)), (79, (some 2)), (81, (some 0)), (81, (some 1)), (81, (some 2)), (83, (some 0)), (83, (some 1)), (83, (some 2))]
abbrev l_X8_law  : List (Nat × Option Nat) := [(17, none), (18, none), (1000, none), (1, (some 16)), (14, (some 2)), (14, (some 5)), (14, (some 6)), (14, (some 7)), (14, (some 8))]
abbrev l_X8_meet  : List (Nat × Option Nat) := [(16, none), (25, none), (26, none), (27, none), (28, none), (30, none), (31, none), (32, none), (33, none), (34, none), (35, none), (36, none), (37, none), (38, none), (39, none), (40, none), (42, none), (43, none), (44, none), (45, none), (46, none), (47, none), (48, none), (49, none), (50, none), (51, none), (52, none), (24, (some 3)), (24, (some 8)), (24, (some 9)), (29, (some 7)), (29, (some 8)), (29, (some 9)), (41, (some 7)), (41, (some 8)), (41, (some 9)), (24, (some 10)), (29, (some 15)), (29, (some 16)), (29, (some 17)), (29, (some 18)), (41, (some 15)), (41, (some 16)), (41, (some 17)), (41, (some 18))]
abbrev l_X8_of  : List (Nat × Option Nat) := []
abbrev l_X8_order  : List (Nat × Option Nat) := [(16, none), (54, none), (55, none), (56, none), (58, none), (59, none), (60, none), (61, none), (62, none), (63, none), (64, none), (65, none), (66, none), (67, none), (68, none), (57, (some 7)), (57, (some 8)), (57, (some 9)), (57, (some 15)), (57, (some 16)), (57, (some 17)), (57, (some 18))]
abbrev l_X8_person  : List (Nat × Option Nat) := [(2, none), (3, none), (4, none), (5, none), (1, (some 13)), (1, (some 16))]
abbrev l_X8_put  : List (Nat × Option Nat) := [(74, none), (76, none), (78, none), (80, none), (82, none), (84, none)]
abbrev l_X8_row  : List (Nat × Option Nat) := [(74, none), (76, none), (78, none), (80, none), (82, none), (84, none), (73, (some 0)), (73, (some 1)), (73, (some 2)), (75, (some 0)), (75, (some 1)), (75, (some 2)), (77, (some 0)), (77, (some 1)), (77, (some 2)), (79, (some 0)), (79, (some 1)), (79, (some 2)), (81, (some 0)), (81, (some 1)), (81, (some 2)), (83, (some 0)), (83, (some 1)), (83, (some 2))]
abbrev l_X8_rule  : List (Nat × Option Nat) := [(16, none), (54, none), (55, none), (56, none), (58, none), (59, none), (60, none), (61, none), (62, none), (63, none), (64, none), (65, none), (66, none), (67, none), (68, none), (57, (some 7)), (57, (some 8)), (57, (some 9)), (57, (some 15)), (57, (some 16)), (57, (some 17)), (57, (some 18))]
abbrev l_X8_saying  : List (Nat × Option Nat) := []
abbrev l_X8_set  : List (Nat × Option Nat) := [(11, none), (1, (some 16))]
abbrev l_X8_shift  : List (Nat × Option Nat) := [(74, none), (76, none), (78, none), (80, none), (82, none), (84, none)]
abbrev l_X8_taken  : List (Nat × Option Nat) := []
abbrev l_X8_thing  : List (Nat × Option Nat) := [(6, none), (7, none), (1, (some 14)), (1, (some 16))]
abbrev l_X8_times  : List (Nat × Option Nat) := [(16, none), (54, none), (55, none), (56, none), (58, none), (59, none), (60, none), (61, none), (62, none), (63, none), (64, none), (65, none), (66, none), (67, none), (68, none), (57, (some 7)), (57, (some 8)), (57, (some 9)), (57, (some 15)), (57, (some 16)), (57, (some 17)), (57, (some 18))]
abbrev l_X8_told  : List (Nat × Option Nat) := []
abbrev l_X8_took  : List (Nat × Option Nat) := []
abbrev l_X8_trace  : List (Nat × Option Nat) := []
abbrev l_X8_wish  : List (Nat × Option Nat) := [(16, none), (59, none), (60, none), (61, none), (62, none), (63, none), (64, none), (65, none), (67, none), (68, none), (57, (some 7)), (57, (some 8)), (57, (some 9)), (57, (some 18))]
abbrev l_X9_above  : List (Nat × Option Nat) := []
abbrev l_X9_within  : List (Nat × Option Nat) := []
abbrev l_X9_isBody  : List (Nat × Option Nat) := []
abbrev l_X9_begins  : List (Nat × Option Nat) := [(125, none), (85, (some 69))]
abbrev l_X9_knowsAs  : List (Nat × Option Nat) := [(125, none), (85, (some 69))]
abbrev l_X9_stopsAs  : List (Nat × Option Nat) := [(125, none), (85, (some 69))]
abbrev l_X9_speaksAs  : List (Nat × Option Nat) := [(125, none), (85, (some 69))]
abbrev l_X9_decidesAs  : List (Nat × Option Nat) := [(125, none), (85, (some 69))]
abbrev l_X9_act  : List (Nat × Option Nat) := [(125, none), (85, (some 69)), (85, (some 70)), (85, (some 71))]
abbrev l_X9_adds  : List (Nat × Option Nat) := [(91, none), (92, none), (93, none), (85, (some 9))]
abbrev l_X9_bitsOf  : List (Nat × Option Nat) := []
abbrev l_X9_isAlone  : List (Nat × Option Nat) := []
abbrev l_X9_isSaid  : List (Nat × Option Nat) := []
abbrev l_X9_aloneSaid  : List (Nat × Option Nat) := []
abbrev l_X9_asSort  : List (Nat × Option Nat) := []
abbrev l_X9_becomes  : List (Nat × Option Nat) := [(86, none), (87, none), (88, none), (89, none), (85, (some 4)), (85, (some 5))]
abbrev l_X9_bestTold  : List (Nat × Option Nat) := []
abbrev l_X9_body  : List (Nat × Option Nat) := [(124, none), (85, (some 66))]
abbrev l_X9_byteAt  : List (Nat × Option Nat) := []
abbrev l_X9_product  : List (Nat × Option Nat) := [(85, (some 21)), (85, (some 23)), (85, (some 24))]
abbrev l_X9_sums  : List (Nat × Option Nat) := [(85, (some 21)), (85, (some 23)), (85, (some 24))]
abbrev l_X9_compared  : List (Nat × Option Nat) := [(85, (some 21)), (85, (some 23)), (85, (some 24))]
abbrev l_X9_takes  : List (Nat × Option Nat) := [(85, (some 21))]
abbrev l_X9_both  : List (Nat × Option Nat) := [(85, (some 21)), (85, (some 23)), (85, (some 24))]
abbrev l_X9_isThere  : List (Nat × Option Nat) := []
abbrev l_X9_wishes  : List (Nat × Option Nat) := []
abbrev l_X9_byTurns  : List (Nat × Option Nat) := []
abbrev l_X9_isOne  : List (Nat × Option Nat) := []
abbrev l_X9_card  : List (Nat × Option Nat) := [(91, none), (92, none), (93, none), (85, (some 9))]
abbrev l_X9_isShelf  : List (Nat × Option Nat) := []
abbrev l_X9_cards  : List (Nat × Option Nat) := [(91, none), (92, none), (93, none), (85, (some 9))]
abbrev l_X9_mostWishing  : List (Nat × Option Nat) := []
abbrev l_X9_chiefLast  : List (Nat × Option Nat) := []
abbrev l_X9_comesTo  : List (Nat × Option Nat) := []
abbrev l_X9_thereFor  : List (Nat × Option Nat) := []
abbrev l_X9_cost  : List (Nat × Option Nat) := []
abbrev l_X9_count  : List (Nat × Option Nat) := []
abbrev l_X9_decided  : List (Nat × Option Nat) := []
abbrev l_X9_did  : List (Nat × Option Nat) := []
abbrev l_X9_either  : List (Nat × Option Nat) := [(85, (some 21)), (85, (some 23)), (85, (some 24))]
abbrev l_X9_refusal  : List (Nat × Option Nat) := []
abbrev l_X9_element  : List (Nat × Option Nat) := []
abbrev l_X9_feed  : List (Nat × Option Nat) := [(94, none), (85, (some 17))]
abbrev l_X9_isTable  : List (Nat × Option Nat) := []
abbrev l_X9_plain  : List (Nat × Option Nat) := [(103, none), (85, (some 26)), (85, (some 27)), (85, (some 28))]
abbrev l_X9_knows  : List (Nat × Option Nat) := []
abbrev l_X9_putsPaper  : List (Nat × Option Nat) := [(100, none), (101, none)]
abbrev l_X9_unsaid  : List (Nat × Option Nat) := []
abbrev l_X9_wrong  : List (Nat × Option Nat) := [(85, (some 23))]
abbrev l_X9_nameOf  : List (Nat × Option Nat) := []
abbrev l_X9_one  : List (Nat × Option Nat) := [(85, (some 21)), (85, (some 23)), (85, (some 24))]
abbrev l_X9_workOut  : List (Nat × Option Nat) := [(85, (some 20)), (85, (some 21)), (85, (some 22)), (85, (some 23)), (85, (some 24))]
abbrev l_X9_wishOf  : List (Nat × Option Nat) := [(96, none), (85, (some 20)), (85, (some 21)), (85, (some 22)), (85, (some 23)), (85, (some 24))]
abbrev l_X9_leastSpoken  : List (Nat × Option Nat) := []
abbrev l_X9_nextSpeaker  : List (Nat × Option Nat) := []
abbrev l_X9_stopper  : List (Nat × Option Nat) := []
abbrev l_X9_saysNew  : List (Nat × Option Nat) := [(100, none), (101, none)]
abbrev l_X9_saysAgain  : List (Nat × Option Nat) := []
abbrev l_X9_speaks  : List (Nat × Option Nat) := [(97, none), (99, none), (100, none), (101, none), (102, none), (104, none), (105, none), (106, none), (107, none), (108, none), (109, none), (110, none), (85, (some 29)), (85, (some 30)), (85, (some 31))]
abbrev l_X9_oneThing  : List (Nat × Option Nat) := [(96, none), (97, none), (98, none), (99, none), (100, none), (101, none), (102, none), (104, none), (105, none), (106, none), (107, none), (108, none), (109, none), (110, none), (85, (some 20)), (85, (some 21)), (85, (some 22)), (85, (some 23)), (85, (some 24)), (85, (some 29)), (85, (some 30)), (85, (some 31))]
abbrev l_X9_meets  : List (Nat × Option Nat) := [(96, none), (97, none), (98, none), (99, none), (100, none), (101, none), (102, none), (104, none), (105, none), (106, none), (107, none), (108, none), (109, none), (110, none), (85, (some 20)), (85, (some 21)), (85, (some 22)), (85, (some 23)), (85, (some 24)), (85, (some 29)), (85, (some 30)), (85, (some 31))]
abbrev l_X9_film  : List (Nat × Option Nat) := [(96, none), (97, none), (98, none), (99, none), (100, none), (101, none), (102, none), (103, none), (104, none), (105, none), (106, none), (107, none), (108, none), (109, none), (110, none), (85, (some 20)), (85, (some 21)), (85, (some 22)), (85, (some 23)), (85, (some 24)), (85, (some 26)), (85, (some 27)), (85, (some 28)), (85, (some 29)), (85, (some 30)), (85, (some 31))]
abbrev l_X9_first  : List (Nat × Option Nat) := []
abbrev l_X9_isKnown  : List (Nat × Option Nat) := []
abbrev l_X9_shouldBe  : List (Nat × Option Nat) := []
abbrev l_X9_wrongMany  : List (Nat × Option Nat) := []
abbrev l_X9_looksAt  : List (Nat × Option Nat) := [(96, none), (97, none), (98, none), (99, none), (100, none), (101, none), (102, none), (104, none), (105, none), (106, none), (107, none), (108, none), (109, none), (110, none), (85, (some 20)), (85, (some 21)), (85, (some 22)), (85, (some 23)), (85, (some 24)), (85, (some 29)), (85, (some 30)), (85, (some 31)), (85, (some 63)), (85, (some 64)), (85, (some 65))]
abbrev l_X9_goesOrders  : List (Nat × Option Nat) := [(96, none), (97, none), (98, none), (99, none), (100, none), (101, none), (102, none), (103, none), (104, none), (105, none), (106, none), (107, none), (108, none), (109, none), (110, none), (85, (some 20)), (85, (some 21)), (85, (some 22)), (85, (some 23)), (85, (some 24)), (85, (some 29)), (85, (some 30)), (85, (some 31)), (85, (some 63)), (85, (some 64)), (85, (some 65))]
abbrev l_X9_heldBack  : List (Nat × Option Nat) := []
abbrev l_X9_isCard  : List (Nat × Option Nat) := []
abbrev l_X9_isDigit1  : List (Nat × Option Nat) := []
abbrev l_X9_isThing  : List (Nat × Option Nat) := []
abbrev l_X9_isOrder  : List (Nat × Option Nat) := [(103, none)]
abbrev l_X9_isPerson  : List (Nat × Option Nat) := []
abbrev l_X9_isWorth  : List (Nat × Option Nat) := []
abbrev l_X9_keep  : List (Nat × Option Nat) := [(126, none), (127, none)]
abbrev l_X9_keepsRows  : List (Nat × Option Nat) := [(112, none), (113, none), (114, none), (115, none), (116, none), (117, none), (118, none), (119, none), (120, none), (121, none), (122, none), (123, none), (85, (some 46)), (85, (some 47)), (85, (some 48)), (85, (some 49))]
abbrev l_X9_kindOf  : List (Nat × Option Nat) := []
abbrev l_X9_law  : List (Nat × Option Nat) := [(95, none), (85, (some 17)), (85, (some 19)), (85, (some 20)), (85, (some 21)), (85, (some 22)), (85, (some 23)), (85, (some 24))]
abbrev l_X9_size  : List (Nat × Option Nat) := []
abbrev l_X9_shed  : List (Nat × Option Nat) := []
abbrev l_X9_meet  : List (Nat × Option Nat) := [(96, none), (97, none), (98, none), (99, none), (100, none), (101, none), (102, none), (103, none), (104, none), (105, none), (106, none), (107, none), (108, none), (109, none), (110, none), (111, none), (112, none), (113, none), (114, none), (115, none), (116, none), (117, none), (118, none), (119, none), (120, none), (121, none), (122, none), (123, none), (85, (some 20)), (85, (some 21)), (85, (some 22)), (85, (some 23)), (85, (some 24)), (85, (some 26)), (85, (some 27)), (85, (some 28)), (85, (some 29)), (85, (some 30)), (85, (some 31)), (85, (some 46)), (85, (some 47)), (85, (some 48)), (85, (some 49))]
abbrev l_X9_mend  : List (Nat × Option Nat) := [(86, none), (87, none), (88, none), (89, none), (85, (some 4)), (85, (some 5))]
abbrev l_X9_of  : List (Nat × Option Nat) := []
abbrev l_X9_order  : List (Nat × Option Nat) := [(96, none), (97, none), (98, none), (99, none), (100, none), (101, none), (102, none), (103, none), (104, none), (105, none), (106, none), (107, none), (108, none), (109, none), (110, none), (85, (some 20)), (85, (some 21)), (85, (some 22)), (85, (some 23)), (85, (some 24)), (85, (some 26)), (85, (some 27)), (85, (some 28)), (85, (some 29)), (85, (some 30)), (85, (some 31)), (85, (some 63)), (85, (some 64)), (85, (some 65))]
abbrev l_X9_person  : List (Nat × Option Nat) := [(86, none), (90, none), (85, (some 6))]
abbrev l_X9_put  : List (Nat × Option Nat) := [(128, none)]
abbrev l_X9_redo  : List (Nat × Option Nat) := [(86, none), (85, (some 5))]
abbrev l_X9_row  : List (Nat × Option Nat) := [(126, none), (127, none), (128, none)]
abbrev l_X9_rule  : List (Nat × Option Nat) := [(96, none), (97, none), (98, none), (99, none), (100, none), (101, none), (102, none), (103, none), (104, none), (105, none), (106, none), (107, none), (108, none), (109, none), (110, none), (85, (some 20)), (85, (some 21)), (85, (some 22)), (85, (some 23)), (85, (some 24)), (85, (some 26)), (85, (some 27)), (85, (some 28)), (85, (some 29)), (85, (some 30)), (85, (some 31)), (85, (some 63)), (85, (some 64)), (85, (some 65))]
abbrev l_X9_saying  : List (Nat × Option Nat) := []
abbrev l_X9_set  : List (Nat × Option Nat) := [(85, (some 13)), (85, (some 14)), (85, (some 15))]
abbrev l_X9_shift  : List (Nat × Option Nat) := [(128, none), (129, none)]
abbrev l_X9_taken  : List (Nat × Option Nat) := []
abbrev l_X9_thing  : List (Nat × Option Nat) := [(86, none), (85, (some 8))]
abbrev l_X9_times  : List (Nat × Option Nat) := [(96, none), (97, none), (98, none), (99, none), (100, none), (101, none), (102, none), (103, none), (104, none), (105, none), (106, none), (107, none), (108, none), (109, none), (110, none), (85, (some 20)), (85, (some 21)), (85, (some 22)), (85, (some 23)), (85, (some 24)), (85, (some 26)), (85, (some 27)), (85, (some 28)), (85, (some 29)), (85, (some 30)), (85, (some 31)), (85, (some 63)), (85, (some 64)), (85, (some 65))]
abbrev l_X9_told  : List (Nat × Option Nat) := []
abbrev l_X9_took  : List (Nat × Option Nat) := []
abbrev l_X9_trace  : List (Nat × Option Nat) := []
abbrev l_X9_undo  : List (Nat × Option Nat) := [(86, none), (85, (some 5))]
abbrev l_X9_wish  : List (Nat × Option Nat) := [(96, none), (85, (some 20)), (85, (some 21)), (85, (some 22)), (85, (some 23)), (85, (some 24))]
theorem fr_J0_coder_7d493   {m : Mem} {t : Int32 × Mem} (h : f_J0_coder_7d493 m = some t) : Fr (l_J0_coder_7d493) m ((fun t => t.2) t) := by
  have hF : Fr (l_J0_coder_7d493) m m := Fr.rf
  rcases fr_if h with h | h
  · have h := (bb_s h).2
    cases h
    exact hF
  · have h := (bb_s h).2
    cases h
    exact hF
theorem fr_J0_isLatin1_aae02   {m : Mem} {t : Int32 × Mem} (h : f_J0_isLatin1_aae02 m = some t) : Fr (l_J0_isLatin1_aae02) m ((fun t => t.2) t) := by
  have hF : Fr (l_J0_isLatin1_aae02) m m := Fr.rf
  rcases fr_if h with h | h
  · have h := (bz_s h).2
    obtain rfl := Option.some.inj h
    exact hF
  · rcases fr_if h with h | h
    · have h := (bz_s h).2
      obtain rfl := Option.some.inj h
      exact hF
    · have h := (bz_s h).2
      obtain rfl := Option.some.inj h
      exact hF
theorem fr_J0_length_8abf5   {m : Mem} {t : Int32 × Mem} (h : f_J0_length_8abf5 m = some t) : Fr (l_J0_length_8abf5) m ((fun t => t.2) t) := by
  have hF : Fr (l_J0_length_8abf5) m m := Fr.rf
  obtain ⟨q1, h0, h⟩ := Option.bind_eq_some_iff.mp h
  have hF := hF.trans ((fr_J0_coder_7d493 h0).sub (fun _ hq => nomatch hq))
  obtain rfl := Option.some.inj h
  exact hF
theorem fr_J1_canEncode_9a6ad  {p1 : Int32} {m : Mem} {t : Int32 × Mem} (h : f_J1_canEncode_9a6ad p1 m = some t) : Fr (l_J1_canEncode_9a6ad) m ((fun t => t.2) t) := by
  have hF : Fr (l_J1_canEncode_9a6ad) m m := Fr.rf
  rcases fr_if h with h | h
  · have h := (bz_s h).2
    obtain rfl := Option.some.inj h
    exact hF
  · rcases fr_if h with h | h
    · have h := (bz_s h).2
      obtain rfl := Option.some.inj h
      exact hF
    · have h := (bz_s h).2
      obtain rfl := Option.some.inj h
      exact hF
theorem fr_J1_indexOfChar_4cfef_L7  {s : Int32 × Int32 × Int32 × Mem} {t : (Int32 × Int32 × Int32 × Mem) ⊕ (Int32 × Mem)} (h : f_J1_indexOfChar_4cfef_L7 s = some t) : Fr (l_J1_indexOfChar_4cfef) s.2.2.2 ((mS (fun s => s.2.2.2) (fun t => t.2)) t) := by
  have hF : Fr (l_J1_indexOfChar_4cfef) s.2.2.2 s.2.2.2 := Fr.rf
  rcases fr_if h with h | h
  · refine fr_up h (fun r h => ?_)
    obtain rfl := Option.some.inj h
    exact hF
  · have h := (ck_s h).2
    rcases fr_if h with h | h
    · obtain ⟨y1, h⟩ := fr_bn h
      obtain rfl := Option.some.inj h
      exact hF
    · refine fr_up h (fun r h => ?_)
      obtain rfl := Option.some.inj h
      exact hF
theorem fr_J1_indexOfChar_4cfef  {p2 : Int32} {p3 : Int32} {p4 : Int32} {m : Mem} {t : Int32 × Mem} (h : f_J1_indexOfChar_4cfef p2 p3 p4 m = some t) : Fr (l_J1_indexOfChar_4cfef) m ((fun t => t.2) t) := by
  have hF : Fr (l_J1_indexOfChar_4cfef) m m := Fr.rf
  have hW := fr_wh (l := l_J1_indexOfChar_4cfef) (f := fun s => s.2.2.2) (k := (fun t => t.2)) (fun s t h => fr_J1_indexOfChar_4cfef_L7 h) h
  exact hF.trans hW
theorem fr_J1_indexOf_4cfef  {p2 : Int32} {p3 : Int32} {p4 : Int32} {m : Mem} {t : Int32 × Mem} (h : f_J1_indexOf_4cfef p2 p3 p4 m = some t) : Fr (l_J1_indexOf_4cfef) m ((fun t => t.2) t) := by
  have hF : Fr (l_J1_indexOf_4cfef) m m := Fr.rf
  obtain ⟨q1, h0, h⟩ := Option.bind_eq_some_iff.mp h
  have hF := hF.trans ((fr_J1_canEncode_9a6ad h0).sub (fun _ hq => nomatch hq))
  rcases fr_if h with h | h
  · obtain ⟨y2, h⟩ := fr_bn h
    obtain ⟨y3, h⟩ := fr_bn h
    rcases fr_if h with h | h
    · obtain ⟨q4, h0, h⟩ := Option.bind_eq_some_iff.mp h
      have hF := hF.trans ((fr_J1_indexOfChar_4cfef h0).sub (fun _ hq => nomatch hq))
      obtain rfl := Option.some.inj h
      exact hF
    · obtain rfl := Option.some.inj h
      exact hF
  · obtain rfl := Option.some.inj h
    exact hF
theorem fr_J0_indexOf_7cf53  {p1 : Int32} {p2 : Int32} {m : Mem} {t : Int32 × Mem} (h : f_J0_indexOf_7cf53 p1 p2 m = some t) : Fr (l_J0_indexOf_7cf53) m ((fun t => t.2) t) := by
  have hF : Fr (l_J0_indexOf_7cf53) m m := Fr.rf
  obtain ⟨q1, h0, h⟩ := Option.bind_eq_some_iff.mp h
  have hF := hF.trans ((fr_J0_isLatin1_aae02 h0).sub (fun _ hq => nomatch hq))
  rcases fr_if h with h | h
  · obtain ⟨q2, h0, h⟩ := Option.bind_eq_some_iff.mp h
    have hF := hF.trans ((fr_J0_length_8abf5 h0).sub (fun _ hq => nomatch hq))
    cases h
  · obtain ⟨q3, h0, h⟩ := Option.bind_eq_some_iff.mp h
    have hF := hF.trans ((fr_J0_length_8abf5 h0).sub (fun _ hq => nomatch hq))
    obtain ⟨q4, h0, h⟩ := Option.bind_eq_some_iff.mp h
    have hF := hF.trans ((fr_J1_indexOf_4cfef h0).sub (fun _ hq => nomatch hq))
    obtain rfl := Option.some.inj h
    exact hF
theorem fr_J0_indexOf_0f7a4  {p1 : Int32} {m : Mem} {t : Int32 × Mem} (h : f_J0_indexOf_0f7a4 p1 m = some t) : Fr (l_J0_indexOf_0f7a4) m ((fun t => t.2) t) := by
  have hF : Fr (l_J0_indexOf_0f7a4) m m := Fr.rf
  obtain ⟨q1, h0, h⟩ := Option.bind_eq_some_iff.mp h
  have hF := hF.trans ((fr_J0_indexOf_7cf53 h0).sub (fun _ hq => nomatch hq))
  obtain rfl := Option.some.inj h
  exact hF
theorem fr_J6_bitCount_0f7a4  {p1 : Int32} {m : Mem} {t : Int32 × Mem} (h : f_J6_bitCount_0f7a4 p1 m = some t) : Fr (l_J6_bitCount_0f7a4) m ((fun t => t.2) t) := by
  have hF : Fr (l_J6_bitCount_0f7a4) m m := Fr.rf
  obtain ⟨y1, h⟩ := fr_bn h
  obtain ⟨y2, h⟩ := fr_bn h
  obtain ⟨y3, h⟩ := fr_bn h
  obtain ⟨y4, h⟩ := fr_bn h
  obtain ⟨y5, h⟩ := fr_bn h
  obtain rfl := Option.some.inj h
  exact hF
theorem fr_J7_fill_53178_L5 {ar : Nat} {an : Nat} {s : Int32 × Int32 × Int32 × Mem} {t : (Int32 × Int32 × Int32 × Mem) ⊕ Mem} (h : f_J7_fill_53178_L5 ar an s = some t) : Fr (l_J7_fill_53178 ar) s.2.2.2 ((mS (fun s => s.2.2.2) (fun t => t)) t) := by
  have hF : Fr (l_J7_fill_53178 ar) s.2.2.2 s.2.2.2 := Fr.rf
  rcases fr_if h with h | h
  · refine fr_up h (fun r h => ?_)
    obtain rfl := Option.some.inj h
    exact hF
  · have h := (ck_s h).2
    obtain ⟨m2, hF, h⟩ := fr_stI (fr_at 0 rfl) hF h
    obtain ⟨y3, h⟩ := fr_bn h
    obtain rfl := Option.some.inj h
    exact hF
theorem fr_J7_fill_53178 {ar : Nat} {an : Nat} {p2 : Int32} {m : Mem} {t : Mem} (h : f_J7_fill_53178 ar an p2 m = some t) : Fr (l_J7_fill_53178 ar) m ((fun t => t) t) := by
  have hF : Fr (l_J7_fill_53178 ar) m m := Fr.rf
  obtain ⟨y1, h⟩ := fr_bn h
  have hW := fr_wh (l := l_J7_fill_53178 ar) (f := fun s => s.2.2.2) (k := (fun t => t)) (fun s t h => fr_J7_fill_53178_L5 h) h
  exact hF.trans hW
theorem fr_J7_fill_d0a16_L6 {ar : Nat} {an : Nat} {s : Int64 × Int32 × Int32 × Mem} {t : (Int64 × Int32 × Int32 × Mem) ⊕ Mem} (h : f_J7_fill_d0a16_L6 ar an s = some t) : Fr (l_J7_fill_d0a16 ar) s.2.2.2 ((mS (fun s => s.2.2.2) (fun t => t)) t) := by
  have hF : Fr (l_J7_fill_d0a16 ar) s.2.2.2 s.2.2.2 := Fr.rf
  rcases fr_if h with h | h
  · refine fr_up h (fun r h => ?_)
    obtain rfl := Option.some.inj h
    exact hF
  · have h := (ck_s h).2
    obtain ⟨m2, hF, h⟩ := fr_stJ (fr_at 0 rfl) hF h
    obtain ⟨y3, h⟩ := fr_bn h
    obtain rfl := Option.some.inj h
    exact hF
theorem fr_J7_fill_d0a16 {ar : Nat} {an : Nat} {p2 : Int64} {m : Mem} {t : Mem} (h : f_J7_fill_d0a16 ar an p2 m = some t) : Fr (l_J7_fill_d0a16 ar) m ((fun t => t) t) := by
  have hF : Fr (l_J7_fill_d0a16 ar) m m := Fr.rf
  obtain ⟨y1, h⟩ := fr_bn h
  have hW := fr_wh (l := l_J7_fill_d0a16 ar) (f := fun s => s.2.2.2) (k := (fun t => t)) (fun s t h => fr_J7_fill_d0a16_L6 h) h
  exact hF.trans hW
theorem fr_X0_addBody  {p1 : Int32} {m : Mem} {t : Int32 × Mem} (h : f_X0_addBody p1 m = some t) : Fr (l_X0_addBody) m ((fun t => t.2) t) := by
  have hF : Fr (l_X0_addBody) m m := Fr.rf
  have h := (ck_s h).2
  obtain ⟨m1, hF, h⟩ := fr_stI (fr_at 0 rfl) hF h
  obtain ⟨m2, hF, h⟩ := fr_stI (fr_at 1 rfl) hF h
  obtain rfl := Option.some.inj h
  exact hF
theorem fr_X0_kindOf  {p1 : Int32} {m : Mem} {t : Int32 × Mem} (h : f_X0_kindOf p1 m = some t) : Fr (l_X0_kindOf) m ((fun t => t.2) t) := by
  have hF : Fr (l_X0_kindOf) m m := Fr.rf
  rcases fr_if h with h | h
  · obtain rfl := Option.some.inj h
    exact hF
  · rcases fr_if h with h | h
    · obtain rfl := Option.some.inj h
      exact hF
    · have h := (ck_s h).2
      obtain rfl := Option.some.inj h
      exact hF
theorem fr_X0_mark  {p1 : Int32} {m : Mem} {t : Mem} (h : f_X0_mark p1 m = some t) : Fr (l_X0_mark) m ((fun t => t) t) := by
  have hF : Fr (l_X0_mark) m m := Fr.rf
  rcases fr_if h with h | h
  · obtain ⟨m1, hF, h⟩ := fr_stI (fr_at 1 rfl) hF h
    obtain rfl := Option.some.inj h
    exact hF
  · have h := (ck_s h).2
    obtain ⟨m2, hF, h⟩ := fr_stI (fr_at 0 rfl) hF h
    obtain ⟨m3, hF, h⟩ := fr_stI (fr_at 1 rfl) hF h
    obtain rfl := Option.some.inj h
    exact hF
theorem fr_X0_run_J45 {rc : Int32 → Int32 → Int32 → Int32 → Mem → Option (Int32 × Mem)} (hrf : ∀ (m : Mem) (t : Int32 × Mem) (p1 : Int32) (p2 : Int32) (p3 : Int32) (p4 : Int32), rc p1 p2 p3 p4 m = some t → Fr l_X0_run m ((fun t => t.2) t))  {v2 : Int32} {v3 : Int32} {v4 : Int32} {v5 : Int32}  {m : Mem} {t : Int32 × Mem} (h : f_X0_run_J45 rc v2 v3 v4 v5 m = some t) : Fr (l_X0_run) m ((fun t => t.2) t) := by
  have hF : Fr (l_X0_run) m m := Fr.rf
  rcases fr_if h with h | h
  · obtain rfl := Option.some.inj h
    exact hF
  · rcases fr_if h with h | h
    · have h := (ck_s h).2
      obtain ⟨y1, h⟩ := fr_bn h
      obtain ⟨q2, h0, h⟩ := Option.bind_eq_some_iff.mp h
      have hF := hF.trans ((fr_X0_mark h0).sub (fr_ix [0, 1] rfl))
      have h := (ck_s h).2
      obtain ⟨y3, h⟩ := fr_bn h
      obtain ⟨y4, h⟩ := fr_bn h
      rcases fr_sw h with h | h | h | h | h | h | h | h | h | h | h | h | h | h
      · obtain rfl := Option.some.inj h
        exact hF
      · obtain ⟨q5, h0, h⟩ := Option.bind_eq_some_iff.mp h
        have hF := hF.trans ((hrf _ _ _ _ _ _ h0).sub (fr_ix [0, 1] rfl))
        obtain ⟨q6, h0, h⟩ := Option.bind_eq_some_iff.mp h
        have hF := hF.trans ((hrf _ _ _ _ _ _ h0).sub (fr_ix [0, 1] rfl))
        obtain rfl := Option.some.inj h
        exact hF
      · obtain ⟨q7, h0, h⟩ := Option.bind_eq_some_iff.mp h
        have hF := hF.trans ((hrf _ _ _ _ _ _ h0).sub (fr_ix [0, 1] rfl))
        obtain rfl := Option.some.inj h
        exact hF
      · obtain rfl := Option.some.inj h
        exact hF
      · obtain ⟨q8, h0, h⟩ := Option.bind_eq_some_iff.mp h
        have hF := hF.trans ((hrf _ _ _ _ _ _ h0).sub (fr_ix [0, 1] rfl))
        obtain rfl := Option.some.inj h
        exact hF
      · obtain ⟨q9, h0, h⟩ := Option.bind_eq_some_iff.mp h
        have hF := hF.trans ((hrf _ _ _ _ _ _ h0).sub (fr_ix [0, 1] rfl))
        obtain rfl := Option.some.inj h
        exact hF
      · obtain ⟨q10, h0, h⟩ := Option.bind_eq_some_iff.mp h
        have hF := hF.trans ((hrf _ _ _ _ _ _ h0).sub (fr_ix [0, 1] rfl))
        obtain rfl := Option.some.inj h
        exact hF
      · obtain ⟨q11, h0, h⟩ := Option.bind_eq_some_iff.mp h
        have hF := hF.trans ((hrf _ _ _ _ _ _ h0).sub (fr_ix [0, 1] rfl))
        obtain rfl := Option.some.inj h
        exact hF
      · obtain ⟨q12, h0, h⟩ := Option.bind_eq_some_iff.mp h
        have hF := hF.trans ((hrf _ _ _ _ _ _ h0).sub (fr_ix [0, 1] rfl))
        obtain ⟨q13, h0, h⟩ := Option.bind_eq_some_iff.mp h
        have hF := hF.trans ((hrf _ _ _ _ _ _ h0).sub (fr_ix [0, 1] rfl))
        obtain rfl := Option.some.inj h
        exact hF
      · obtain ⟨q14, h0, h⟩ := Option.bind_eq_some_iff.mp h
        have hF := hF.trans ((hrf _ _ _ _ _ _ h0).sub (fr_ix [0, 1] rfl))
        obtain rfl := Option.some.inj h
        exact hF
      · obtain ⟨q15, h0, h⟩ := Option.bind_eq_some_iff.mp h
        have hF := hF.trans ((hrf _ _ _ _ _ _ h0).sub (fr_ix [0, 1] rfl))
        obtain rfl := Option.some.inj h
        exact hF
      · obtain ⟨q16, h0, h⟩ := Option.bind_eq_some_iff.mp h
        have hF := hF.trans ((hrf _ _ _ _ _ _ h0).sub (fr_ix [0, 1] rfl))
        obtain ⟨q17, h0, h⟩ := Option.bind_eq_some_iff.mp h
        have hF := hF.trans ((hrf _ _ _ _ _ _ h0).sub (fr_ix [0, 1] rfl))
        obtain rfl := Option.some.inj h
        exact hF
      · obtain ⟨q18, h0, h⟩ := Option.bind_eq_some_iff.mp h
        have hF := hF.trans ((hrf _ _ _ _ _ _ h0).sub (fr_ix [0, 1] rfl))
        obtain rfl := Option.some.inj h
        exact hF
      · obtain rfl := Option.some.inj h
        exact hF
    · obtain rfl := Option.some.inj h
      exact hF
theorem fr_X0_run_L6 {rc : Int32 → Int32 → Int32 → Int32 → Mem → Option (Int32 × Mem)} (hrf : ∀ (m : Mem) (t : Int32 × Mem) (p1 : Int32) (p2 : Int32) (p3 : Int32) (p4 : Int32), rc p1 p2 p3 p4 m = some t → Fr l_X0_run m ((fun t => t.2) t))  {s : Int32 × Int32 × Int32 × Int32 × Int32 × Mem} {t : (Int32 × Int32 × Int32 × Int32 × Int32 × Mem) ⊕ (Int32 × Mem)} (h : f_X0_run_L6 rc s = some t) : Fr (l_X0_run) s.2.2.2.2.2 ((mS (fun s => s.2.2.2.2.2) (fun t => t.2)) t) := by
  have hF : Fr (l_X0_run) s.2.2.2.2.2 s.2.2.2.2.2 := Fr.rf
  rcases fr_if h with h | h
  · refine fr_up h (fun r h => ?_)
    exact hF.trans (fr_X0_run_J45 hrf h)
  · rcases fr_if h with h | h
    · refine fr_up h (fun r h => ?_)
      exact hF.trans (fr_X0_run_J45 hrf h)
    · have h := (ck_s h).2
      rcases fr_if h with h | h
      · refine fr_up h (fun r h => ?_)
        exact hF.trans (fr_X0_run_J45 hrf h)
      · have h := (ck_s h).2
        obtain ⟨y19, h⟩ := fr_bn h
        obtain ⟨y20, h⟩ := fr_bn h
        obtain rfl := Option.some.inj h
        exact hF
theorem fr_X0_run_B {rc : Int32 → Int32 → Int32 → Int32 → Mem → Option (Int32 × Mem)} (hrf : ∀ (m : Mem) (t : Int32 × Mem) (p1 : Int32) (p2 : Int32) (p3 : Int32) (p4 : Int32), rc p1 p2 p3 p4 m = some t → Fr l_X0_run m ((fun t => t.2) t))  {p1 : Int32} {p2 : Int32} {p3 : Int32} {p4 : Int32} {m : Mem} {t : Int32 × Mem} (h : f_X0_run_B rc p1 p2 p3 p4 m = some t) : Fr (l_X0_run) m ((fun t => t.2) t) := by
  have hF : Fr (l_X0_run) m m := Fr.rf
  have hW := fr_wh (l := l_X0_run) (f := fun s => s.2.2.2.2.2) (k := (fun t => t.2)) (fun s t h => fr_X0_run_L6 hrf h) h
  exact hF.trans hW
theorem fr_X0_run (n : Nat) : ∀ {p1 : Int32} {p2 : Int32} {p3 : Int32} {p4 : Int32} {m : Mem} {t : Int32 × Mem}, f_X0_run n p1 p2 p3 p4 m = some t → Fr (l_X0_run) m ((fun t => t.2) t) := by
  induction n with
  | zero => intro p1 p2 p3 p4 m t h; cases h
  | succ n ih => intro p1 p2 p3 p4 m t h; exact fr_X0_run_B (fun _ _ _ _ _ _ h => ih h) h
theorem fr_X0_begin  {p1 : Int32} {p2 : Int32} {p3 : Int32} {m : Mem} {t : Int32 × Mem} (h : f_X0_begin p1 p2 p3 m = some t) : Fr (l_X0_begin) m ((fun t => t.2) t) := by
  have hF : Fr (l_X0_begin) m m := Fr.rf
  obtain ⟨m1, hF, h⟩ := fr_stI (fr_at 2 rfl) hF h
  obtain ⟨q2, h0, h⟩ := Option.bind_eq_some_iff.mp h
  have hF := hF.trans ((fr_X0_kindOf h0).sub (fun _ hq => nomatch hq))
  obtain ⟨m3, hF, h⟩ := fr_stI (fr_at 3 rfl) hF h
  obtain ⟨q4, h0, h⟩ := Option.bind_eq_some_iff.mp h
  have hF := hF.trans ((fr_X0_run _ h0).sub (fr_ix [0, 1] rfl))
  obtain rfl := Option.some.inj h
  exact hF
theorem fr_X0_isUnder_L4  {s : Int32 × Int32 × Int32 × Mem} {t : (Int32 × Int32 × Int32 × Mem) ⊕ (Int32 × Mem)} (h : f_X0_isUnder_L4 s = some t) : Fr (l_X0_isUnder) s.2.2.2 ((mS (fun s => s.2.2.2) (fun t => t.2)) t) := by
  have hF : Fr (l_X0_isUnder) s.2.2.2 s.2.2.2 := Fr.rf
  rcases fr_if h with h | h
  · refine fr_up h (fun r h => ?_)
    have h := (bz_s h).2
    obtain rfl := Option.some.inj h
    exact hF
  · rcases fr_if h with h | h
    · refine fr_up h (fun r h => ?_)
      have h := (bz_s h).2
      obtain rfl := Option.some.inj h
      exact hF
    · rcases fr_if h with h | h
      · have h := (ck_s h).2
        obtain ⟨y1, h⟩ := fr_bn h
        obtain ⟨y2, h⟩ := fr_bn h
        obtain rfl := Option.some.inj h
        exact hF
      · refine fr_up h (fun r h => ?_)
        have h := (bz_s h).2
        obtain rfl := Option.some.inj h
        exact hF
theorem fr_X0_isUnder  {p1 : Int32} {p2 : Int32} {m : Mem} {t : Int32 × Mem} (h : f_X0_isUnder p1 p2 m = some t) : Fr (l_X0_isUnder) m ((fun t => t.2) t) := by
  have hF : Fr (l_X0_isUnder) m m := Fr.rf
  have hW := fr_wh (l := l_X0_isUnder) (f := fun s => s.2.2.2) (k := (fun t => t.2)) (fun s t h => fr_X0_isUnder_L4 h) h
  exact hF.trans hW
theorem fr_X1_dropOldest   {m : Mem} {t : Mem} (h : f_X1_dropOldest m = some t) : Fr (l_X1_dropOldest) m ((fun t => t) t) := by
  have hF : Fr (l_X1_dropOldest) m m := Fr.rf
  have h := (cpk_s h).2
  obtain ⟨m1, hF, h⟩ := fr_cpI (List.mem_of_getElem? (i := 0) rfl) hF h
  have h := (cpk_s h).2
  obtain ⟨m2, hF, h⟩ := fr_cpI (List.mem_of_getElem? (i := 1) rfl) hF h
  have h := (cpk_s h).2
  obtain ⟨m3, hF, h⟩ := fr_cpI (List.mem_of_getElem? (i := 2) rfl) hF h
  have h := (cpk_s h).2
  obtain ⟨m4, hF, h⟩ := fr_cpI (List.mem_of_getElem? (i := 3) rfl) hF h
  obtain ⟨m5, hF, h⟩ := fr_stI (fr_at 4 rfl) hF h
  obtain rfl := Option.some.inj h
  exact hF
theorem fr_X1_goBack   {m : Mem} {t : Int32 × Mem} (h : f_X1_goBack m = some t) : Fr (l_X1_goBack) m ((fun t => t.2) t) := by
  have hF : Fr (l_X1_goBack) m m := Fr.rf
  rcases fr_if h with h | h
  · obtain ⟨m1, hF, h⟩ := fr_stI (fr_at 0 rfl) hF h
    have h := (bz_s h).2
    obtain rfl := Option.some.inj h
    exact hF
  · have h := (bz_s h).2
    obtain rfl := Option.some.inj h
    exact hF
theorem fr_X1_goOn   {m : Mem} {t : Int32 × Mem} (h : f_X1_goOn m = some t) : Fr (l_X1_goOn) m ((fun t => t.2) t) := by
  have hF : Fr (l_X1_goOn) m m := Fr.rf
  rcases fr_if h with h | h
  · obtain ⟨m1, hF, h⟩ := fr_stI (fr_at 0 rfl) hF h
    have h := (bz_s h).2
    obtain rfl := Option.some.inj h
    exact hF
  · have h := (bz_s h).2
    obtain rfl := Option.some.inj h
    exact hF
theorem fr_X1_note_J13  {v1 : Int32} {v2 : Int32} {v3 : Int32} {v4 : Int32}  {m : Mem} {t : Mem} (h : f_X1_note_J13 v1 v2 v3 v4 m = some t) : Fr (l_X1_note) m ((fun t => t) t) := by
  have hF : Fr (l_X1_note) m m := Fr.rf
  have h := (ck_s h).2
  obtain ⟨m1, hF, h⟩ := fr_stI (fr_at 0 rfl) hF h
  have h := (ck_s h).2
  obtain ⟨m2, hF, h⟩ := fr_stI (fr_at 1 rfl) hF h
  have h := (ck_s h).2
  obtain ⟨m3, hF, h⟩ := fr_stI (fr_at 2 rfl) hF h
  have h := (ck_s h).2
  obtain ⟨m4, hF, h⟩ := fr_stI (fr_at 3 rfl) hF h
  obtain ⟨m5, hF, h⟩ := fr_stI (fr_at 4 rfl) hF h
  obtain ⟨m6, hF, h⟩ := fr_stI (fr_at 5 rfl) hF h
  obtain rfl := Option.some.inj h
  exact hF
theorem fr_X1_note  {p1 : Int32} {p2 : Int32} {p3 : Int32} {p4 : Int32} {m : Mem} {t : Mem} (h : f_X1_note p1 p2 p3 p4 m = some t) : Fr (l_X1_note) m ((fun t => t) t) := by
  have hF : Fr (l_X1_note) m m := Fr.rf
  rcases fr_if h with h | h
  · exact hF.trans (fr_X1_note_J13 h)
  · obtain ⟨q7, h0, h⟩ := Option.bind_eq_some_iff.mp h
    have hF := hF.trans ((fr_X1_dropOldest h0).sub (fr_ix [0, 1, 2, 3, 4] rfl))
    exact hF.trans (fr_X1_note_J13 h)
theorem fr_X2_bit  {p1 : Int32} {m : Mem} {t : Int32 × Mem} (h : f_X2_bit p1 m = some t) : Fr (l_X2_bit) m ((fun t => t.2) t) := by
  have hF : Fr (l_X2_bit) m m := Fr.rf
  rcases fr_if h with h | h
  · obtain rfl := Option.some.inj h
    exact hF
  · obtain rfl := Option.some.inj h
    exact hF
theorem fr_X2_emit  {p1 : Int32} {m : Mem} {t : Mem} (h : f_X2_emit p1 m = some t) : Fr (l_X2_emit) m ((fun t => t) t) := by
  have hF : Fr (l_X2_emit) m m := Fr.rf
  rcases fr_if h with h | h
  · obtain rfl := Option.some.inj h
    exact hF
  · have h := (ck_s h).2
    obtain ⟨m1, hF, h⟩ := fr_stI (fr_cd (by simp [l_X2_emit]) (by simp [l_X2_emit])) hF h
    obtain ⟨m2, hF, h⟩ := fr_stI (fr_at 2 rfl) hF h
    obtain rfl := Option.some.inj h
    exact hF
theorem fr_X2_next   {m : Mem} {t : Int32 × Mem} (h : f_X2_next m = some t) : Fr (l_X2_next) m ((fun t => t.2) t) := by
  have hF : Fr (l_X2_next) m m := Fr.rf
  rcases fr_if h with h | h
  · obtain rfl := Option.some.inj h
    exact hF
  · rcases fr_if h with h | h
    · obtain rfl := Option.some.inj h
      exact hF
    · have h := (ck_s h).2
      obtain rfl := Option.some.inj h
      exact hF
theorem fr_X2_isDigit  {p1 : Int32} {m : Mem} {t : Int32 × Mem} (h : f_X2_isDigit p1 m = some t) : Fr (l_X2_isDigit) m ((fun t => t.2) t) := by
  have hF : Fr (l_X2_isDigit) m m := Fr.rf
  rcases fr_if h with h | h
  · have h := (bz_s h).2
    obtain rfl := Option.some.inj h
    exact hF
  · rcases fr_if h with h | h
    · have h := (bz_s h).2
      obtain rfl := Option.some.inj h
      exact hF
    · have h := (bz_s h).2
      obtain rfl := Option.some.inj h
      exact hF
theorem fr_X2_readNumber_L4  {s : Int32 × Int32 × Mem} {t : (Int32 × Int32 × Mem) ⊕ Mem} (h : f_X2_readNumber_L4 s = some t) : Fr (l_X2_readNumber) s.2.2 ((mS (fun s => s.2.2) (fun t => t)) t) := by
  have hF : Fr (l_X2_readNumber) s.2.2 s.2.2 := Fr.rf
  rcases fr_if h with h | h
  · refine fr_up h (fun r h => ?_)
    obtain ⟨q1, h0, h⟩ := Option.bind_eq_some_iff.mp h
    have hF := hF.trans ((fr_X2_emit h0).sub (fr_ix [0, 1, 2] rfl))
    obtain rfl := Option.some.inj h
    exact hF
  · obtain ⟨q2, h0, h⟩ := Option.bind_eq_some_iff.mp h
    have hF := hF.trans ((fr_X2_next h0).sub (fun _ hq => nomatch hq))
    obtain ⟨q3, h0, h⟩ := Option.bind_eq_some_iff.mp h
    have hF := hF.trans ((fr_X2_isDigit h0).sub (fun _ hq => nomatch hq))
    rcases fr_if h with h | h
    · refine fr_up h (fun r h => ?_)
      obtain ⟨q4, h0, h⟩ := Option.bind_eq_some_iff.mp h
      have hF := hF.trans ((fr_X2_emit h0).sub (fr_ix [0, 1, 2] rfl))
      obtain rfl := Option.some.inj h
      exact hF
    · obtain ⟨q5, h0, h⟩ := Option.bind_eq_some_iff.mp h
      have hF := hF.trans ((fr_X2_next h0).sub (fun _ hq => nomatch hq))
      obtain ⟨y6, h⟩ := fr_bn h
      obtain ⟨m7, hF, h⟩ := fr_stI (fr_at 3 rfl) hF h
      obtain ⟨y8, h⟩ := fr_bn h
      obtain rfl := Option.some.inj h
      exact hF
theorem fr_X2_readNumber   {m : Mem} {t : Mem} (h : f_X2_readNumber m = some t) : Fr (l_X2_readNumber) m ((fun t => t) t) := by
  have hF : Fr (l_X2_readNumber) m m := Fr.rf
  have hW := fr_wh (l := l_X2_readNumber) (f := fun s => s.2.2) (k := (fun t => t)) (fun s t h => fr_X2_readNumber_L4 h) h
  exact hF.trans hW
theorem fr_X2_refuse   {m : Mem} {t : Mem} (h : f_X2_refuse m = some t) : Fr (l_X2_refuse) m ((fun t => t) t) := by
  have hF : Fr (l_X2_refuse) m m := Fr.rf
  rcases fr_if h with h | h
  · obtain rfl := Option.some.inj h
    exact hF
  · obtain ⟨m1, hF, h⟩ := fr_stI (fr_at 0 rfl) hF h
    obtain rfl := Option.some.inj h
    exact hF
theorem fr_X2_readOperand_J85 {rc : Int32 → Int32 → Mem → Option Mem} (hrf : ∀ (m : Mem) (t : Mem) (p1 : Int32) (p2 : Int32), rc p1 p2 m = some t → Fr l_X2_readOpened m ((fun t => t) t))  {v1 : Int32} {v2 : Int32}  {m : Mem} {t : Mem} (h : f_X2_readOperand_J85 rc v1 v2 m = some t) : Fr (l_X2_readOperand) m ((fun t => t) t) := by
  have hF : Fr (l_X2_readOperand) m m := Fr.rf
  obtain ⟨m4, hF, h⟩ := fr_stI (fr_at 3 rfl) hF h
  obtain ⟨q5, h0, h⟩ := Option.bind_eq_some_iff.mp h
  have hF := hF.trans ((hrf _ _ _ _ h0).sub (fr_ix [0, 1, 2, 3, 4] rfl))
  obtain rfl := Option.some.inj h
  exact hF
theorem fr_X2_readOperand_J20 {rc : Int32 → Int32 → Mem → Option Mem} (hrf : ∀ (m : Mem) (t : Mem) (p1 : Int32) (p2 : Int32), rc p1 p2 m = some t → Fr l_X2_readOpened m ((fun t => t) t))  {v1 : Int32} {v2 : Int32} {t0 : Int32}  {m : Mem} {t : Mem} (h : f_X2_readOperand_J20 rc v1 v2 t0 m = some t) : Fr (l_X2_readOperand) m ((fun t => t) t) := by
  have hF : Fr (l_X2_readOperand) m m := Fr.rf
  obtain ⟨q2, h0, h⟩ := Option.bind_eq_some_iff.mp h
  have hF := hF.trans ((fr_X2_isDigit h0).sub (fun _ hq => nomatch hq))
  rcases fr_if h with h | h
  · rcases fr_if h with h | h
    · rcases fr_if h with h | h
      · obtain ⟨q3, h0, h⟩ := Option.bind_eq_some_iff.mp h
        have hF := hF.trans ((fr_X2_refuse h0).sub (fr_ix [4] rfl))
        obtain rfl := Option.some.inj h
        exact hF
      · rcases fr_if h with h | h
        · exact hF.trans (fr_X2_readOperand_J85 hrf h)
        · rcases fr_if h with h | h
          · exact hF.trans (fr_X2_readOperand_J85 hrf h)
          · rcases fr_if h with h | h
            · obtain ⟨q6, h0, h⟩ := Option.bind_eq_some_iff.mp h
              have hF := hF.trans ((fr_X2_refuse h0).sub (fr_ix [4] rfl))
              obtain rfl := Option.some.inj h
              exact hF
            · exact hF.trans (fr_X2_readOperand_J85 hrf h)
    · obtain ⟨m7, hF, h⟩ := fr_stI (fr_at 3 rfl) hF h
      obtain ⟨q8, h0, h⟩ := Option.bind_eq_some_iff.mp h
      have hF := hF.trans ((fr_X2_emit h0).sub (fr_ix [0, 1, 2] rfl))
      obtain rfl := Option.some.inj h
      exact hF
  · obtain ⟨q9, h0, h⟩ := Option.bind_eq_some_iff.mp h
    have hF := hF.trans ((fr_X2_readNumber h0).sub (fr_ix [0, 1, 2, 3] rfl))
    obtain rfl := Option.some.inj h
    exact hF
theorem fr_X2_readOperand {rc : Int32 → Int32 → Mem → Option Mem} (hrf : ∀ (m : Mem) (t : Mem) (p1 : Int32) (p2 : Int32), rc p1 p2 m = some t → Fr l_X2_readOpened m ((fun t => t) t))  {p1 : Int32} {m : Mem} {t : Mem} (h : f_X2_readOperand rc p1 m = some t) : Fr (l_X2_readOperand) m ((fun t => t) t) := by
  have hF : Fr (l_X2_readOperand) m m := Fr.rf
  obtain ⟨q1, h0, h⟩ := Option.bind_eq_some_iff.mp h
  have hF := hF.trans ((fr_X2_next h0).sub (fun _ hq => nomatch hq))
  rcases fr_if h with h | h
  · exact hF.trans (fr_X2_readOperand_J20 hrf h)
  · exact hF.trans (fr_X2_readOperand_J20 hrf h)
theorem fr_X2_readProduct_J47 {rc : Int32 → Int32 → Mem → Option Mem} (hrf : ∀ (m : Mem) (t : Mem) (p1 : Int32) (p2 : Int32), rc p1 p2 m = some t → Fr l_X2_readOpened m ((fun t => t) t))  {v1 : Int32} {v2 : Int32}  {m : Mem} {t : (Int32 × Int32 × Mem) ⊕ Mem} (h : f_X2_readProduct_J47 rc v1 v2 m = some t) : Fr (l_X2_readProduct) m ((mS (fun s => s.2.2) (fun t => t)) t) := by
  have hF : Fr (l_X2_readProduct) m m := Fr.rf
  obtain ⟨q3, h0, h⟩ := Option.bind_eq_some_iff.mp h
  have hF := hF.trans ((fr_X2_next h0).sub (fun _ hq => nomatch hq))
  obtain ⟨m4, hF, h⟩ := fr_stI (fr_at 3 rfl) hF h
  obtain ⟨q5, h0, h⟩ := Option.bind_eq_some_iff.mp h
  have hF := hF.trans ((fr_X2_readOperand hrf h0).sub (fr_ix [0, 1, 2, 3, 4] rfl))
  obtain ⟨q6, h0, h⟩ := Option.bind_eq_some_iff.mp h
  have hF := hF.trans ((fr_X2_emit h0).sub (fr_ix [0, 1, 2] rfl))
  obtain ⟨y7, h⟩ := fr_bn h
  obtain rfl := Option.some.inj h
  exact hF
theorem fr_X2_readProduct_L7 {rc : Int32 → Int32 → Mem → Option Mem} (hrf : ∀ (m : Mem) (t : Mem) (p1 : Int32) (p2 : Int32), rc p1 p2 m = some t → Fr l_X2_readOpened m ((fun t => t) t))  {s : Int32 × Int32 × Mem} {t : (Int32 × Int32 × Mem) ⊕ Mem} (h : f_X2_readProduct_L7 rc s = some t) : Fr (l_X2_readProduct) s.2.2 ((mS (fun s => s.2.2) (fun t => t)) t) := by
  have hF : Fr (l_X2_readProduct) s.2.2 s.2.2 := Fr.rf
  rcases fr_if h with h | h
  · refine fr_up h (fun r h => ?_)
    obtain rfl := Option.some.inj h
    exact hF
  · rcases fr_if h with h | h
    · refine fr_up h (fun r h => ?_)
      obtain rfl := Option.some.inj h
      exact hF
    · obtain ⟨q2, h0, h⟩ := Option.bind_eq_some_iff.mp h
      have hF := hF.trans ((fr_X2_next h0).sub (fun _ hq => nomatch hq))
      rcases fr_if h with h | h
      · exact hF.trans (fr_X2_readProduct_J47 hrf h)
      · obtain ⟨q8, h0, h⟩ := Option.bind_eq_some_iff.mp h
        have hF := hF.trans ((fr_X2_next h0).sub (fun _ hq => nomatch hq))
        rcases fr_if h with h | h
        · exact hF.trans (fr_X2_readProduct_J47 hrf h)
        · obtain ⟨q9, h0, h⟩ := Option.bind_eq_some_iff.mp h
          have hF := hF.trans ((fr_X2_next h0).sub (fun _ hq => nomatch hq))
          rcases fr_if h with h | h
          · refine fr_up h (fun r h => ?_)
            obtain rfl := Option.some.inj h
            exact hF
          · exact hF.trans (fr_X2_readProduct_J47 hrf h)
theorem fr_X2_readProduct {rc : Int32 → Int32 → Mem → Option Mem} (hrf : ∀ (m : Mem) (t : Mem) (p1 : Int32) (p2 : Int32), rc p1 p2 m = some t → Fr l_X2_readOpened m ((fun t => t) t))  {p1 : Int32} {m : Mem} {t : Mem} (h : f_X2_readProduct rc p1 m = some t) : Fr (l_X2_readProduct) m ((fun t => t) t) := by
  have hF : Fr (l_X2_readProduct) m m := Fr.rf
  obtain ⟨q1, h0, h⟩ := Option.bind_eq_some_iff.mp h
  have hF := hF.trans ((fr_X2_readOperand hrf h0).sub (fr_ix [0, 1, 2, 3, 4] rfl))
  have hW := fr_wh (l := l_X2_readProduct) (f := fun s => s.2.2) (k := (fun t => t)) (fun s t h => fr_X2_readProduct_L7 hrf h) h
  exact hF.trans hW
theorem fr_X2_readSum_J38 {rc : Int32 → Int32 → Mem → Option Mem} (hrf : ∀ (m : Mem) (t : Mem) (p1 : Int32) (p2 : Int32), rc p1 p2 m = some t → Fr l_X2_readOpened m ((fun t => t) t))  {v1 : Int32} {v2 : Int32}  {m : Mem} {t : (Int32 × Int32 × Mem) ⊕ Mem} (h : f_X2_readSum_J38 rc v1 v2 m = some t) : Fr (l_X2_readSum) m ((mS (fun s => s.2.2) (fun t => t)) t) := by
  have hF : Fr (l_X2_readSum) m m := Fr.rf
  obtain ⟨q3, h0, h⟩ := Option.bind_eq_some_iff.mp h
  have hF := hF.trans ((fr_X2_next h0).sub (fun _ hq => nomatch hq))
  obtain ⟨m4, hF, h⟩ := fr_stI (fr_at 3 rfl) hF h
  obtain ⟨q5, h0, h⟩ := Option.bind_eq_some_iff.mp h
  have hF := hF.trans ((fr_X2_readProduct hrf h0).sub (fr_ix [0, 1, 2, 3, 4] rfl))
  obtain ⟨q6, h0, h⟩ := Option.bind_eq_some_iff.mp h
  have hF := hF.trans ((fr_X2_emit h0).sub (fr_ix [0, 1, 2] rfl))
  obtain ⟨y7, h⟩ := fr_bn h
  obtain rfl := Option.some.inj h
  exact hF
theorem fr_X2_readSum_L7 {rc : Int32 → Int32 → Mem → Option Mem} (hrf : ∀ (m : Mem) (t : Mem) (p1 : Int32) (p2 : Int32), rc p1 p2 m = some t → Fr l_X2_readOpened m ((fun t => t) t))  {s : Int32 × Int32 × Mem} {t : (Int32 × Int32 × Mem) ⊕ Mem} (h : f_X2_readSum_L7 rc s = some t) : Fr (l_X2_readSum) s.2.2 ((mS (fun s => s.2.2) (fun t => t)) t) := by
  have hF : Fr (l_X2_readSum) s.2.2 s.2.2 := Fr.rf
  rcases fr_if h with h | h
  · refine fr_up h (fun r h => ?_)
    obtain rfl := Option.some.inj h
    exact hF
  · rcases fr_if h with h | h
    · refine fr_up h (fun r h => ?_)
      obtain rfl := Option.some.inj h
      exact hF
    · obtain ⟨q2, h0, h⟩ := Option.bind_eq_some_iff.mp h
      have hF := hF.trans ((fr_X2_next h0).sub (fun _ hq => nomatch hq))
      rcases fr_if h with h | h
      · exact hF.trans (fr_X2_readSum_J38 hrf h)
      · obtain ⟨q8, h0, h⟩ := Option.bind_eq_some_iff.mp h
        have hF := hF.trans ((fr_X2_next h0).sub (fun _ hq => nomatch hq))
        rcases fr_if h with h | h
        · refine fr_up h (fun r h => ?_)
          obtain rfl := Option.some.inj h
          exact hF
        · exact hF.trans (fr_X2_readSum_J38 hrf h)
theorem fr_X2_readSum {rc : Int32 → Int32 → Mem → Option Mem} (hrf : ∀ (m : Mem) (t : Mem) (p1 : Int32) (p2 : Int32), rc p1 p2 m = some t → Fr l_X2_readOpened m ((fun t => t) t))  {p1 : Int32} {m : Mem} {t : Mem} (h : f_X2_readSum rc p1 m = some t) : Fr (l_X2_readSum) m ((fun t => t) t) := by
  have hF : Fr (l_X2_readSum) m m := Fr.rf
  obtain ⟨q1, h0, h⟩ := Option.bind_eq_some_iff.mp h
  have hF := hF.trans ((fr_X2_readProduct hrf h0).sub (fr_ix [0, 1, 2, 3, 4] rfl))
  have hW := fr_wh (l := l_X2_readSum) (f := fun s => s.2.2) (k := (fun t => t)) (fun s t h => fr_X2_readSum_L7 hrf h) h
  exact hF.trans hW
theorem fr_X2_readCompared_J35 {rc : Int32 → Int32 → Mem → Option Mem} (hrf : ∀ (m : Mem) (t : Mem) (p1 : Int32) (p2 : Int32), rc p1 p2 m = some t → Fr l_X2_readOpened m ((fun t => t) t))  {v1 : Int32} {v2 : Int32}  {m : Mem} {t : Mem} (h : f_X2_readCompared_J35 rc v1 v2 m = some t) : Fr (l_X2_readCompared) m ((fun t => t) t) := by
  have hF : Fr (l_X2_readCompared) m m := Fr.rf
  obtain ⟨m3, hF, h⟩ := fr_stI (fr_at 3 rfl) hF h
  obtain ⟨q4, h0, h⟩ := Option.bind_eq_some_iff.mp h
  have hF := hF.trans ((fr_X2_readSum hrf h0).sub (fr_ix [0, 1, 2, 3, 4] rfl))
  obtain ⟨q5, h0, h⟩ := Option.bind_eq_some_iff.mp h
  have hF := hF.trans ((fr_X2_emit h0).sub (fr_ix [0, 1, 2] rfl))
  obtain rfl := Option.some.inj h
  exact hF
theorem fr_X2_readCompared {rc : Int32 → Int32 → Mem → Option Mem} (hrf : ∀ (m : Mem) (t : Mem) (p1 : Int32) (p2 : Int32), rc p1 p2 m = some t → Fr l_X2_readOpened m ((fun t => t) t))  {p1 : Int32} {m : Mem} {t : Mem} (h : f_X2_readCompared rc p1 m = some t) : Fr (l_X2_readCompared) m ((fun t => t) t) := by
  have hF : Fr (l_X2_readCompared) m m := Fr.rf
  obtain ⟨q1, h0, h⟩ := Option.bind_eq_some_iff.mp h
  have hF := hF.trans ((fr_X2_readSum hrf h0).sub (fr_ix [0, 1, 2, 3, 4] rfl))
  obtain ⟨q2, h0, h⟩ := Option.bind_eq_some_iff.mp h
  have hF := hF.trans ((fr_X2_next h0).sub (fun _ hq => nomatch hq))
  rcases fr_if h with h | h
  · obtain rfl := Option.some.inj h
    exact hF
  · rcases fr_if h with h | h
    · exact hF.trans (fr_X2_readCompared_J35 hrf h)
    · rcases fr_if h with h | h
      · exact hF.trans (fr_X2_readCompared_J35 hrf h)
      · rcases fr_if h with h | h
        · obtain rfl := Option.some.inj h
          exact hF
        · exact hF.trans (fr_X2_readCompared_J35 hrf h)
theorem fr_X2_readBoth_L7 {rc : Int32 → Int32 → Mem → Option Mem} (hrf : ∀ (m : Mem) (t : Mem) (p1 : Int32) (p2 : Int32), rc p1 p2 m = some t → Fr l_X2_readOpened m ((fun t => t) t))  {s : Int32 × Int32 × Mem} {t : (Int32 × Int32 × Mem) ⊕ Mem} (h : f_X2_readBoth_L7 rc s = some t) : Fr (l_X2_readBoth) s.2.2 ((mS (fun s => s.2.2) (fun t => t)) t) := by
  have hF : Fr (l_X2_readBoth) s.2.2 s.2.2 := Fr.rf
  rcases fr_if h with h | h
  · refine fr_up h (fun r h => ?_)
    obtain rfl := Option.some.inj h
    exact hF
  · rcases fr_if h with h | h
    · refine fr_up h (fun r h => ?_)
      obtain rfl := Option.some.inj h
      exact hF
    · obtain ⟨q2, h0, h⟩ := Option.bind_eq_some_iff.mp h
      have hF := hF.trans ((fr_X2_next h0).sub (fun _ hq => nomatch hq))
      rcases fr_if h with h | h
      · refine fr_up h (fun r h => ?_)
        obtain rfl := Option.some.inj h
        exact hF
      · obtain ⟨m3, hF, h⟩ := fr_stI (fr_at 3 rfl) hF h
        obtain ⟨q4, h0, h⟩ := Option.bind_eq_some_iff.mp h
        have hF := hF.trans ((fr_X2_readCompared hrf h0).sub (fr_ix [0, 1, 2, 3, 4] rfl))
        obtain ⟨q5, h0, h⟩ := Option.bind_eq_some_iff.mp h
        have hF := hF.trans ((fr_X2_emit h0).sub (fr_ix [0, 1, 2] rfl))
        obtain ⟨y6, h⟩ := fr_bn h
        obtain rfl := Option.some.inj h
        exact hF
theorem fr_X2_readBoth {rc : Int32 → Int32 → Mem → Option Mem} (hrf : ∀ (m : Mem) (t : Mem) (p1 : Int32) (p2 : Int32), rc p1 p2 m = some t → Fr l_X2_readOpened m ((fun t => t) t))  {p1 : Int32} {m : Mem} {t : Mem} (h : f_X2_readBoth rc p1 m = some t) : Fr (l_X2_readBoth) m ((fun t => t) t) := by
  have hF : Fr (l_X2_readBoth) m m := Fr.rf
  obtain ⟨q1, h0, h⟩ := Option.bind_eq_some_iff.mp h
  have hF := hF.trans ((fr_X2_readCompared hrf h0).sub (fr_ix [0, 1, 2, 3, 4] rfl))
  have hW := fr_wh (l := l_X2_readBoth) (f := fun s => s.2.2) (k := (fun t => t)) (fun s t h => fr_X2_readBoth_L7 hrf h) h
  exact hF.trans hW
theorem fr_X2_readEither_L7 {rc : Int32 → Int32 → Mem → Option Mem} (hrf : ∀ (m : Mem) (t : Mem) (p1 : Int32) (p2 : Int32), rc p1 p2 m = some t → Fr l_X2_readOpened m ((fun t => t) t))  {s : Int32 × Int32 × Mem} {t : (Int32 × Int32 × Mem) ⊕ Mem} (h : f_X2_readEither_L7 rc s = some t) : Fr (l_X2_readEither) s.2.2 ((mS (fun s => s.2.2) (fun t => t)) t) := by
  have hF : Fr (l_X2_readEither) s.2.2 s.2.2 := Fr.rf
  rcases fr_if h with h | h
  · refine fr_up h (fun r h => ?_)
    obtain rfl := Option.some.inj h
    exact hF
  · rcases fr_if h with h | h
    · refine fr_up h (fun r h => ?_)
      obtain rfl := Option.some.inj h
      exact hF
    · obtain ⟨q2, h0, h⟩ := Option.bind_eq_some_iff.mp h
      have hF := hF.trans ((fr_X2_next h0).sub (fun _ hq => nomatch hq))
      rcases fr_if h with h | h
      · refine fr_up h (fun r h => ?_)
        obtain rfl := Option.some.inj h
        exact hF
      · obtain ⟨m3, hF, h⟩ := fr_stI (fr_at 3 rfl) hF h
        obtain ⟨q4, h0, h⟩ := Option.bind_eq_some_iff.mp h
        have hF := hF.trans ((fr_X2_readBoth hrf h0).sub (fr_ix [0, 1, 2, 3, 4] rfl))
        obtain ⟨q5, h0, h⟩ := Option.bind_eq_some_iff.mp h
        have hF := hF.trans ((fr_X2_emit h0).sub (fr_ix [0, 1, 2] rfl))
        obtain ⟨y6, h⟩ := fr_bn h
        obtain rfl := Option.some.inj h
        exact hF
theorem fr_X2_readEither {rc : Int32 → Int32 → Mem → Option Mem} (hrf : ∀ (m : Mem) (t : Mem) (p1 : Int32) (p2 : Int32), rc p1 p2 m = some t → Fr l_X2_readOpened m ((fun t => t) t))  {p1 : Int32} {m : Mem} {t : Mem} (h : f_X2_readEither rc p1 m = some t) : Fr (l_X2_readEither) m ((fun t => t) t) := by
  have hF : Fr (l_X2_readEither) m m := Fr.rf
  obtain ⟨q1, h0, h⟩ := Option.bind_eq_some_iff.mp h
  have hF := hF.trans ((fr_X2_readBoth hrf h0).sub (fr_ix [0, 1, 2, 3, 4] rfl))
  have hW := fr_wh (l := l_X2_readEither) (f := fun s => s.2.2) (k := (fun t => t)) (fun s t h => fr_X2_readEither_L7 hrf h) h
  exact hF.trans hW
theorem fr_X2_readOpened_B {rc : Int32 → Int32 → Mem → Option Mem} (hrf : ∀ (m : Mem) (t : Mem) (p1 : Int32) (p2 : Int32), rc p1 p2 m = some t → Fr l_X2_readOpened m ((fun t => t) t))  {p1 : Int32} {p2 : Int32} {m : Mem} {t : Mem} (h : f_X2_readOpened_B rc p1 p2 m = some t) : Fr (l_X2_readOpened) m ((fun t => t) t) := by
  have hF : Fr (l_X2_readOpened) m m := Fr.rf
  rcases fr_if h with h | h
  · obtain ⟨q1, h0, h⟩ := Option.bind_eq_some_iff.mp h
    have hF := hF.trans ((fr_X2_readEither hrf h0).sub (fr_ix [0, 1, 2, 3, 4] rfl))
    obtain ⟨q2, h0, h⟩ := Option.bind_eq_some_iff.mp h
    have hF := hF.trans ((fr_X2_next h0).sub (fun _ hq => nomatch hq))
    rcases fr_if h with h | h
    · obtain ⟨m3, hF, h⟩ := fr_stI (fr_at 3 rfl) hF h
      obtain rfl := Option.some.inj h
      exact hF
    · obtain ⟨q4, h0, h⟩ := Option.bind_eq_some_iff.mp h
      have hF := hF.trans ((fr_X2_refuse h0).sub (fr_ix [4] rfl))
      obtain ⟨m5, hF, h⟩ := fr_stI (fr_at 3 rfl) hF h
      obtain rfl := Option.some.inj h
      exact hF
  · obtain ⟨q6, h0, h⟩ := Option.bind_eq_some_iff.mp h
    have hF := hF.trans ((fr_X2_readOperand hrf h0).sub (fr_ix [0, 1, 2, 3, 4] rfl))
    rcases fr_if h with h | h
    · obtain ⟨q7, h0, h⟩ := Option.bind_eq_some_iff.mp h
      have hF := hF.trans ((fr_X2_emit h0).sub (fr_ix [0, 1, 2] rfl))
      obtain rfl := Option.some.inj h
      exact hF
    · obtain ⟨q8, h0, h⟩ := Option.bind_eq_some_iff.mp h
      have hF := hF.trans ((fr_X2_emit h0).sub (fr_ix [0, 1, 2] rfl))
      obtain rfl := Option.some.inj h
      exact hF
theorem fr_X2_readOpened (n : Nat) : ∀ {p1 : Int32} {p2 : Int32} {m : Mem} {t : Mem}, f_X2_readOpened n p1 p2 m = some t → Fr (l_X2_readOpened) m ((fun t => t) t) := by
  induction n with
  | zero => intro p1 p2 m t h; cases h
  | succ n ih => intro p1 p2 m t h; exact fr_X2_readOpened_B (fun _ _ _ _ h => ih h) h
theorem fr_X2_readLine   {m : Mem} {t : Mem} (h : f_X2_readLine m = some t) : Fr (l_X2_readLine) m ((fun t => t) t) := by
  have hF : Fr (l_X2_readLine) m m := Fr.rf
  obtain ⟨q1, h0, h⟩ := Option.bind_eq_some_iff.mp h
  have hF := hF.trans ((fr_X2_readEither (fun _ _ _ _ h => fr_X2_readOpened _ h) h0).sub (fr_ix [0, 1, 2, 3, 4] rfl))
  rcases fr_if h with h | h
  · obtain ⟨q2, h0, h⟩ := Option.bind_eq_some_iff.mp h
    have hF := hF.trans ((fr_X2_emit h0).sub (fr_ix [0, 1, 2] rfl))
    obtain rfl := Option.some.inj h
    exact hF
  · obtain ⟨q3, h0, h⟩ := Option.bind_eq_some_iff.mp h
    have hF := hF.trans ((fr_X2_next h0).sub (fun _ hq => nomatch hq))
    rcases fr_if h with h | h
    · obtain ⟨q4, h0, h⟩ := Option.bind_eq_some_iff.mp h
      have hF := hF.trans ((fr_X2_emit h0).sub (fr_ix [0, 1, 2] rfl))
      obtain rfl := Option.some.inj h
      exact hF
    · obtain ⟨m5, hF, h⟩ := fr_stI (fr_at 3 rfl) hF h
      obtain ⟨q6, h0, h⟩ := Option.bind_eq_some_iff.mp h
      have hF := hF.trans ((fr_X2_emit h0).sub (fr_ix [0, 1, 2] rfl))
      obtain ⟨q7, h0, h⟩ := Option.bind_eq_some_iff.mp h
      have hF := hF.trans ((fr_X2_readEither (fun _ _ _ _ h => fr_X2_readOpened _ h) h0).sub (fr_ix [0, 1, 2, 3, 4] rfl))
      obtain ⟨q8, h0, h⟩ := Option.bind_eq_some_iff.mp h
      have hF := hF.trans ((fr_X2_emit h0).sub (fr_ix [0, 1, 2] rfl))
      obtain rfl := Option.some.inj h
      exact hF
theorem fr_X2_enact_J78    {m : Mem} {t : Int32 × Mem} (h : f_X2_enact_J78 m = some t) : Fr (l_X2_enact) m ((fun t => t.2) t) := by
  have hF : Fr (l_X2_enact) m m := Fr.rf
  obtain ⟨m5, hF, h⟩ := fr_stI (fr_at 3 rfl) hF h
  rcases fr_if h with h | h
  · obtain rfl := Option.some.inj h
    exact hF
  · obtain ⟨m6, hF, h⟩ := fr_sB (fr_at 2 rfl) hF h
    obtain ⟨m7, hF, h⟩ := fr_stI (fr_at 4 rfl) hF h
    obtain rfl := Option.some.inj h
    exact hF
theorem fr_X2_enact_J63    {m : Mem} {t : Int32 × Mem} (h : f_X2_enact_J63 m = some t) : Fr (l_X2_enact) m ((fun t => t.2) t) := by
  have hF : Fr (l_X2_enact) m m := Fr.rf
  rcases fr_if h with h | h
  · exact hF.trans (fr_X2_enact_J78 h)
  · obtain ⟨q8, h0, h⟩ := Option.bind_eq_some_iff.mp h
    have hF := hF.trans ((fr_X2_refuse h0).sub (fr_ix [7] rfl))
    exact hF.trans (fr_X2_enact_J78 h)
theorem fr_X2_enact_L21  {s : Int32 × Mem} {t : (Int32 × Mem) ⊕ (Int32 × Mem)} (h : f_X2_enact_L21 s = some t) : Fr (l_X2_enact) s.2 ((mS (fun s => s.2) (fun t => t.2)) t) := by
  have hF : Fr (l_X2_enact) s.2 s.2 := Fr.rf
  rcases fr_if h with h | h
  · refine fr_up h (fun r h => ?_)
    exact hF.trans (fr_X2_enact_J63 h)
  · rcases fr_if h with h | h
    · refine fr_up h (fun r h => ?_)
      exact hF.trans (fr_X2_enact_J63 h)
    · obtain ⟨q9, h0, h⟩ := Option.bind_eq_some_iff.mp h
      have hF := hF.trans ((fr_X2_next h0).sub (fun _ hq => nomatch hq))
      rcases fr_if h with h | h
      · refine fr_up h (fun r h => ?_)
        exact hF.trans (fr_X2_enact_J63 h)
      · obtain ⟨m10, hF, h⟩ := fr_stI (fr_at 6 rfl) hF h
        obtain ⟨q11, h0, h⟩ := Option.bind_eq_some_iff.mp h
        have hF := hF.trans ((fr_X2_readLine h0).sub (fr_ix [0, 1, 5, 6, 7] rfl))
        obtain ⟨y12, h⟩ := fr_bn h
        obtain rfl := Option.some.inj h
        exact hF
theorem fr_X2_enact   {m : Mem} {t : Int32 × Mem} (h : f_X2_enact m = some t) : Fr (l_X2_enact) m ((fun t => t.2) t) := by
  have hF : Fr (l_X2_enact) m m := Fr.rf
  obtain ⟨m1, hF, h⟩ := fr_stI (fr_at 6 rfl) hF h
  obtain ⟨m2, hF, h⟩ := fr_stI (fr_at 7 rfl) hF h
  obtain ⟨m3, hF, h⟩ := fr_stI (fr_at 5 rfl) hF h
  obtain ⟨q4, h0, h⟩ := Option.bind_eq_some_iff.mp h
  have hF := hF.trans ((fr_X2_readLine h0).sub (fr_ix [0, 1, 5, 6, 7] rfl))
  have hW := fr_wh (l := l_X2_enact) (f := fun s => s.2) (k := (fun t => t.2)) (fun s t h => fr_X2_enact_L21 h) h
  exact hF.trans hW
theorem fr_X2_isFull   {m : Mem} {t : Int32 × Mem} (h : f_X2_isFull m = some t) : Fr (l_X2_isFull) m ((fun t => t.2) t) := by
  have hF : Fr (l_X2_isFull) m m := Fr.rf
  rcases fr_if h with h | h
  · have h := (bz_s h).2
    obtain rfl := Option.some.inj h
    exact hF
  · have h := (bz_s h).2
    obtain rfl := Option.some.inj h
    exact hF
theorem fr_X2_joined  {p1 : Int32} {p2 : Int32} {p3 : Int32} {m : Mem} {t : Int32 × Mem} (h : f_X2_joined p1 p2 p3 m = some t) : Fr (l_X2_joined) m ((fun t => t.2) t) := by
  have hF : Fr (l_X2_joined) m m := Fr.rf
  rcases fr_sw h with h | h | h | h | h | h | h | h | h | h
  · rcases fr_if h with h | h
    · obtain rfl := Option.some.inj h
      exact hF
    · rcases fr_if h with h | h
      · obtain rfl := Option.some.inj h
        exact hF
      · obtain rfl := Option.some.inj h
        exact hF
  · obtain rfl := Option.some.inj h
    exact hF
  · obtain rfl := Option.some.inj h
    exact hF
  · obtain rfl := Option.some.inj h
    exact hF
  · rcases fr_if h with h | h
    · have h := (dv_s h).2
      obtain rfl := Option.some.inj h
      exact hF
    · obtain rfl := Option.some.inj h
      exact hF
  · rcases fr_if h with h | h
    · obtain rfl := Option.some.inj h
      exact hF
    · obtain rfl := Option.some.inj h
      exact hF
  · rcases fr_if h with h | h
    · obtain rfl := Option.some.inj h
      exact hF
    · obtain rfl := Option.some.inj h
      exact hF
  · rcases fr_if h with h | h
    · obtain rfl := Option.some.inj h
      exact hF
    · obtain rfl := Option.some.inj h
      exact hF
  · rcases fr_if h with h | h
    · obtain rfl := Option.some.inj h
      exact hF
    · rcases fr_if h with h | h
      · obtain rfl := Option.some.inj h
        exact hF
      · obtain rfl := Option.some.inj h
        exact hF
  · rcases fr_if h with h | h
    · have h := (dv_s h).2
      obtain rfl := Option.some.inj h
      exact hF
    · obtain rfl := Option.some.inj h
      exact hF
theorem fr_X2_value_J191 {ag : Nat} {v2 : Int32} {v3 : Int32} {v4 : Int32} {v5 : Int32}  {m : Mem} {t : (Int32 × Int32 × Int32 × Mem) ⊕ (Int32 × Mem)} (h : f_X2_value_J191 ag v2 v3 v4 v5 m = some t) : Fr (l_X2_value) m ((mS (fun s => s.2.2.2) (fun t => t.2)) t) := by
  have hF : Fr (l_X2_value) m m := Fr.rf
  rcases fr_if h with h | h
  · have h := (ck_s h).2
    rcases fr_if h with h | h
    · obtain ⟨q2, h0, h⟩ := Option.bind_eq_some_iff.mp h
      have hF := hF.trans ((fr_X2_bit h0).sub (fun _ hq => nomatch hq))
      have h := (ck_s h).2
      obtain ⟨m3, hF, h⟩ := fr_stI (fr_at 0 rfl) hF h
      obtain ⟨y4, h⟩ := fr_bn h
      obtain rfl := Option.some.inj h
      exact hF
    · obtain ⟨q5, h0, h⟩ := Option.bind_eq_some_iff.mp h
      have hF := hF.trans ((fr_X2_bit h0).sub (fun _ hq => nomatch hq))
      have h := (ck_s h).2
      obtain ⟨m6, hF, h⟩ := fr_stI (fr_at 0 rfl) hF h
      obtain ⟨y7, h⟩ := fr_bn h
      obtain rfl := Option.some.inj h
      exact hF
  · have h := (ck_s h).2
    have h := (ck_s h).2
    obtain ⟨m8, hF, h⟩ := fr_stI (fr_at 0 rfl) hF h
    obtain ⟨y9, h⟩ := fr_bn h
    obtain rfl := Option.some.inj h
    exact hF
theorem fr_X2_value_J122 {ag : Nat} {v2 : Int32} {v3 : Int32} {v4 : Int32} {v5 : Int32}  {m : Mem} {t : (Int32 × Int32 × Int32 × Mem) ⊕ (Int32 × Mem)} (h : f_X2_value_J122 ag v2 v3 v4 v5 m = some t) : Fr (l_X2_value) m ((mS (fun s => s.2.2.2) (fun t => t.2)) t) := by
  have hF : Fr (l_X2_value) m m := Fr.rf
  rcases fr_if h with h | h
  · rcases fr_if h with h | h
    · rcases fr_if h with h | h
      · rcases fr_if h with h | h
        · exact hF.trans (fr_X2_value_J191 h)
        · rcases fr_if h with h | h
          · rcases fr_if h with h | h
            · obtain ⟨y10, h⟩ := fr_bn h
              obtain rfl := Option.some.inj h
              exact hF
            · obtain ⟨y11, h⟩ := fr_bn h
              have h := (ck_s h).2
              have h := (ck_s h).2
              obtain ⟨q12, h0, h⟩ := Option.bind_eq_some_iff.mp h
              have hF := hF.trans ((fr_X2_joined h0).sub (fun _ hq => nomatch hq))
              have h := (ck_s h).2
              obtain ⟨m13, hF, h⟩ := fr_stI (fr_at 0 rfl) hF h
              obtain ⟨y14, h⟩ := fr_bn h
              obtain rfl := Option.some.inj h
              exact hF
          · exact hF.trans (fr_X2_value_J191 h)
      · obtain ⟨y15, h⟩ := fr_bn h
        have h := (ck_s h).2
        rcases fr_if h with h | h
        · obtain ⟨y16, h⟩ := fr_bn h
          obtain rfl := Option.some.inj h
          exact hF
        · obtain ⟨y17, h⟩ := fr_bn h
          obtain rfl := Option.some.inj h
          exact hF
    · refine fr_up h (fun r h => ?_)
      have h := (ck_s h).2
      obtain rfl := Option.some.inj h
      exact hF
  · refine fr_up h (fun r h => ?_)
    obtain rfl := Option.some.inj h
    exact hF
theorem fr_X2_value_L35 {ag : Nat} {s : Int32 × Int32 × Int32 × Mem} {t : (Int32 × Int32 × Int32 × Mem) ⊕ (Int32 × Mem)} (h : f_X2_value_L35 ag s = some t) : Fr (l_X2_value) s.2.2.2 ((mS (fun s => s.2.2.2) (fun t => t.2)) t) := by
  have hF : Fr (l_X2_value) s.2.2.2 s.2.2.2 := Fr.rf
  rcases fr_if h with h | h
  · refine fr_up h (fun r h => ?_)
    obtain rfl := Option.some.inj h
    exact hF
  · have h := (ck_s h).2
    obtain ⟨y1, h⟩ := fr_bn h
    rcases fr_if h with h | h
    · rcases fr_if h with h | h
      · exact hF.trans (fr_X2_value_J122 h)
      · rcases fr_if h with h | h
        · exact hF.trans (fr_X2_value_J122 h)
        · rcases fr_if h with h | h
          · have h := (ck_s h).2
            have h := (ck_s h).2
            obtain ⟨m18, hF, h⟩ := fr_stI (fr_at 0 rfl) hF h
            obtain ⟨y19, h⟩ := fr_bn h
            obtain ⟨y20, h⟩ := fr_bn h
            obtain rfl := Option.some.inj h
            exact hF
          · have h := (ck_s h).2
            obtain ⟨m21, hF, h⟩ := fr_stI (fr_at 0 rfl) hF h
            obtain ⟨y22, h⟩ := fr_bn h
            obtain ⟨y23, h⟩ := fr_bn h
            obtain rfl := Option.some.inj h
            exact hF
    · rcases fr_if h with h | h
      · obtain ⟨y24, h⟩ := fr_bn h
        obtain rfl := Option.some.inj h
        exact hF
      · obtain ⟨y25, h⟩ := fr_bn h
        obtain rfl := Option.some.inj h
        exact hF
theorem fr_X2_value {ag : Nat}  {m : Mem} {t : Int32 × Mem} (h : f_X2_value ag m = some t) : Fr (l_X2_value) m ((fun t => t.2) t) := by
  have hF : Fr (l_X2_value) m m := Fr.rf
  rcases fr_if h with h | h
  · have hW := fr_wh (l := l_X2_value) (f := fun s => s.2.2.2) (k := (fun t => t.2)) (fun s t h => fr_X2_value_L35 h) h
    exact hF.trans hW
  · have h := (ck_s h).2
    have h := (ck_s h).2
    have h := (ck_s h).2
    have h := (ck_s h).2
    obtain rfl := Option.some.inj h
    exact hF
theorem fr_X2_write  {p1 : Int32} {m : Mem} {t : Int32 × Mem} (h : f_X2_write p1 m = some t) : Fr (l_X2_write) m ((fun t => t.2) t) := by
  have hF : Fr (l_X2_write) m m := Fr.rf
  have h := (ck_s h).2
  obtain ⟨m1, hF, h⟩ := fr_stI (fr_at 0 rfl) hF h
  obtain ⟨m2, hF, h⟩ := fr_stI (fr_at 1 rfl) hF h
  obtain rfl := Option.some.inj h
  exact hF
theorem fr_X3_byTurns_L2 {a : Nat} {s : Int32 × Mem} {t : (Int32 × Mem) ⊕ (Int32 × Mem)} (h : f_X3_byTurns_L2 a s = some t) : Fr (l_X3_byTurns a) s.2 ((mS (fun s => s.2) (fun t => t.2)) t) := by
  have hF : Fr (l_X3_byTurns a) s.2 s.2 := Fr.rf
  rcases fr_if h with h | h
  · refine fr_up h (fun r h => ?_)
    obtain rfl := Option.some.inj h
    exact hF
  · have h := (dv_s h).2
    obtain ⟨y1, h⟩ := fr_bn h
    have h := (ck_s h).2
    rcases fr_if h with h | h
    · obtain ⟨y2, h⟩ := fr_bn h
      obtain rfl := Option.some.inj h
      exact hF
    · refine fr_up h (fun r h => ?_)
      obtain rfl := Option.some.inj h
      exact hF
theorem fr_X3_byTurns {a : Nat}  {m : Mem} {t : Int32 × Mem} (h : f_X3_byTurns a m = some t) : Fr (l_X3_byTurns a) m ((fun t => t.2) t) := by
  have hF : Fr (l_X3_byTurns a) m m := Fr.rf
  have hW := fr_wh (l := l_X3_byTurns a) (f := fun s => s.2) (k := (fun t => t.2)) (fun s t h => fr_X3_byTurns_L2 h) h
  exact hF.trans hW
theorem fr_X3_isThere {a : Nat} {p1 : Int32} {m : Mem} {t : Int32 × Mem} (h : f_X3_isThere a p1 m = some t) : Fr (l_X3_isThere a) m ((fun t => t.2) t) := by
  have hF : Fr (l_X3_isThere a) m m := Fr.rf
  rcases fr_if h with h | h
  · have h := (bz_s h).2
    obtain rfl := Option.some.inj h
    exact hF
  · have h := (ck_s h).2
    rcases fr_if h with h | h
    · have h := (bz_s h).2
      obtain rfl := Option.some.inj h
      exact hF
    · have h := (bz_s h).2
      obtain rfl := Option.some.inj h
      exact hF
theorem fr_X3_cardsThere_L4 {a : Nat} {s : Int32 × Int32 × Mem} {t : (Int32 × Int32 × Mem) ⊕ (Int32 × Mem)} (h : f_X3_cardsThere_L4 a s = some t) : Fr (l_X3_cardsThere a) s.2.2 ((mS (fun s => s.2.2) (fun t => t.2)) t) := by
  have hF : Fr (l_X3_cardsThere a) s.2.2 s.2.2 := Fr.rf
  rcases fr_if h with h | h
  · refine fr_up h (fun r h => ?_)
    obtain rfl := Option.some.inj h
    exact hF
  · obtain ⟨q1, h0, h⟩ := Option.bind_eq_some_iff.mp h
    have hF := hF.trans ((fr_X3_isThere h0).sub (fun _ hq => nomatch hq))
    rcases fr_if h with h | h
    · obtain ⟨y2, h⟩ := fr_bn h
      obtain ⟨y3, h⟩ := fr_bn h
      obtain rfl := Option.some.inj h
      exact hF
    · have h := (ck_s h).2
      obtain ⟨y4, h⟩ := fr_bn h
      obtain ⟨y5, h⟩ := fr_bn h
      obtain rfl := Option.some.inj h
      exact hF
theorem fr_X3_cardsThere {a : Nat}  {m : Mem} {t : Int32 × Mem} (h : f_X3_cardsThere a m = some t) : Fr (l_X3_cardsThere a) m ((fun t => t.2) t) := by
  have hF : Fr (l_X3_cardsThere a) m m := Fr.rf
  have hW := fr_wh (l := l_X3_cardsThere a) (f := fun s => s.2.2) (k := (fun t => t.2)) (fun s t h => fr_X3_cardsThere_L4 h) h
  exact hF.trans hW
theorem fr_X3_whoWishesMost_L4 {a : Nat} {s : Int32 × Int32 × Int32 × Mem} {t : (Int32 × Int32 × Int32 × Mem) ⊕ (Int32 × Mem)} (h : f_X3_whoWishesMost_L4 a s = some t) : Fr (l_X3_whoWishesMost a) s.2.2.2 ((mS (fun s => s.2.2.2) (fun t => t.2)) t) := by
  have hF : Fr (l_X3_whoWishesMost a) s.2.2.2 s.2.2.2 := Fr.rf
  rcases fr_if h with h | h
  · refine fr_up h (fun r h => ?_)
    obtain rfl := Option.some.inj h
    exact hF
  · have h := (ck_s h).2
    rcases fr_if h with h | h
    · obtain ⟨y1, h⟩ := fr_bn h
      obtain rfl := Option.some.inj h
      exact hF
    · have h := (ck_s h).2
      rcases fr_if h with h | h
      · obtain ⟨y2, h⟩ := fr_bn h
        obtain rfl := Option.some.inj h
        exact hF
      · rcases fr_if h with h | h
        · obtain ⟨y3, h⟩ := fr_bn h
          obtain rfl := Option.some.inj h
          exact hF
        · have h := (ck_s h).2
          have h := (ck_s h).2
          rcases fr_if h with h | h
          · obtain ⟨y4, h⟩ := fr_bn h
            obtain rfl := Option.some.inj h
            exact hF
          · obtain ⟨y5, h⟩ := fr_bn h
            obtain rfl := Option.some.inj h
            exact hF
theorem fr_X3_whoWishesMost {a : Nat} {p1 : Int32} {m : Mem} {t : Int32 × Mem} (h : f_X3_whoWishesMost a p1 m = some t) : Fr (l_X3_whoWishesMost a) m ((fun t => t.2) t) := by
  have hF : Fr (l_X3_whoWishesMost a) m m := Fr.rf
  have hW := fr_wh (l := l_X3_whoWishesMost a) (f := fun s => s.2.2.2) (k := (fun t => t.2)) (fun s t h => fr_X3_whoWishesMost_L4 h) h
  exact hF.trans hW
theorem fr_X3_chiefLast_L4 {a : Nat} {s : Int32 × Int32 × Mem} {t : (Int32 × Int32 × Mem) ⊕ (Int32 × Mem)} (h : f_X3_chiefLast_L4 a s = some t) : Fr (l_X3_chiefLast a) s.2.2 ((mS (fun s => s.2.2) (fun t => t.2)) t) := by
  have hF : Fr (l_X3_chiefLast a) s.2.2 s.2.2 := Fr.rf
  rcases fr_if h with h | h
  · refine fr_up h (fun r h => ?_)
    obtain ⟨q1, h0, h⟩ := Option.bind_eq_some_iff.mp h
    have hF := hF.trans ((fr_X3_whoWishesMost h0).sub (fun _ hq => nomatch hq))
    rcases fr_if h with h | h
    · obtain ⟨q2, h0, h⟩ := Option.bind_eq_some_iff.mp h
      have hF := hF.trans ((fr_X3_whoWishesMost h0).sub (fun _ hq => nomatch hq))
      obtain rfl := Option.some.inj h
      exact hF
    · obtain rfl := Option.some.inj h
      exact hF
  · obtain ⟨q3, h0, h⟩ := Option.bind_eq_some_iff.mp h
    have hF := hF.trans ((fr_X3_isThere h0).sub (fun _ hq => nomatch hq))
    rcases fr_if h with h | h
    · obtain ⟨y4, h⟩ := fr_bn h
      obtain rfl := Option.some.inj h
      exact hF
    · have h := (ck_s h).2
      obtain ⟨y5, h⟩ := fr_bn h
      obtain ⟨y6, h⟩ := fr_bn h
      obtain rfl := Option.some.inj h
      exact hF
theorem fr_X3_chiefLast {a : Nat}  {m : Mem} {t : Int32 × Mem} (h : f_X3_chiefLast a m = some t) : Fr (l_X3_chiefLast a) m ((fun t => t.2) t) := by
  have hF : Fr (l_X3_chiefLast a) m m := Fr.rf
  have hW := fr_wh (l := l_X3_chiefLast a) (f := fun s => s.2.2) (k := (fun t => t.2)) (fun s t h => fr_X3_chiefLast_L4 h) h
  exact hF.trans hW
theorem fr_X3_clear {a : Nat}  {m : Mem} {t : Mem} (h : f_X3_clear a m = some t) : Fr (l_X3_clear a) m ((fun t => t) t) := by
  have hF : Fr (l_X3_clear a) m m := Fr.rf
  obtain ⟨q1, h0, h⟩ := Option.bind_eq_some_iff.mp h
  have hF := hF.trans ((fr_J7_fill_53178 h0).sub (fr_ix [0] rfl))
  obtain ⟨q2, h0, h⟩ := Option.bind_eq_some_iff.mp h
  have hF := hF.trans ((fr_J7_fill_53178 h0).sub (fr_ix [1] rfl))
  obtain ⟨q3, h0, h⟩ := Option.bind_eq_some_iff.mp h
  have hF := hF.trans ((fr_J7_fill_53178 h0).sub (fr_ix [2] rfl))
  obtain ⟨q4, h0, h⟩ := Option.bind_eq_some_iff.mp h
  have hF := hF.trans ((fr_J7_fill_53178 h0).sub (fr_ix [3] rfl))
  obtain ⟨q5, h0, h⟩ := Option.bind_eq_some_iff.mp h
  have hF := hF.trans ((fr_J7_fill_53178 h0).sub (fr_ix [4] rfl))
  obtain ⟨q6, h0, h⟩ := Option.bind_eq_some_iff.mp h
  have hF := hF.trans ((fr_J7_fill_53178 h0).sub (fr_ix [5] rfl))
  obtain ⟨q7, h0, h⟩ := Option.bind_eq_some_iff.mp h
  have hF := hF.trans ((fr_J7_fill_53178 h0).sub (fr_ix [9] rfl))
  obtain ⟨q8, h0, h⟩ := Option.bind_eq_some_iff.mp h
  have hF := hF.trans ((fr_J7_fill_53178 h0).sub (fr_ix [10] rfl))
  obtain ⟨m9, hF, h⟩ := fr_stI (fr_at 6 rfl) hF h
  obtain ⟨m10, hF, h⟩ := fr_stI (fr_at 7 rfl) hF h
  obtain ⟨m11, hF, h⟩ := fr_stI (fr_at 8 rfl) hF h
  obtain ⟨m12, hF, h⟩ := fr_stI (fr_at 11 rfl) hF h
  obtain rfl := Option.some.inj h
  exact hF
theorem fr_X3_minutesThere {a : Nat} {p1 : Int32} {m : Mem} {t : Int32 × Mem} (h : f_X3_minutesThere a p1 m = some t) : Fr (l_X3_minutesThere a) m ((fun t => t.2) t) := by
  have hF : Fr (l_X3_minutesThere a) m m := Fr.rf
  rcases fr_if h with h | h
  · have h := (ck_s h).2
    obtain rfl := Option.some.inj h
    exact hF
  · obtain rfl := Option.some.inj h
    exact hF
theorem fr_X3_cost_L4 {a : Nat} {s : Int32 × Int32 × Mem} {t : (Int32 × Int32 × Mem) ⊕ (Int32 × Mem)} (h : f_X3_cost_L4 a s = some t) : Fr (l_X3_cost a) s.2.2 ((mS (fun s => s.2.2) (fun t => t.2)) t) := by
  have hF : Fr (l_X3_cost a) s.2.2 s.2.2 := Fr.rf
  rcases fr_if h with h | h
  · refine fr_up h (fun r h => ?_)
    obtain rfl := Option.some.inj h
    exact hF
  · have h := (ck_s h).2
    obtain ⟨q1, h0, h⟩ := Option.bind_eq_some_iff.mp h
    have hF := hF.trans ((fr_X3_minutesThere h0).sub (fun _ hq => nomatch hq))
    obtain ⟨y2, h⟩ := fr_bn h
    obtain ⟨y3, h⟩ := fr_bn h
    obtain rfl := Option.some.inj h
    exact hF
theorem fr_X3_cost {a : Nat}  {m : Mem} {t : Int32 × Mem} (h : f_X3_cost a m = some t) : Fr (l_X3_cost a) m ((fun t => t.2) t) := by
  have hF : Fr (l_X3_cost a) m m := Fr.rf
  have hW := fr_wh (l := l_X3_cost a) (f := fun s => s.2.2) (k := (fun t => t.2)) (fun s t h => fr_X3_cost_L4 h) h
  exact hF.trans hW
theorem fr_X6_sum_L10  {s : Int32 × Int32 × Int32 × Int32 × Mem} {t : (Int32 × Int32 × Int32 × Int32 × Mem) ⊕ (Int32 × Mem)} (h : f_X6_sum_L10 s = some t) : Fr (l_X6_sum) s.2.2.2.2 ((mS (fun s => s.2.2.2.2) (fun t => t.2)) t) := by
  have hF : Fr (l_X6_sum) s.2.2.2.2 s.2.2.2.2 := Fr.rf
  rcases fr_if h with h | h
  · refine fr_up h (fun r h => ?_)
    obtain rfl := Option.some.inj h
    exact hF
  · have h := (ck_s h).2
    rcases fr_if h with h | h
    · obtain ⟨y2, h⟩ := fr_bn h
      obtain rfl := Option.some.inj h
      exact hF
    · have h := (ck_s h).2
      obtain ⟨y3, h⟩ := fr_bn h
      obtain ⟨y4, h⟩ := fr_bn h
      obtain rfl := Option.some.inj h
      exact hF
theorem fr_X6_sum  {p1 : Int32} {p2 : Int32} {m : Mem} {t : Int32 × Mem} (h : f_X6_sum p1 p2 m = some t) : Fr (l_X6_sum) m ((fun t => t.2) t) := by
  have hF : Fr (l_X6_sum) m m := Fr.rf
  have h := (ck_s h).2
  obtain ⟨y1, h⟩ := fr_bn h
  have hW := fr_wh (l := l_X6_sum) (f := fun s => s.2.2.2.2) (k := (fun t => t.2)) (fun s t h => fr_X6_sum_L10 h) h
  exact hF.trans hW
theorem fr_X6_decided_L4  {s : Int32 × Int32 × Int32 × Mem} {t : (Int32 × Int32 × Int32 × Mem) ⊕ (Int32 × Mem)} (h : f_X6_decided_L4 s = some t) : Fr (l_X6_decided) s.2.2.2 ((mS (fun s => s.2.2.2) (fun t => t.2)) t) := by
  have hF : Fr (l_X6_decided) s.2.2.2 s.2.2.2 := Fr.rf
  rcases fr_if h with h | h
  · refine fr_up h (fun r h => ?_)
    obtain rfl := Option.some.inj h
    exact hF
  · obtain ⟨q1, h0, h⟩ := Option.bind_eq_some_iff.mp h
    have hF := hF.trans ((fr_X6_sum h0).sub (fun _ hq => nomatch hq))
    rcases fr_if h with h | h
    · obtain ⟨y2, h⟩ := fr_bn h
      obtain ⟨y3, h⟩ := fr_bn h
      obtain rfl := Option.some.inj h
      exact hF
    · obtain ⟨y4, h⟩ := fr_bn h
      obtain ⟨y5, h⟩ := fr_bn h
      obtain rfl := Option.some.inj h
      exact hF
theorem fr_X6_decided  {p1 : Int32} {m : Mem} {t : Int32 × Mem} (h : f_X6_decided p1 m = some t) : Fr (l_X6_decided) m ((fun t => t.2) t) := by
  have hF : Fr (l_X6_decided) m m := Fr.rf
  have hW := fr_wh (l := l_X6_decided) (f := fun s => s.2.2.2) (k := (fun t => t.2)) (fun s t h => fr_X6_decided_L4 h) h
  exact hF.trans hW
theorem fr_X3_decided {a : Nat}  {m : Mem} {t : Int32 × Mem} (h : f_X3_decided a m = some t) : Fr (l_X3_decided a) m ((fun t => t.2) t) := by
  have hF : Fr (l_X3_decided a) m m := Fr.rf
  obtain ⟨q1, h0, h⟩ := Option.bind_eq_some_iff.mp h
  have hF := hF.trans ((fr_X6_decided h0).sub (fun _ hq => nomatch hq))
  obtain rfl := Option.some.inj h
  exact hF
theorem fr_X3_sayFirst_L3 {a : Nat} {s : Int32 × Int32 × Int32 × Int32 × Mem} {t : (Int32 × Int32 × Int32 × Int32 × Mem) ⊕ Mem} (h : f_X3_sayFirst_L3 a s = some t) : Fr (l_X3_sayFirst a) s.2.2.2.2 ((mS (fun s => s.2.2.2.2) (fun t => t)) t) := by
  have hF : Fr (l_X3_sayFirst a) s.2.2.2.2 s.2.2.2.2 := Fr.rf
  rcases fr_if h with h | h
  · refine fr_up h (fun r h => ?_)
    obtain ⟨m1, hF, h⟩ := fr_stI (fr_at 2 rfl) hF h
    obtain rfl := Option.some.inj h
    exact hF
  · rcases fr_if h with h | h
    · obtain ⟨y2, h⟩ := fr_bn h
      obtain rfl := Option.some.inj h
      exact hF
    · have h := (ck_s h).2
      obtain ⟨m3, hF, h⟩ := fr_stI (fr_at 0 rfl) hF h
      have h := (ck_s h).2
      obtain ⟨m4, hF, h⟩ := fr_stI (fr_at 1 rfl) hF h
      obtain ⟨y5, h⟩ := fr_bn h
      obtain rfl := Option.some.inj h
      exact hF
theorem fr_X3_sayFirst {a : Nat} {p1 : Int32} {p2 : Int32} {p3 : Int32} {m : Mem} {t : Mem} (h : f_X3_sayFirst a p1 p2 p3 m = some t) : Fr (l_X3_sayFirst a) m ((fun t => t) t) := by
  have hF : Fr (l_X3_sayFirst a) m m := Fr.rf
  have hW := fr_wh (l := l_X3_sayFirst a) (f := fun s => s.2.2.2.2) (k := (fun t => t)) (fun s t h => fr_X3_sayFirst_L3 h) h
  exact hF.trans hW
theorem fr_X3_writeDown {a : Nat} {p1 : Int32} {m : Mem} {t : Mem} (h : f_X3_writeDown a p1 m = some t) : Fr (l_X3_writeDown a) m ((fun t => t) t) := by
  have hF : Fr (l_X3_writeDown a) m m := Fr.rf
  obtain ⟨q1, h0, h⟩ := Option.bind_eq_some_iff.mp h
  have hF := hF.trans ((fr_X3_cardsThere h0).sub (fun _ hq => nomatch hq))
  have h := (ck_s h).2
  obtain ⟨y2, h⟩ := fr_bn h
  obtain ⟨q3, h0, h⟩ := Option.bind_eq_some_iff.mp h
  have hF := hF.trans ((fr_X3_sayFirst h0).sub (fr_ix [0, 1, 2] rfl))
  obtain rfl := Option.some.inj h
  exact hF
theorem fr_X3_namesOf {a : Nat} {p1 : Int32} {p2 : Int32} {m : Mem} {t : Mem} (h : f_X3_namesOf a p1 p2 m = some t) : Fr (l_X3_namesOf a) m ((fun t => t) t) := by
  have hF : Fr (l_X3_namesOf a) m m := Fr.rf
  have h := (ck_s h).2
  have h := (ck_s h).2
  obtain ⟨m1, hF, h⟩ := fr_stI (fr_at 0 rfl) hF h
  have h := (ck_s h).2
  have h := (ck_s h).2
  obtain ⟨m2, hF, h⟩ := fr_stI (fr_at 0 rfl) hF h
  have h := (ck_s h).2
  have h := (ck_s h).2
  obtain ⟨m3, hF, h⟩ := fr_stI (fr_at 0 rfl) hF h
  have h := (ck_s h).2
  have h := (ck_s h).2
  obtain ⟨q4, h0, h⟩ := Option.bind_eq_some_iff.mp h
  have hF := hF.trans ((fr_J6_bitCount_0f7a4 h0).sub (fun _ hq => nomatch hq))
  have h := (ck_s h).2
  obtain ⟨m5, hF, h⟩ := fr_stI (fr_at 0 rfl) hF h
  have h := (ck_s h).2
  have h := (ck_s h).2
  obtain ⟨m6, hF, h⟩ := fr_stI (fr_at 0 rfl) hF h
  have h := (ck_s h).2
  have h := (ck_s h).2
  obtain ⟨m7, hF, h⟩ := fr_stI (fr_at 0 rfl) hF h
  have h := (ck_s h).2
  obtain ⟨m8, hF, h⟩ := fr_stI (fr_at 0 rfl) hF h
  rcases fr_if h with h | h
  · have h := (ck_s h).2
    obtain ⟨m9, hF, h⟩ := fr_stI (fr_at 0 rfl) hF h
    obtain rfl := Option.some.inj h
    exact hF
  · have h := (ck_s h).2
    obtain ⟨m10, hF, h⟩ := fr_stI (fr_at 0 rfl) hF h
    obtain rfl := Option.some.inj h
    exact hF
theorem fr_X3_weigh_L2 {a : Nat} {s : Int32 × Int32 × Mem} {t : (Int32 × Int32 × Mem) ⊕ Mem} (h : f_X3_weigh_L2 a s = some t) : Fr (l_X3_weigh a) s.2.2 ((mS (fun s => s.2.2) (fun t => t)) t) := by
  have hF : Fr (l_X3_weigh a) s.2.2 s.2.2 := Fr.rf
  rcases fr_if h with h | h
  · refine fr_up h (fun r h => ?_)
    obtain rfl := Option.some.inj h
    exact hF
  · obtain ⟨q1, h0, h⟩ := Option.bind_eq_some_iff.mp h
    have hF := hF.trans ((fr_X3_isThere h0).sub (fun _ hq => nomatch hq))
    rcases fr_if h with h | h
    · have h := (ck_s h).2
      obtain ⟨m2, hF, h⟩ := fr_stI (fr_at 2 rfl) hF h
      obtain ⟨y3, h⟩ := fr_bn h
      obtain rfl := Option.some.inj h
      exact hF
    · obtain ⟨q4, h0, h⟩ := Option.bind_eq_some_iff.mp h
      have hF := hF.trans ((fr_X3_namesOf h0).sub (fr_ix [1] rfl))
      obtain ⟨q5, h0, h⟩ := Option.bind_eq_some_iff.mp h
      have hF := hF.trans ((fr_X2_value h0).sub (fr_ix [0] rfl))
      have h := (ck_s h).2
      obtain ⟨m6, hF, h⟩ := fr_stI (fr_at 2 rfl) hF h
      obtain ⟨y7, h⟩ := fr_bn h
      obtain rfl := Option.some.inj h
      exact hF
theorem fr_X3_weigh {a : Nat} {p1 : Int32} {m : Mem} {t : Mem} (h : f_X3_weigh a p1 m = some t) : Fr (l_X3_weigh a) m ((fun t => t) t) := by
  have hF : Fr (l_X3_weigh a) m m := Fr.rf
  have hW := fr_wh (l := l_X3_weigh a) (f := fun s => s.2.2) (k := (fun t => t)) (fun s t h => fr_X3_weigh_L2 h) h
  exact hF.trans hW
theorem fr_X3_whoSpokeLeast_L4 {a : Nat} {s : Int32 × Int32 × Mem} {t : (Int32 × Int32 × Mem) ⊕ (Int32 × Mem)} (h : f_X3_whoSpokeLeast_L4 a s = some t) : Fr (l_X3_whoSpokeLeast a) s.2.2 ((mS (fun s => s.2.2) (fun t => t.2)) t) := by
  have hF : Fr (l_X3_whoSpokeLeast a) s.2.2 s.2.2 := Fr.rf
  rcases fr_if h with h | h
  · refine fr_up h (fun r h => ?_)
    obtain rfl := Option.some.inj h
    exact hF
  · have h := (ck_s h).2
    rcases fr_if h with h | h
    · obtain ⟨y1, h⟩ := fr_bn h
      obtain rfl := Option.some.inj h
      exact hF
    · rcases fr_if h with h | h
      · obtain ⟨y2, h⟩ := fr_bn h
        obtain rfl := Option.some.inj h
        exact hF
      · have h := (ck_s h).2
        have h := (ck_s h).2
        rcases fr_if h with h | h
        · obtain ⟨y3, h⟩ := fr_bn h
          obtain rfl := Option.some.inj h
          exact hF
        · have h := (ck_s h).2
          have h := (ck_s h).2
          rcases fr_if h with h | h
          · obtain ⟨y4, h⟩ := fr_bn h
            obtain rfl := Option.some.inj h
            exact hF
          · have h := (ck_s h).2
            have h := (ck_s h).2
            rcases fr_if h with h | h
            · obtain ⟨y5, h⟩ := fr_bn h
              obtain rfl := Option.some.inj h
              exact hF
            · obtain ⟨y6, h⟩ := fr_bn h
              obtain rfl := Option.some.inj h
              exact hF
theorem fr_X3_whoSpokeLeast {a : Nat}  {m : Mem} {t : Int32 × Mem} (h : f_X3_whoSpokeLeast a m = some t) : Fr (l_X3_whoSpokeLeast a) m ((fun t => t.2) t) := by
  have hF : Fr (l_X3_whoSpokeLeast a) m m := Fr.rf
  have hW := fr_wh (l := l_X3_whoSpokeLeast a) (f := fun s => s.2.2) (k := (fun t => t.2)) (fun s t h => fr_X3_whoSpokeLeast_L4 h) h
  exact hF.trans hW
theorem fr_X3_nextSpeaker {a : Nat}  {m : Mem} {t : Int32 × Mem} (h : f_X3_nextSpeaker a m = some t) : Fr (l_X3_nextSpeaker a) m ((fun t => t.2) t) := by
  have hF : Fr (l_X3_nextSpeaker a) m m := Fr.rf
  rcases fr_sw h with h | h | h | h | h
  · obtain ⟨q1, h0, h⟩ := Option.bind_eq_some_iff.mp h
    have hF := hF.trans ((fr_X3_byTurns h0).sub (fun _ hq => nomatch hq))
    obtain rfl := Option.some.inj h
    exact hF
  · obtain ⟨q2, h0, h⟩ := Option.bind_eq_some_iff.mp h
    have hF := hF.trans ((fr_X3_whoSpokeLeast h0).sub (fun _ hq => nomatch hq))
    obtain rfl := Option.some.inj h
    exact hF
  · rcases fr_if h with h | h
    · obtain ⟨q3, h0, h⟩ := Option.bind_eq_some_iff.mp h
      have hF := hF.trans ((fr_X3_byTurns h0).sub (fun _ hq => nomatch hq))
      obtain rfl := Option.some.inj h
      exact hF
    · have h := (ck_s h).2
      rcases fr_if h with h | h
      · obtain ⟨q4, h0, h⟩ := Option.bind_eq_some_iff.mp h
        have hF := hF.trans ((fr_X3_byTurns h0).sub (fun _ hq => nomatch hq))
        obtain rfl := Option.some.inj h
        exact hF
      · obtain rfl := Option.some.inj h
        exact hF
  · obtain ⟨q5, h0, h⟩ := Option.bind_eq_some_iff.mp h
    have hF := hF.trans ((fr_X3_chiefLast h0).sub (fun _ hq => nomatch hq))
    obtain rfl := Option.some.inj h
    exact hF
  · obtain ⟨q6, h0, h⟩ := Option.bind_eq_some_iff.mp h
    have hF := hF.trans ((fr_X3_whoWishesMost h0).sub (fun _ hq => nomatch hq))
    obtain rfl := Option.some.inj h
    exact hF
theorem fr_X3_whoStops_L2 {a : Nat} {s : Int32 × Int32 × Mem} {t : (Int32 × Int32 × Mem) ⊕ (Int32 × Mem)} (h : f_X3_whoStops_L2 a s = some t) : Fr (l_X3_whoStops a) s.2.2 ((mS (fun s => s.2.2) (fun t => t.2)) t) := by
  have hF : Fr (l_X3_whoStops a) s.2.2 s.2.2 := Fr.rf
  rcases fr_if h with h | h
  · refine fr_up h (fun r h => ?_)
    obtain rfl := Option.some.inj h
    exact hF
  · rcases fr_if h with h | h
    · obtain ⟨y1, h⟩ := fr_bn h
      obtain rfl := Option.some.inj h
      exact hF
    · have h := (ck_s h).2
      rcases fr_if h with h | h
      · obtain ⟨y2, h⟩ := fr_bn h
        obtain rfl := Option.some.inj h
        exact hF
      · have h := (ck_s h).2
        have h := (ck_s h).2
        rcases fr_if h with h | h
        · obtain ⟨y3, h⟩ := fr_bn h
          obtain rfl := Option.some.inj h
          exact hF
        · have h := (ck_s h).2
          have h := (ck_s h).2
          rcases fr_if h with h | h
          · obtain ⟨y4, h⟩ := fr_bn h
            obtain rfl := Option.some.inj h
            exact hF
          · refine fr_up h (fun r h => ?_)
            obtain rfl := Option.some.inj h
            exact hF
theorem fr_X3_whoStops {a : Nat} {p1 : Int32} {m : Mem} {t : Int32 × Mem} (h : f_X3_whoStops a p1 m = some t) : Fr (l_X3_whoStops a) m ((fun t => t.2) t) := by
  have hF : Fr (l_X3_whoStops a) m m := Fr.rf
  have hW := fr_wh (l := l_X3_whoStops a) (f := fun s => s.2.2) (k := (fun t => t.2)) (fun s t h => fr_X3_whoStops_L2 h) h
  exact hF.trans hW
theorem fr_X3_lowestBits_L4  {s : Int32 × Int32 × Int32 × Int32 × Mem} {t : (Int32 × Int32 × Int32 × Int32 × Mem) ⊕ (Int32 × Mem)} (h : f_X3_lowestBits_L4 s = some t) : Fr (l_X3_lowestBits) s.2.2.2.2 ((mS (fun s => s.2.2.2.2) (fun t => t.2)) t) := by
  have hF : Fr (l_X3_lowestBits) s.2.2.2.2 s.2.2.2.2 := Fr.rf
  rcases fr_if h with h | h
  · refine fr_up h (fun r h => ?_)
    obtain rfl := Option.some.inj h
    exact hF
  · obtain ⟨y1, h⟩ := fr_bn h
    obtain ⟨y2, h⟩ := fr_bn h
    obtain rfl := Option.some.inj h
    exact hF
theorem fr_X3_lowestBits  {p1 : Int32} {p2 : Int32} {m : Mem} {t : Int32 × Mem} (h : f_X3_lowestBits p1 p2 m = some t) : Fr (l_X3_lowestBits) m ((fun t => t.2) t) := by
  have hF : Fr (l_X3_lowestBits) m m := Fr.rf
  have hW := fr_wh (l := l_X3_lowestBits) (f := fun s => s.2.2.2.2) (k := (fun t => t.2)) (fun s t h => fr_X3_lowestBits_L4 h) h
  exact hF.trans hW
theorem fr_X3_lowestPlace  {p1 : Int32} {m : Mem} {t : Int32 × Mem} (h : f_X3_lowestPlace p1 m = some t) : Fr (l_X3_lowestPlace) m ((fun t => t.2) t) := by
  have hF : Fr (l_X3_lowestPlace) m m := Fr.rf
  rcases fr_if h with h | h
  · obtain ⟨q1, h0, h⟩ := Option.bind_eq_some_iff.mp h
    have hF := hF.trans ((fr_J6_bitCount_0f7a4 h0).sub (fun _ hq => nomatch hq))
    obtain rfl := Option.some.inj h
    exact hF
  · obtain rfl := Option.some.inj h
    exact hF
theorem fr_X3_lengthOf {a : Nat} {p1 : Int32} {m : Mem} {t : Int32 × Mem} (h : f_X3_lengthOf a p1 m = some t) : Fr (l_X3_lengthOf a) m ((fun t => t.2) t) := by
  have hF : Fr (l_X3_lengthOf a) m m := Fr.rf
  obtain ⟨y1, h⟩ := fr_bn h
  have h := (ck_s h).2
  rcases fr_if h with h | h
  · obtain rfl := Option.some.inj h
    exact hF
  · obtain rfl := Option.some.inj h
    exact hF
theorem fr_X3_writeLog {a : Nat} {p1 : Int32} {p2 : Int32} {p3 : Int32} {p4 : Int32} {p5 : Int32} {p6 : Int32} {m : Mem} {t : Mem} (h : f_X3_writeLog a p1 p2 p3 p4 p5 p6 m = some t) : Fr (l_X3_writeLog a) m ((fun t => t) t) := by
  have hF : Fr (l_X3_writeLog a) m m := Fr.rf
  rcases fr_if h with h | h
  · obtain ⟨y1, h⟩ := fr_bn h
    have h := (ck_s h).2
    obtain ⟨m2, hF, h⟩ := fr_stI (fr_at 0 rfl) hF h
    have h := (ck_s h).2
    obtain ⟨m3, hF, h⟩ := fr_stI (fr_at 0 rfl) hF h
    have h := (ck_s h).2
    obtain ⟨m4, hF, h⟩ := fr_stI (fr_at 0 rfl) hF h
    have h := (ck_s h).2
    obtain ⟨m5, hF, h⟩ := fr_stI (fr_at 0 rfl) hF h
    have h := (ck_s h).2
    obtain ⟨m6, hF, h⟩ := fr_stI (fr_at 0 rfl) hF h
    have h := (ck_s h).2
    obtain ⟨m7, hF, h⟩ := fr_stI (fr_at 0 rfl) hF h
    have h := (ck_s h).2
    obtain ⟨m8, hF, h⟩ := fr_stI (fr_at 0 rfl) hF h
    obtain ⟨m9, hF, h⟩ := fr_stI (fr_at 1 rfl) hF h
    obtain rfl := Option.some.inj h
    exact hF
  · obtain rfl := Option.some.inj h
    exact hF
theorem fr_X3_speak_J179 {a : Nat} {v1 : Int32} {v2 : Int32} {v5 : Int32} {v8 : Int32} {v9 : Int32} {v10 : Int32}  {m : Mem} {t : Mem} (h : f_X3_speak_J179 a v1 v2 v5 v8 v9 v10 m = some t) : Fr (l_X3_speak a) m ((fun t => t) t) := by
  have hF : Fr (l_X3_speak a) m m := Fr.rf
  obtain ⟨q7, h0, h⟩ := Option.bind_eq_some_iff.mp h
  have hF := hF.trans ((fr_X3_sayFirst h0).sub (fr_ix [2, 3, 9] rfl))
  obtain ⟨q8, h0, h⟩ := Option.bind_eq_some_iff.mp h
  have hF := hF.trans ((fr_X3_writeLog h0).sub (fr_ix [0, 7] rfl))
  have h := (ck_s h).2
  obtain ⟨m9, hF, h⟩ := fr_stI (fr_at 11 rfl) hF h
  have h := (ck_s h).2
  have h := (ck_s h).2
  obtain ⟨m10, hF, h⟩ := fr_stI (fr_at 10 rfl) hF h
  have h := (ck_s h).2
  have h := (ck_s h).2
  obtain ⟨m11, hF, h⟩ := fr_stI (fr_at 6 rfl) hF h
  have h := (ck_s h).2
  have h := (ck_s h).2
  obtain ⟨m12, hF, h⟩ := fr_stI (fr_at 1 rfl) hF h
  obtain ⟨m13, hF, h⟩ := fr_stI (fr_at 8 rfl) hF h
  obtain ⟨m14, hF, h⟩ := fr_stI (fr_at 12 rfl) hF h
  obtain rfl := Option.some.inj h
  exact hF
theorem fr_X3_speak_J143 {a : Nat} {v1 : Int32} {v2 : Int32} {v5 : Int32} {v8 : Int32} {v9 : Int32} {v10 : Int32}  {m : Mem} {t : Mem} (h : f_X3_speak_J143 a v1 v2 v5 v8 v9 v10 m = some t) : Fr (l_X3_speak a) m ((fun t => t) t) := by
  have hF : Fr (l_X3_speak a) m m := Fr.rf
  rcases fr_if h with h | h
  · exact hF.trans (fr_X3_speak_J179 h)
  · have h := (ck_s h).2
    rcases fr_if h with h | h
    · exact hF.trans (fr_X3_speak_J179 h)
    · have h := (ck_s h).2
      rcases fr_if h with h | h
      · exact hF.trans (fr_X3_speak_J179 h)
      · have h := (ck_s h).2
        have h := (ck_s h).2
        obtain ⟨m15, hF, h⟩ := fr_stI (fr_at 5 rfl) hF h
        exact hF.trans (fr_X3_speak_J179 h)
theorem fr_X3_speak_J125 {a : Nat} {v1 : Int32} {v2 : Int32} {v5 : Int32} {v6 : Int32} {v8 : Int32} {v9 : Int32} {t0 : Int32}  {m : Mem} {t : Mem} (h : f_X3_speak_J125 a v1 v2 v5 v6 v8 v9 t0 m = some t) : Fr (l_X3_speak a) m ((fun t => t) t) := by
  have hF : Fr (l_X3_speak a) m m := Fr.rf
  rcases fr_if h with h | h
  · exact hF.trans (fr_X3_speak_J143 h)
  · have h := (ck_s h).2
    have h := (ck_s h).2
    obtain ⟨m16, hF, h⟩ := fr_stI (fr_at 4 rfl) hF h
    exact hF.trans (fr_X3_speak_J143 h)
theorem fr_X3_speak_J105 {a : Nat} {v1 : Int32} {v2 : Int32} {v4 : Int32} {v5 : Int32} {v6 : Int32} {v8 : Int32} {t0 : Int32}  {m : Mem} {t : Mem} (h : f_X3_speak_J105 a v1 v2 v4 v5 v6 v8 t0 m = some t) : Fr (l_X3_speak a) m ((fun t => t) t) := by
  have hF : Fr (l_X3_speak a) m m := Fr.rf
  rcases fr_if h with h | h
  · obtain ⟨q5, h0, h⟩ := Option.bind_eq_some_iff.mp h
    have hF := hF.trans ((fr_J6_bitCount_0f7a4 h0).sub (fun _ hq => nomatch hq))
    obtain ⟨q6, h0, h⟩ := Option.bind_eq_some_iff.mp h
    have hF := hF.trans ((fr_X3_lengthOf h0).sub (fun _ hq => nomatch hq))
    exact hF.trans (fr_X3_speak_J125 h)
  · exact hF.trans (fr_X3_speak_J125 h)
theorem fr_X3_speak_J75 {a : Nat} {v1 : Int32} {v2 : Int32} {v3 : Int32} {v4 : Int32} {v5 : Int32} {v6 : Int32} {t0 : Int32}  {m : Mem} {t : Mem} (h : f_X3_speak_J75 a v1 v2 v3 v4 v5 v6 t0 m = some t) : Fr (l_X3_speak a) m ((fun t => t) t) := by
  have hF : Fr (l_X3_speak a) m m := Fr.rf
  obtain ⟨q4, h0, h⟩ := Option.bind_eq_some_iff.mp h
  have hF := hF.trans ((fr_X3_lowestBits h0).sub (fun _ hq => nomatch hq))
  rcases fr_if h with h | h
  · exact hF.trans (fr_X3_speak_J105 h)
  · obtain ⟨q17, h0, h⟩ := Option.bind_eq_some_iff.mp h
    have hF := hF.trans ((fr_X3_lowestPlace h0).sub (fun _ hq => nomatch hq))
    exact hF.trans (fr_X3_speak_J105 h)
theorem fr_X3_speak_J49 {a : Nat} {v1 : Int32} {v2 : Int32} {v3 : Int32} {v4 : Int32} {v5 : Int32} {t0 : Int32}  {m : Mem} {t : Mem} (h : f_X3_speak_J49 a v1 v2 v3 v4 v5 t0 m = some t) : Fr (l_X3_speak a) m ((fun t => t) t) := by
  have hF : Fr (l_X3_speak a) m m := Fr.rf
  rcases fr_if h with h | h
  · exact hF.trans (fr_X3_speak_J75 h)
  · exact hF.trans (fr_X3_speak_J75 h)
theorem fr_X3_speak {a : Nat} {p1 : Int32} {p2 : Int32} {m : Mem} {t : Mem} (h : f_X3_speak a p1 p2 m = some t) : Fr (l_X3_speak a) m ((fun t => t) t) := by
  have hF : Fr (l_X3_speak a) m m := Fr.rf
  have h := (ck_s h).2
  have h := (ck_s h).2
  obtain ⟨y1, h⟩ := fr_bn h
  obtain ⟨y2, h⟩ := fr_bn h
  obtain ⟨q3, h0, h⟩ := Option.bind_eq_some_iff.mp h
  have hF := hF.trans ((fr_X3_whoStops h0).sub (fun _ hq => nomatch hq))
  rcases fr_if h with h | h
  · exact hF.trans (fr_X3_speak_J49 h)
  · exact hF.trans (fr_X3_speak_J49 h)
theorem fr_X3_discuss_L44 {a : Nat} {s : Int32 × Int32 × Int32 × Mem} {t : (Int32 × Int32 × Int32 × Mem) ⊕ Mem} (h : f_X3_discuss_L44 a s = some t) : Fr (l_X3_discuss a) s.2.2.2 ((mS (fun s => s.2.2.2) (fun t => t)) t) := by
  have hF : Fr (l_X3_discuss a) s.2.2.2 s.2.2.2 := Fr.rf
  rcases fr_if h with h | h
  · refine fr_up h (fun r h => ?_)
    obtain rfl := Option.some.inj h
    exact hF
  · rcases fr_if h with h | h
    · refine fr_up h (fun r h => ?_)
      obtain rfl := Option.some.inj h
      exact hF
    · have h := (ck_s h).2
      rcases fr_if h with h | h
      · refine fr_up h (fun r h => ?_)
        obtain rfl := Option.some.inj h
        exact hF
      · obtain ⟨q3, h0, h⟩ := Option.bind_eq_some_iff.mp h
        have hF := hF.trans ((fr_X3_weigh h0).sub (fr_ix [0, 8, 9] rfl))
        obtain ⟨q4, h0, h⟩ := Option.bind_eq_some_iff.mp h
        have hF := hF.trans ((fr_X3_nextSpeaker h0).sub (fun _ hq => nomatch hq))
        rcases fr_if h with h | h
        · obtain ⟨y5, h⟩ := fr_bn h
          obtain rfl := Option.some.inj h
          exact hF
        · obtain ⟨q6, h0, h⟩ := Option.bind_eq_some_iff.mp h
          have hF := hF.trans ((fr_X3_speak h0).sub (fr_ix [1, 2, 3, 4, 5, 6, 7, 10, 11, 12, 13, 14, 15] rfl))
          obtain ⟨y7, h⟩ := fr_bn h
          obtain rfl := Option.some.inj h
          exact hF
theorem fr_X3_discuss {a : Nat} {p1 : Int32} {m : Mem} {t : Mem} (h : f_X3_discuss a p1 m = some t) : Fr (l_X3_discuss a) m ((fun t => t) t) := by
  have hF : Fr (l_X3_discuss a) m m := Fr.rf
  rcases fr_if h with h | h
  · obtain rfl := Option.some.inj h
    exact hF
  · rcases fr_if h with h | h
    · obtain ⟨q1, h0, h⟩ := Option.bind_eq_some_iff.mp h
      have hF := hF.trans ((fr_J7_fill_53178 h0).sub (fr_ix [13] rfl))
      rcases fr_if h with h | h
      · obtain ⟨y2, h⟩ := fr_bn h
        have hW := fr_wh (l := l_X3_discuss a) (f := fun s => s.2.2.2) (k := (fun t => t)) (fun s t h => fr_X3_discuss_L44 h) h
        exact hF.trans hW
      · obtain ⟨q8, h0, h⟩ := Option.bind_eq_some_iff.mp h
        have hF := hF.trans ((fr_X3_writeDown h0).sub (fr_ix [3, 4, 12] rfl))
        obtain ⟨y9, h⟩ := fr_bn h
        have hW := fr_wh (l := l_X3_discuss a) (f := fun s => s.2.2.2) (k := (fun t => t)) (fun s t h => fr_X3_discuss_L44 h) h
        exact hF.trans hW
    · obtain rfl := Option.some.inj h
      exact hF
theorem fr_X3_hold_L23 {a : Nat} {ag : Nat} {s : Int32 × Mem} {t : (Int32 × Mem) ⊕ Mem} (h : f_X3_hold_L23 a ag s = some t) : Fr (l_X3_hold a) s.2 ((mS (fun s => s.2) (fun t => t)) t) := by
  have hF : Fr (l_X3_hold a) s.2 s.2 := Fr.rf
  rcases fr_if h with h | h
  · refine fr_up h (fun r h => ?_)
    obtain rfl := Option.some.inj h
    exact hF
  · rcases fr_if h with h | h
    · refine fr_up h (fun r h => ?_)
      obtain rfl := Option.some.inj h
      exact hF
    · have h := (ck_s h).2
      obtain ⟨q5, h0, h⟩ := Option.bind_eq_some_iff.mp h
      have hF := hF.trans ((fr_X3_discuss h0).sub (fr_ix [0, 1, 2, 3, 4, 5, 6, 7, 8, 9, 10, 11, 12, 13, 14, 18] rfl))
      obtain ⟨y6, h⟩ := fr_bn h
      obtain rfl := Option.some.inj h
      exact hF
theorem fr_X3_hold {a : Nat} {ag : Nat} {p2 : Int32} {p3 : Int32} {p4 : Int32} {m : Mem} {t : Mem} (h : f_X3_hold a ag p2 p3 p4 m = some t) : Fr (l_X3_hold a) m ((fun t => t) t) := by
  have hF : Fr (l_X3_hold a) m m := Fr.rf
  obtain ⟨q1, h0, h⟩ := Option.bind_eq_some_iff.mp h
  have hF := hF.trans ((fr_X3_clear h0).sub (fr_ix [2, 3, 4, 5, 6, 7, 10, 11, 12, 13, 14, 18] rfl))
  obtain ⟨m2, hF, h⟩ := fr_stI (fr_at 15 rfl) hF h
  obtain ⟨m3, hF, h⟩ := fr_stI (fr_at 16 rfl) hF h
  obtain ⟨m4, hF, h⟩ := fr_stI (fr_at 17 rfl) hF h
  have hW := fr_wh (l := l_X3_hold a) (f := fun s => s.2) (k := (fun t => t)) (fun s t h => fr_X3_hold_L23 h) h
  exact hF.trans hW
theorem fr_X6_knownCards_L4  {s : Int32 × Int32 × Mem} {t : (Int32 × Int32 × Mem) ⊕ (Int32 × Mem)} (h : f_X6_knownCards_L4 s = some t) : Fr (l_X6_knownCards) s.2.2 ((mS (fun s => s.2.2) (fun t => t.2)) t) := by
  have hF : Fr (l_X6_knownCards) s.2.2 s.2.2 := Fr.rf
  rcases fr_if h with h | h
  · refine fr_up h (fun r h => ?_)
    obtain rfl := Option.some.inj h
    exact hF
  · have h := (ck_s h).2
    obtain ⟨y1, h⟩ := fr_bn h
    obtain ⟨y2, h⟩ := fr_bn h
    obtain rfl := Option.some.inj h
    exact hF
theorem fr_X6_knownCards   {m : Mem} {t : Int32 × Mem} (h : f_X6_knownCards m = some t) : Fr (l_X6_knownCards) m ((fun t => t.2) t) := by
  have hF : Fr (l_X6_knownCards) m m := Fr.rf
  have hW := fr_wh (l := l_X6_knownCards) (f := fun s => s.2.2) (k := (fun t => t.2)) (fun s t h => fr_X6_knownCards_L4 h) h
  exact hF.trans hW
theorem fr_X3_wrong {a : Nat}  {m : Mem} {t : Int32 × Mem} (h : f_X3_wrong a m = some t) : Fr (l_X3_wrong a) m ((fun t => t.2) t) := by
  have hF : Fr (l_X3_wrong a) m m := Fr.rf
  obtain ⟨q1, h0, h⟩ := Option.bind_eq_some_iff.mp h
  have hF := hF.trans ((fr_X3_decided h0).sub (fun _ hq => nomatch hq))
  obtain ⟨q2, h0, h⟩ := Option.bind_eq_some_iff.mp h
  have hF := hF.trans ((fr_X6_knownCards h0).sub (fun _ hq => nomatch hq))
  obtain ⟨q3, h0, h⟩ := Option.bind_eq_some_iff.mp h
  have hF := hF.trans ((fr_X6_decided h0).sub (fun _ hq => nomatch hq))
  obtain rfl := Option.some.inj h
  exact hF
theorem fr_X4_hadCard  {p1 : Int32} {m : Mem} {t : Int32 × Mem} (h : f_X4_hadCard p1 m = some t) : Fr (l_X4_hadCard) m ((fun t => t.2) t) := by
  have hF : Fr (l_X4_hadCard) m m := Fr.rf
  rcases fr_if h with h | h
  · have h := (bz_s h).2
    obtain rfl := Option.some.inj h
    exact hF
  · rcases fr_if h with h | h
    · have h := (bz_s h).2
      obtain rfl := Option.some.inj h
      exact hF
    · rcases fr_if h with h | h
      · have h := (bz_s h).2
        obtain rfl := Option.some.inj h
        exact hF
      · have h := (bz_s h).2
        obtain rfl := Option.some.inj h
        exact hF
theorem fr_X4_hadPerson  {p1 : Int32} {m : Mem} {t : Int32 × Mem} (h : f_X4_hadPerson p1 m = some t) : Fr (l_X4_hadPerson) m ((fun t => t.2) t) := by
  have hF : Fr (l_X4_hadPerson) m m := Fr.rf
  rcases fr_if h with h | h
  · have h := (bz_s h).2
    obtain rfl := Option.some.inj h
    exact hF
  · rcases fr_if h with h | h
    · have h := (bz_s h).2
      obtain rfl := Option.some.inj h
      exact hF
    · rcases fr_if h with h | h
      · have h := (bz_s h).2
        obtain rfl := Option.some.inj h
        exact hF
      · have h := (bz_s h).2
        obtain rfl := Option.some.inj h
        exact hF
theorem fr_X4_hadThing  {p1 : Int32} {m : Mem} {t : Int32 × Mem} (h : f_X4_hadThing p1 m = some t) : Fr (l_X4_hadThing) m ((fun t => t.2) t) := by
  have hF : Fr (l_X4_hadThing) m m := Fr.rf
  rcases fr_if h with h | h
  · have h := (bz_s h).2
    obtain rfl := Option.some.inj h
    exact hF
  · rcases fr_if h with h | h
    · have h := (bz_s h).2
      obtain rfl := Option.some.inj h
      exact hF
    · rcases fr_if h with h | h
      · have h := (bz_s h).2
        obtain rfl := Option.some.inj h
        exact hF
      · have h := (bz_s h).2
        obtain rfl := Option.some.inj h
        exact hF
theorem fr_X6_aloneCards_L4  {s : Int32 × Int32 × Mem} {t : (Int32 × Int32 × Mem) ⊕ (Int32 × Mem)} (h : f_X6_aloneCards_L4 s = some t) : Fr (l_X6_aloneCards) s.2.2 ((mS (fun s => s.2.2) (fun t => t.2)) t) := by
  have hF : Fr (l_X6_aloneCards) s.2.2 s.2.2 := Fr.rf
  rcases fr_if h with h | h
  · refine fr_up h (fun r h => ?_)
    obtain rfl := Option.some.inj h
    exact hF
  · have h := (ck_s h).2
    obtain ⟨q1, h0, h⟩ := Option.bind_eq_some_iff.mp h
    have hF := hF.trans ((fr_J6_bitCount_0f7a4 h0).sub (fun _ hq => nomatch hq))
    rcases fr_if h with h | h
    · obtain ⟨y2, h⟩ := fr_bn h
      obtain rfl := Option.some.inj h
      exact hF
    · obtain ⟨y3, h⟩ := fr_bn h
      obtain ⟨y4, h⟩ := fr_bn h
      obtain rfl := Option.some.inj h
      exact hF
theorem fr_X6_aloneCards   {m : Mem} {t : Int32 × Mem} (h : f_X6_aloneCards m = some t) : Fr (l_X6_aloneCards) m ((fun t => t.2) t) := by
  have hF : Fr (l_X6_aloneCards) m m := Fr.rf
  have hW := fr_wh (l := l_X6_aloneCards) (f := fun s => s.2.2) (k := (fun t => t.2)) (fun s t h => fr_X6_aloneCards_L4 h) h
  exact hF.trans hW
theorem fr_X4_minutesByWorth  {p1 : Int32} {m : Mem} {t : Int32 × Mem} (h : f_X4_minutesByWorth p1 m = some t) : Fr (l_X4_minutesByWorth) m ((fun t => t.2) t) := by
  have hF : Fr (l_X4_minutesByWorth) m m := Fr.rf
  have h := (ck_s h).2
  have h := (ck_s h).2
  have h := (dv_s h).2
  obtain rfl := Option.some.inj h
  exact hF
theorem fr_X4_shed_L4  {s : Int32 × Int32 × Mem} {t : (Int32 × Int32 × Mem) ⊕ (Int32 × Mem)} (h : f_X4_shed_L4 s = some t) : Fr (l_X4_shed) s.2.2 ((mS (fun s => s.2.2) (fun t => t.2)) t) := by
  have hF : Fr (l_X4_shed) s.2.2 s.2.2 := Fr.rf
  rcases fr_if h with h | h
  · refine fr_up h (fun r h => ?_)
    obtain rfl := Option.some.inj h
    exact hF
  · obtain ⟨q1, h0, h⟩ := Option.bind_eq_some_iff.mp h
    have hF := hF.trans ((fr_X4_minutesByWorth h0).sub (fun _ hq => nomatch hq))
    obtain ⟨q2, h0, h⟩ := Option.bind_eq_some_iff.mp h
    have hF := hF.trans ((fr_X4_minutesByWorth h0).sub (fun _ hq => nomatch hq))
    rcases fr_if h with h | h
    · obtain ⟨y3, h⟩ := fr_bn h
      obtain rfl := Option.some.inj h
      exact hF
    · obtain ⟨y4, h⟩ := fr_bn h
      obtain rfl := Option.some.inj h
      exact hF
theorem fr_X4_shed   {m : Mem} {t : Int32 × Mem} (h : f_X4_shed m = some t) : Fr (l_X4_shed) m ((fun t => t.2) t) := by
  have hF : Fr (l_X4_shed) m m := Fr.rf
  have hW := fr_wh (l := l_X4_shed) (f := fun s => s.2.2) (k := (fun t => t.2)) (fun s t h => fr_X4_shed_L4 h) h
  exact hF.trans hW
theorem fr_X4_summarize   {m : Mem} {t : Mem} (h : f_X4_summarize m = some t) : Fr (l_X4_summarize) m ((fun t => t) t) := by
  have hF : Fr (l_X4_summarize) m m := Fr.rf
  obtain ⟨q1, h0, h⟩ := Option.bind_eq_some_iff.mp h
  have hF := hF.trans ((fr_X6_aloneCards h0).sub (fun _ hq => nomatch hq))
  have h := (ck_s h).2
  obtain ⟨m2, hF, h⟩ := fr_stI (fr_at 0 rfl) hF h
  have h := (ck_s h).2
  obtain ⟨m3, hF, h⟩ := fr_stI (fr_at 0 rfl) hF h
  obtain ⟨q4, h0, h⟩ := Option.bind_eq_some_iff.mp h
  have hF := hF.trans ((fr_X3_decided h0).sub (fun _ hq => nomatch hq))
  have h := (ck_s h).2
  obtain ⟨m5, hF, h⟩ := fr_stI (fr_at 0 rfl) hF h
  obtain ⟨q6, h0, h⟩ := Option.bind_eq_some_iff.mp h
  have hF := hF.trans ((fr_X3_cardsThere h0).sub (fun _ hq => nomatch hq))
  have h := (ck_s h).2
  obtain ⟨m7, hF, h⟩ := fr_stI (fr_at 0 rfl) hF h
  obtain ⟨q8, h0, h⟩ := Option.bind_eq_some_iff.mp h
  have hF := hF.trans ((fr_X3_wrong h0).sub (fun _ hq => nomatch hq))
  have h := (ck_s h).2
  obtain ⟨m9, hF, h⟩ := fr_stI (fr_at 0 rfl) hF h
  obtain ⟨q10, h0, h⟩ := Option.bind_eq_some_iff.mp h
  have hF := hF.trans ((fr_J6_bitCount_0f7a4 h0).sub (fun _ hq => nomatch hq))
  have h := (ck_s h).2
  obtain ⟨m11, hF, h⟩ := fr_stI (fr_at 0 rfl) hF h
  obtain ⟨q12, h0, h⟩ := Option.bind_eq_some_iff.mp h
  have hF := hF.trans ((fr_J6_bitCount_0f7a4 h0).sub (fun _ hq => nomatch hq))
  have h := (ck_s h).2
  obtain ⟨m13, hF, h⟩ := fr_stI (fr_at 0 rfl) hF h
  obtain ⟨q14, h0, h⟩ := Option.bind_eq_some_iff.mp h
  have hF := hF.trans ((fr_X3_cost h0).sub (fun _ hq => nomatch hq))
  have h := (ck_s h).2
  obtain ⟨m15, hF, h⟩ := fr_stI (fr_at 0 rfl) hF h
  obtain ⟨q16, h0, h⟩ := Option.bind_eq_some_iff.mp h
  have hF := hF.trans ((fr_X4_shed h0).sub (fun _ hq => nomatch hq))
  have h := (ck_s h).2
  obtain ⟨m17, hF, h⟩ := fr_stI (fr_at 0 rfl) hF h
  obtain rfl := Option.some.inj h
  exact hF
theorem fr_X4_needed_L4  {s : Int32 × Int32 × Mem} {t : (Int32 × Int32 × Mem) ⊕ (Int32 × Mem)} (h : f_X4_needed_L4 s = some t) : Fr (l_X4_needed) s.2.2 ((mS (fun s => s.2.2) (fun t => t.2)) t) := by
  have hF : Fr (l_X4_needed) s.2.2 s.2.2 := Fr.rf
  rcases fr_if h with h | h
  · refine fr_up h (fun r h => ?_)
    obtain rfl := Option.some.inj h
    exact hF
  · have h := (ck_s h).2
    have h := (ck_s h).2
    obtain ⟨q1, h0, h⟩ := Option.bind_eq_some_iff.mp h
    have hF := hF.trans ((fr_X3_hold h0).sub (fr_ix [0, 1, 2, 3, 4, 5, 6, 7, 8, 9, 12, 13, 14, 10, 11, 15, 16, 17, 18] rfl))
    obtain ⟨q2, h0, h⟩ := Option.bind_eq_some_iff.mp h
    have hF := hF.trans ((fr_X3_decided h0).sub (fun _ hq => nomatch hq))
    obtain ⟨q3, h0, h⟩ := Option.bind_eq_some_iff.mp h
    have hF := hF.trans ((fr_X3_decided h0).sub (fun _ hq => nomatch hq))
    rcases fr_if h with h | h
    · obtain ⟨y4, h⟩ := fr_bn h
      obtain ⟨y5, h⟩ := fr_bn h
      obtain rfl := Option.some.inj h
      exact hF
    · obtain ⟨y6, h⟩ := fr_bn h
      obtain ⟨y7, h⟩ := fr_bn h
      obtain rfl := Option.some.inj h
      exact hF
theorem fr_X4_needed   {m : Mem} {t : Int32 × Mem} (h : f_X4_needed m = some t) : Fr (l_X4_needed) m ((fun t => t.2) t) := by
  have hF : Fr (l_X4_needed) m m := Fr.rf
  have hW := fr_wh (l := l_X4_needed) (f := fun s => s.2.2) (k := (fun t => t.2)) (fun s t h => fr_X4_needed_L4 h) h
  exact hF.trans hW
theorem fr_X4_hold_L107  {s : Int32 × Mem} {t : (Int32 × Mem) ⊕ (Int32 × Mem)} (h : f_X4_hold_L107 s = some t) : Fr (l_X4_hold) s.2 ((mS (fun s => s.2) (fun t => t.2)) t) := by
  have hF : Fr (l_X4_hold) s.2 s.2 := Fr.rf
  rcases fr_if h with h | h
  · refine fr_up h (fun r h => ?_)
    obtain ⟨q6, h0, h⟩ := Option.bind_eq_some_iff.mp h
    have hF := hF.trans ((fr_X4_summarize h0).sub (fr_ix [1] rfl))
    obtain ⟨q7, h0, h⟩ := Option.bind_eq_some_iff.mp h
    have hF := hF.trans ((fr_X4_needed h0).sub (fr_ix [0, 15, 16, 17, 18, 19, 20, 21, 22, 23, 24, 25, 32, 33, 34, 40, 41, 42, 43] rfl))
    have h := (ck_s h).2
    obtain ⟨m8, hF, h⟩ := fr_stI (fr_at 1 rfl) hF h
    obtain rfl := Option.some.inj h
    exact hF
  · obtain ⟨q9, h0, h⟩ := Option.bind_eq_some_iff.mp h
    have hF := hF.trans ((fr_X3_minutesThere h0).sub (fun _ hq => nomatch hq))
    have h := (ck_s h).2
    obtain ⟨m10, hF, h⟩ := fr_stI (fr_at 3 rfl) hF h
    obtain ⟨y11, h⟩ := fr_bn h
    obtain rfl := Option.some.inj h
    exact hF
theorem fr_X4_hold_L70  {s : Int32 × Mem} {t : (Int32 × Mem) ⊕ (Int32 × Mem)} (h : f_X4_hold_L70 s = some t) : Fr (l_X4_hold) s.2 ((mS (fun s => s.2) (fun t => t.2)) t) := by
  have hF : Fr (l_X4_hold) s.2 s.2 := Fr.rf
  rcases fr_if h with h | h
  · refine fr_up h (fun r h => ?_)
    have hW := fr_wh (l := l_X4_hold) (f := fun s => s.2) (k := (fun t => t.2)) (fun s t h => fr_X4_hold_L107 h) h
    exact hF.trans hW
  · obtain ⟨q12, h0, h⟩ := Option.bind_eq_some_iff.mp h
    have hF := hF.trans ((fr_X6_sum h0).sub (fun _ hq => nomatch hq))
    have h := (ck_s h).2
    obtain ⟨m13, hF, h⟩ := fr_stI (fr_at 2 rfl) hF h
    obtain ⟨y14, h⟩ := fr_bn h
    obtain rfl := Option.some.inj h
    exact hF
theorem fr_X4_hold   {m : Mem} {t : Int32 × Mem} (h : f_X4_hold m = some t) : Fr (l_X4_hold) m ((fun t => t.2) t) := by
  have hF : Fr (l_X4_hold) m m := Fr.rf
  have h := (ck_s h).2
  have h := (ck_s h).2
  obtain ⟨q1, h0, h⟩ := Option.bind_eq_some_iff.mp h
  have hF := hF.trans ((fr_X3_hold h0).sub (fr_ix [0, 4, 5, 6, 7, 8, 9, 10, 11, 12, 29, 30, 31, 13, 14, 36, 37, 38, 39] rfl))
  obtain ⟨m2, hF, h⟩ := fr_stI (fr_at 26 rfl) hF h
  obtain ⟨m3, hF, h⟩ := fr_stI (fr_at 27 rfl) hF h
  obtain ⟨m4, hF, h⟩ := fr_stI (fr_at 28 rfl) hF h
  obtain ⟨m5, hF, h⟩ := fr_stI (fr_at 35 rfl) hF h
  have hW := fr_wh (l := l_X4_hold) (f := fun s => s.2) (k := (fun t => t.2)) (fun s t h => fr_X4_hold_L70 h) h
  exact hF.trans hW
theorem fr_X4_ofPerson  {p1 : Int32} {p2 : Int32} {m : Mem} {t : Int32 × Mem} (h : f_X4_ofPerson p1 p2 m = some t) : Fr (l_X4_ofPerson) m ((fun t => t.2) t) := by
  have hF : Fr (l_X4_ofPerson) m m := Fr.rf
  rcases fr_sw h with h | h | h | h
  · rcases fr_if h with h | h
    · have h := (ck_s h).2
      have h := (dv_s h).2
      obtain rfl := Option.some.inj h
      exact hF
    · obtain rfl := Option.some.inj h
      exact hF
  · have h := (ck_s h).2
    obtain rfl := Option.some.inj h
    exact hF
  · have h := (ck_s h).2
    obtain rfl := Option.some.inj h
    exact hF
  · have h := (ck_s h).2
    obtain rfl := Option.some.inj h
    exact hF
theorem fr_X8_asTheyCame_L2 {ag : Nat} {s : Int32 × Mem} {t : (Int32 × Mem) ⊕ Mem} (h : f_X8_asTheyCame_L2 ag s = some t) : Fr (l_X8_asTheyCame ag) s.2 ((mS (fun s => s.2) (fun t => t)) t) := by
  have hF : Fr (l_X8_asTheyCame ag) s.2 s.2 := Fr.rf
  rcases fr_if h with h | h
  · refine fr_up h (fun r h => ?_)
    obtain rfl := Option.some.inj h
    exact hF
  · have h := (ck_s h).2
    obtain ⟨m1, hF, h⟩ := fr_stI (fr_at 0 rfl) hF h
    obtain ⟨y2, h⟩ := fr_bn h
    obtain rfl := Option.some.inj h
    exact hF
theorem fr_X8_asTheyCame {ag : Nat}  {m : Mem} {t : Mem} (h : f_X8_asTheyCame ag m = some t) : Fr (l_X8_asTheyCame ag) m ((fun t => t) t) := by
  have hF : Fr (l_X8_asTheyCame ag) m m := Fr.rf
  have hW := fr_wh (l := l_X8_asTheyCame ag) (f := fun s => s.2) (k := (fun t => t)) (fun s t h => fr_X8_asTheyCame_L2 h) h
  exact hF.trans hW
theorem fr_X4_takesOrder_L28  {s : Int32 × Int32 × Int32 × Mem} {t : (Int32 × Int32 × Int32 × Mem) ⊕ (Int32 × Mem)} (h : f_X4_takesOrder_L28 s = some t) : Fr (l_X4_takesOrder) s.2.2.2 ((mS (fun s => s.2.2.2) (fun t => t.2)) t) := by
  have hF : Fr (l_X4_takesOrder) s.2.2.2 s.2.2.2 := Fr.rf
  rcases fr_if h with h | h
  · refine fr_up h (fun r h => ?_)
    rcases fr_if h with h | h
    · have h := (bz_s h).2
      obtain rfl := Option.some.inj h
      exact hF
    · have h := (bz_s h).2
      obtain rfl := Option.some.inj h
      exact hF
  · obtain ⟨y2, h⟩ := fr_bn h
    rcases fr_if h with h | h
    · refine fr_up h (fun r h => ?_)
      have h := (bz_s h).2
      obtain rfl := Option.some.inj h
      exact hF
    · rcases fr_if h with h | h
      · refine fr_up h (fun r h => ?_)
        have h := (bz_s h).2
        obtain rfl := Option.some.inj h
        exact hF
      · rcases fr_if h with h | h
        · obtain ⟨y3, h⟩ := fr_bn h
          have h := (ck_s h).2
          obtain ⟨m4, hF, h⟩ := fr_stI (fr_at 0 rfl) hF h
          obtain ⟨y5, h⟩ := fr_bn h
          obtain ⟨y6, h⟩ := fr_bn h
          obtain rfl := Option.some.inj h
          exact hF
        · refine fr_up h (fun r h => ?_)
          have h := (bz_s h).2
          obtain rfl := Option.some.inj h
          exact hF
theorem fr_X4_takesOrder  {p1 : Int32} {m : Mem} {t : Int32 × Mem} (h : f_X4_takesOrder p1 m = some t) : Fr (l_X4_takesOrder) m ((fun t => t.2) t) := by
  have hF : Fr (l_X4_takesOrder) m m := Fr.rf
  rcases fr_if h with h | h
  · obtain ⟨y1, h⟩ := fr_bn h
    have hW := fr_wh (l := l_X4_takesOrder) (f := fun s => s.2.2.2) (k := (fun t => t.2)) (fun s t h => fr_X4_takesOrder_L28 h) h
    exact hF.trans hW
  · obtain ⟨q7, h0, h⟩ := Option.bind_eq_some_iff.mp h
    have hF := hF.trans ((fr_X8_asTheyCame h0).sub (fr_ix [0] rfl))
    have h := (bz_s h).2
    obtain rfl := Option.some.inj h
    exact hF
theorem fr_X5_hasRun {sf : Nat} {p1 : Int32} {p2 : Int32} {m : Mem} {t : Int32 × Mem} (h : f_X5_hasRun sf p1 p2 m = some t) : Fr (l_X5_hasRun sf) m ((fun t => t.2) t) := by
  have hF : Fr (l_X5_hasRun sf) m m := Fr.rf
  rcases fr_if h with h | h
  · have h := (bz_s h).2
    obtain rfl := Option.some.inj h
    exact hF
  · rcases fr_if h with h | h
    · have h := (bz_s h).2
      obtain rfl := Option.some.inj h
      exact hF
    · rcases fr_if h with h | h
      · have h := (bz_s h).2
        obtain rfl := Option.some.inj h
        exact hF
      · rcases fr_if h with h | h
        · have h := (bz_s h).2
          obtain rfl := Option.some.inj h
          exact hF
        · have h := (bz_s h).2
          obtain rfl := Option.some.inj h
          exact hF
theorem fr_X5_holdBody {sf : Nat} {p1 : Int32} {m : Mem} {t : Mem} (h : f_X5_holdBody sf p1 m = some t) : Fr (l_X5_holdBody sf) m ((fun t => t) t) := by
  have hF : Fr (l_X5_holdBody sf) m m := Fr.rf
  rcases fr_if h with h | h
  · obtain ⟨m1, hF, h⟩ := fr_stI (fr_at 0 rfl) hF h
    obtain ⟨m2, hF, h⟩ := fr_stI (fr_at 1 rfl) hF h
    obtain ⟨m3, hF, h⟩ := fr_stI (fr_at 2 rfl) hF h
    obtain rfl := Option.some.inj h
    exact hF
  · obtain ⟨m4, hF, h⟩ := fr_stI (fr_at 0 rfl) hF h
    obtain ⟨m5, hF, h⟩ := fr_stI (fr_at 1 rfl) hF h
    obtain ⟨m6, hF, h⟩ := fr_stI (fr_at 2 rfl) hF h
    obtain rfl := Option.some.inj h
    exact hF
theorem fr_X5_holdRow {sf : Nat} {p1 : Int32} {p2 : Int32} {m : Mem} {t : Mem} (h : f_X5_holdRow sf p1 p2 m = some t) : Fr (l_X5_holdRow sf) m ((fun t => t) t) := by
  have hF : Fr (l_X5_holdRow sf) m m := Fr.rf
  obtain ⟨m1, hF, h⟩ := fr_stI (fr_at 1 rfl) hF h
  obtain ⟨m2, hF, h⟩ := fr_stI (fr_at 2 rfl) hF h
  obtain ⟨m3, hF, h⟩ := fr_stI (fr_at 3 rfl) hF h
  obtain ⟨q4, h0, h⟩ := Option.bind_eq_some_iff.mp h
  have hF := hF.trans ((fr_J7_fill_d0a16 h0).sub (fr_ix [0] rfl))
  obtain rfl := Option.some.inj h
  exact hF
theorem fr_X5_refusalAt {sf : Nat} {p1 : Int32} {m : Mem} {t : Int32 × Mem} (h : f_X5_refusalAt sf p1 m = some t) : Fr (l_X5_refusalAt sf) m ((fun t => t.2) t) := by
  have hF : Fr (l_X5_refusalAt sf) m m := Fr.rf
  rcases fr_if h with h | h
  · rcases fr_if h with h | h
    · rcases fr_if h with h | h
      · obtain rfl := Option.some.inj h
        exact hF
      · rcases fr_if h with h | h
        · obtain rfl := Option.some.inj h
          exact hF
        · obtain rfl := Option.some.inj h
          exact hF
    · obtain rfl := Option.some.inj h
      exact hF
  · obtain rfl := Option.some.inj h
    exact hF
theorem fr_X5_store {sf : Nat} {p1 : Int32} {p2 : Int64} {m : Mem} {t : Mem} (h : f_X5_store sf p1 p2 m = some t) : Fr (l_X5_store sf) m ((fun t => t) t) := by
  have hF : Fr (l_X5_store sf) m m := Fr.rf
  rcases fr_sw h with h | h | h | h | h
  · have h := (ck_s h).2
    obtain ⟨m1, hF, h⟩ := fr_stJ (fr_at 0 rfl) hF h
    obtain rfl := Option.some.inj h
    exact hF
  · have h := (ck_s h).2
    obtain ⟨m2, hF, h⟩ := fr_stJ (fr_at 0 rfl) hF h
    obtain rfl := Option.some.inj h
    exact hF
  · have h := (ck_s h).2
    obtain ⟨m3, hF, h⟩ := fr_stJ (fr_at 0 rfl) hF h
    obtain rfl := Option.some.inj h
    exact hF
  · have h := (ck_s h).2
    obtain ⟨m4, hF, h⟩ := fr_stJ (fr_at 0 rfl) hF h
    obtain rfl := Option.some.inj h
    exact hF
  · rcases fr_if h with h | h
    · have h := (ck_s h).2
      obtain ⟨m5, hF, h⟩ := fr_stJ (fr_at 0 rfl) hF h
      obtain rfl := Option.some.inj h
      exact hF
    · have h := (ck_s h).2
      obtain ⟨m6, hF, h⟩ := fr_stJ (fr_at 0 rfl) hF h
      obtain rfl := Option.some.inj h
      exact hF
theorem fr_X6_addCard_L48  {s : Int32 × Int32 × Mem} {t : (Int32 × Int32 × Mem) ⊕ (Int32 × Mem)} (h : f_X6_addCard_L48 s = some t) : Fr (l_X6_addCard) s.2.2 ((mS (fun s => s.2.2) (fun t => t.2)) t) := by
  have hF : Fr (l_X6_addCard) s.2.2 s.2.2 := Fr.rf
  rcases fr_if h with h | h
  · refine fr_up h (fun r h => ?_)
    obtain ⟨m5, hF, h⟩ := fr_stI (fr_at 6 rfl) hF h
    obtain ⟨m6, hF, h⟩ := fr_stI (fr_at 5 rfl) hF h
    obtain rfl := Option.some.inj h
    exact hF
  · have h := (ck_s h).2
    have h := (ck_s h).2
    obtain ⟨m7, hF, h⟩ := fr_stI (fr_at 3 rfl) hF h
    obtain ⟨y8, h⟩ := fr_bn h
    obtain rfl := Option.some.inj h
    exact hF
theorem fr_X6_addCard  {p1 : Int32} {p2 : Int32} {p3 : Int32} {m : Mem} {t : Int32 × Mem} (h : f_X6_addCard p1 p2 p3 m = some t) : Fr (l_X6_addCard) m ((fun t => t.2) t) := by
  have hF : Fr (l_X6_addCard) m m := Fr.rf
  have h := (ck_s h).2
  obtain ⟨m1, hF, h⟩ := fr_stI (fr_at 0 rfl) hF h
  have h := (ck_s h).2
  obtain ⟨m2, hF, h⟩ := fr_stI (fr_at 1 rfl) hF h
  have h := (ck_s h).2
  obtain ⟨m3, hF, h⟩ := fr_stI (fr_at 2 rfl) hF h
  have h := (ck_s h).2
  have h := (ck_s h).2
  obtain ⟨m4, hF, h⟩ := fr_stI (fr_at 4 rfl) hF h
  have hW := fr_wh (l := l_X6_addCard) (f := fun s => s.2.2) (k := (fun t => t.2)) (fun s t h => fr_X6_addCard_L48 h) h
  exact hF.trans hW
theorem fr_X6_isCard  {p1 : Int32} {p2 : Int32} {p3 : Int32} {m : Mem} {t : Int32 × Mem} (h : f_X6_isCard p1 p2 p3 m = some t) : Fr (l_X6_isCard) m ((fun t => t.2) t) := by
  have hF : Fr (l_X6_isCard) m m := Fr.rf
  rcases fr_if h with h | h
  · have h := (bz_s h).2
    obtain rfl := Option.some.inj h
    exact hF
  · rcases fr_if h with h | h
    · have h := (bz_s h).2
      obtain rfl := Option.some.inj h
      exact hF
    · rcases fr_if h with h | h
      · have h := (bz_s h).2
        obtain rfl := Option.some.inj h
        exact hF
      · rcases fr_if h with h | h
        · have h := (bz_s h).2
          obtain rfl := Option.some.inj h
          exact hF
        · rcases fr_if h with h | h
          · have h := (bz_s h).2
            obtain rfl := Option.some.inj h
            exact hF
          · rcases fr_if h with h | h
            · have h := (bz_s h).2
              obtain rfl := Option.some.inj h
              exact hF
            · have h := (bz_s h).2
              obtain rfl := Option.some.inj h
              exact hF
theorem fr_X6_addCards_L3 {sf : Nat} {s : Int32 × Int32 × Int32 × Mem} {t : (Int32 × Int32 × Int32 × Mem) ⊕ (Int32 × Mem)} (h : f_X6_addCards_L3 sf s = some t) : Fr (l_X6_addCards sf) s.2.2.2 ((mS (fun s => s.2.2.2) (fun t => t.2)) t) := by
  have hF : Fr (l_X6_addCards sf) s.2.2.2 s.2.2.2 := Fr.rf
  rcases fr_if h with h | h
  · refine fr_up h (fun r h => ?_)
    obtain rfl := Option.some.inj h
    exact hF
  · rcases fr_if h with h | h
    · refine fr_up h (fun r h => ?_)
      obtain rfl := Option.some.inj h
      exact hF
    · obtain ⟨q1, h0, h⟩ := Option.bind_eq_some_iff.mp h
      have hF := hF.trans ((fr_X5_hasRun h0).sub (fun _ hq => nomatch hq))
      rcases fr_if h with h | h
      · refine fr_up h (fun r h => ?_)
        obtain rfl := Option.some.inj h
        exact hF
      · obtain ⟨y2, h⟩ := fr_bn h
        have h := (ck_s h).2
        obtain ⟨y3, h⟩ := fr_bn h
        have h := (ck_s h).2
        obtain ⟨y4, h⟩ := fr_bn h
        have h := (ck_s h).2
        obtain ⟨y5, h⟩ := fr_bn h
        obtain ⟨q6, h0, h⟩ := Option.bind_eq_some_iff.mp h
        have hF := hF.trans ((fr_X6_isCard h0).sub (fun _ hq => nomatch hq))
        rcases fr_if h with h | h
        · obtain ⟨q7, h0, h⟩ := Option.bind_eq_some_iff.mp h
          have hF := hF.trans ((fr_X6_addCard h0).sub (fr_ix [0, 1, 2, 3, 4, 5, 6] rfl))
          obtain ⟨y8, h⟩ := fr_bn h
          obtain rfl := Option.some.inj h
          exact hF
        · refine fr_up h (fun r h => ?_)
          obtain rfl := Option.some.inj h
          exact hF
theorem fr_X6_addCards {sf : Nat} {p2 : Int32} {p3 : Int32} {m : Mem} {t : Int32 × Mem} (h : f_X6_addCards sf p2 p3 m = some t) : Fr (l_X6_addCards sf) m ((fun t => t.2) t) := by
  have hF : Fr (l_X6_addCards sf) m m := Fr.rf
  have hW := fr_wh (l := l_X6_addCards sf) (f := fun s => s.2.2.2) (k := (fun t => t.2)) (fun s t h => fr_X6_addCards_L3 h) h
  exact hF.trans hW
theorem fr_X6_addPerson  {p1 : Int32} {p2 : Int32} {m : Mem} {t : Int32 × Mem} (h : f_X6_addPerson p1 p2 m = some t) : Fr (l_X6_addPerson) m ((fun t => t.2) t) := by
  have hF : Fr (l_X6_addPerson) m m := Fr.rf
  have h := (ck_s h).2
  obtain ⟨m1, hF, h⟩ := fr_stI (fr_at 0 rfl) hF h
  have h := (ck_s h).2
  obtain ⟨m2, hF, h⟩ := fr_stI (fr_at 1 rfl) hF h
  have h := (ck_s h).2
  obtain ⟨m3, hF, h⟩ := fr_stI (fr_at 2 rfl) hF h
  have h := (ck_s h).2
  obtain ⟨m4, hF, h⟩ := fr_stI (fr_at 3 rfl) hF h
  obtain ⟨m5, hF, h⟩ := fr_stI (fr_at 5 rfl) hF h
  obtain ⟨m6, hF, h⟩ := fr_stI (fr_at 4 rfl) hF h
  obtain rfl := Option.some.inj h
  exact hF
theorem fr_X6_addThing  {p1 : Int32} {p2 : Int32} {m : Mem} {t : Int32 × Mem} (h : f_X6_addThing p1 p2 m = some t) : Fr (l_X6_addThing) m ((fun t => t.2) t) := by
  have hF : Fr (l_X6_addThing) m m := Fr.rf
  have h := (ck_s h).2
  obtain ⟨m1, hF, h⟩ := fr_stI (fr_at 0 rfl) hF h
  have h := (ck_s h).2
  obtain ⟨m2, hF, h⟩ := fr_stI (fr_at 1 rfl) hF h
  obtain ⟨m3, hF, h⟩ := fr_stI (fr_at 3 rfl) hF h
  obtain ⟨m4, hF, h⟩ := fr_stI (fr_at 2 rfl) hF h
  obtain rfl := Option.some.inj h
  exact hF
theorem fr_X6_mendable  {p1 : Int32} {m : Mem} {t : Nat × Mem} (h : f_X6_mendable p1 m = some t) : Fr (l_X6_mendable) m ((fun t => t.2) t) := by
  have hF : Fr (l_X6_mendable) m m := Fr.rf
  rcases fr_sw h with h | h | h | h | h
  · obtain rfl := Option.some.inj h
    exact hF
  · obtain rfl := Option.some.inj h
    exact hF
  · obtain rfl := Option.some.inj h
    exact hF
  · obtain rfl := Option.some.inj h
    exact hF
  · obtain rfl := Option.some.inj h
    exact hF
theorem fr_X6_isBare   {m : Mem} {t : Int32 × Mem} (h : f_X6_isBare m = some t) : Fr (l_X6_isBare) m ((fun t => t.2) t) := by
  have hF : Fr (l_X6_isBare) m m := Fr.rf
  rcases fr_if h with h | h
  · have h := (bz_s h).2
    obtain rfl := Option.some.inj h
    exact hF
  · rcases fr_if h with h | h
    · have h := (bz_s h).2
      obtain rfl := Option.some.inj h
      exact hF
    · have h := (bz_s h).2
      obtain rfl := Option.some.inj h
      exact hF
theorem fr_X6_ofCard  {p1 : Int32} {p2 : Int32} {m : Mem} {t : Int32 × Mem} (h : f_X6_ofCard p1 p2 m = some t) : Fr (l_X6_ofCard) m ((fun t => t.2) t) := by
  have hF : Fr (l_X6_ofCard) m m := Fr.rf
  rcases fr_sw h with h | h | h
  · have h := (ck_s h).2
    obtain rfl := Option.some.inj h
    exact hF
  · have h := (ck_s h).2
    obtain rfl := Option.some.inj h
    exact hF
  · have h := (ck_s h).2
    obtain rfl := Option.some.inj h
    exact hF
theorem fr_X6_ofPerson  {p1 : Int32} {p2 : Int32} {m : Mem} {t : Int32 × Mem} (h : f_X6_ofPerson p1 p2 m = some t) : Fr (l_X6_ofPerson) m ((fun t => t.2) t) := by
  have hF : Fr (l_X6_ofPerson) m m := Fr.rf
  rcases fr_sw h with h | h | h | h
  · have h := (ck_s h).2
    obtain rfl := Option.some.inj h
    exact hF
  · have h := (ck_s h).2
    obtain rfl := Option.some.inj h
    exact hF
  · have h := (ck_s h).2
    obtain rfl := Option.some.inj h
    exact hF
  · have h := (ck_s h).2
    obtain rfl := Option.some.inj h
    exact hF
theorem fr_X7_compare_J75  {v2 : Int32} {v3 : Int32} {v4 : Int32} {v5 : Int32}  {m : Mem} {t : Mem} (h : f_X7_compare_J75 v2 v3 v4 v5 m = some t) : Fr (l_X7_compare) m ((fun t => t) t) := by
  have hF : Fr (l_X7_compare) m m := Fr.rf
  have h := (ck_s h).2
  obtain ⟨m5, hF, h⟩ := fr_stI (fr_at 0 rfl) hF h
  have h := (ck_s h).2
  obtain ⟨m6, hF, h⟩ := fr_stI (fr_at 0 rfl) hF h
  have h := (ck_s h).2
  obtain ⟨m7, hF, h⟩ := fr_stI (fr_at 0 rfl) hF h
  obtain rfl := Option.some.inj h
  exact hF
theorem fr_X7_compare  {p1 : Int32} {p2 : Int32} {m : Mem} {t : Mem} (h : f_X7_compare p1 p2 m = some t) : Fr (l_X7_compare) m ((fun t => t) t) := by
  have hF : Fr (l_X7_compare) m m := Fr.rf
  obtain ⟨y1, h⟩ := fr_bn h
  obtain ⟨q2, h0, h⟩ := Option.bind_eq_some_iff.mp h
  have hF := hF.trans ((fr_X3_wrong h0).sub (fun _ hq => nomatch hq))
  obtain ⟨q3, h0, h⟩ := Option.bind_eq_some_iff.mp h
  have hF := hF.trans ((fr_J6_bitCount_0f7a4 h0).sub (fun _ hq => nomatch hq))
  obtain ⟨q4, h0, h⟩ := Option.bind_eq_some_iff.mp h
  have hF := hF.trans ((fr_X3_cost h0).sub (fun _ hq => nomatch hq))
  have h := (ck_s h).2
  rcases fr_if h with h | h
  · exact hF.trans (fr_X7_compare_J75 h)
  · have h := (ck_s h).2
    rcases fr_if h with h | h
    · exact hF.trans (fr_X7_compare_J75 h)
    · have h := (ck_s h).2
      rcases fr_if h with h | h
      · obtain rfl := Option.some.inj h
        exact hF
      · have h := (ck_s h).2
        rcases fr_if h with h | h
        · obtain rfl := Option.some.inj h
          exact hF
        · exact hF.trans (fr_X7_compare_J75 h)
theorem fr_X7_tryRules_L2  {s : Int32 × Mem} {t : (Int32 × Mem) ⊕ Mem} (h : f_X7_tryRules_L2 s = some t) : Fr (l_X7_tryRules) s.2 ((mS (fun s => s.2) (fun t => t)) t) := by
  have hF : Fr (l_X7_tryRules) s.2 s.2 := Fr.rf
  rcases fr_if h with h | h
  · refine fr_up h (fun r h => ?_)
    obtain rfl := Option.some.inj h
    exact hF
  · have h := (ck_s h).2
    obtain ⟨q1, h0, h⟩ := Option.bind_eq_some_iff.mp h
    have hF := hF.trans ((fr_X3_hold h0).sub (fr_ix [0, 2, 3, 4, 5, 6, 7, 8, 9, 10, 13, 14, 15, 11, 12, 16, 17, 18, 19] rfl))
    obtain ⟨q2, h0, h⟩ := Option.bind_eq_some_iff.mp h
    have hF := hF.trans ((fr_X7_compare h0).sub (fr_ix [1] rfl))
    obtain ⟨y3, h⟩ := fr_bn h
    obtain rfl := Option.some.inj h
    exact hF
theorem fr_X7_tryRules   {m : Mem} {t : Mem} (h : f_X7_tryRules m = some t) : Fr (l_X7_tryRules) m ((fun t => t) t) := by
  have hF : Fr (l_X7_tryRules) m m := Fr.rf
  have hW := fr_wh (l := l_X7_tryRules) (f := fun s => s.2) (k := (fun t => t)) (fun s t h => fr_X7_tryRules_L2 h) h
  exact hF.trans hW
theorem fr_X7_digits_L4  {s : Int32 × Int32 × Mem} {t : (Int32 × Int32 × Mem) ⊕ (Int32 × Mem)} (h : f_X7_digits_L4 s = some t) : Fr (l_X7_digits) s.2.2 ((mS (fun s => s.2.2) (fun t => t.2)) t) := by
  have hF : Fr (l_X7_digits) s.2.2 s.2.2 := Fr.rf
  rcases fr_if h with h | h
  · refine fr_up h (fun r h => ?_)
    obtain rfl := Option.some.inj h
    exact hF
  · have h := (ck_s h).2
    obtain ⟨y1, h⟩ := fr_bn h
    obtain ⟨y2, h⟩ := fr_bn h
    obtain rfl := Option.some.inj h
    exact hF
theorem fr_X7_digits   {m : Mem} {t : Int32 × Mem} (h : f_X7_digits m = some t) : Fr (l_X7_digits) m ((fun t => t.2) t) := by
  have hF : Fr (l_X7_digits) m m := Fr.rf
  have hW := fr_wh (l := l_X7_digits) (f := fun s => s.2.2) (k := (fun t => t.2)) (fun s t h => fr_X7_digits_L4 h) h
  exact hF.trans hW
theorem fr_X7_swap  {p1 : Int32} {p2 : Int32} {m : Mem} {t : Mem} (h : f_X7_swap p1 p2 m = some t) : Fr (l_X7_swap) m ((fun t => t) t) := by
  have hF : Fr (l_X7_swap) m m := Fr.rf
  have h := (ck_s h).2
  obtain ⟨y1, h⟩ := fr_bn h
  have h := (ck_s h).2
  have h := (ck_s h).2
  obtain ⟨m2, hF, h⟩ := fr_stI (fr_at 0 rfl) hF h
  have h := (ck_s h).2
  obtain ⟨m3, hF, h⟩ := fr_stI (fr_at 0 rfl) hF h
  obtain rfl := Option.some.inj h
  exact hF
