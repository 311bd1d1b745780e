section
variable {g : Gx} {d : Nat} {mi : Mi} {pc pc' : Nat} {L : List (Option Value)} {st : List Value} {kc ks : Nat} {sh : Sh} {u : UI} {w : UL} {r : UR} {Z : En}
theorem wp_iadd {x y : Int32} (hd : decode (miC mi) pc = .ok (.iadd, 1)) (hp : pc + 1 = pc') (k : Wp g d mi pc' L (.int (x + y) :: st) kc ks sh u w r Z) : Wp g d mi pc L (.int y :: .int x :: st) kc ks sh u w r Z := by
  subst hp
  exact wp_pure (fun p e R s m args below meth c F H locs ls Z hl kk => lv_iadd F.1.1 F.1.2.1 hd kk) k
theorem wp_isub {x y : Int32} (hd : decode (miC mi) pc = .ok (.isub, 1)) (hp : pc + 1 = pc') (k : Wp g d mi pc' L (.int (x - y) :: st) kc ks sh u w r Z) : Wp g d mi pc L (.int y :: .int x :: st) kc ks sh u w r Z := by
  subst hp
  exact wp_pure (fun p e R s m args below meth c F H locs ls Z hl kk => lv_isub F.1.1 F.1.2.1 hd kk) k
theorem wp_imul {x y : Int32} (hd : decode (miC mi) pc = .ok (.imul, 1)) (hp : pc + 1 = pc') (k : Wp g d mi pc' L (.int (x * y) :: st) kc ks sh u w r Z) : Wp g d mi pc L (.int y :: .int x :: st) kc ks sh u w r Z := by
  subst hp
  exact wp_pure (fun p e R s m args below meth c F H locs ls Z hl kk => lv_imul F.1.1 F.1.2.1 hd kk) k
theorem wp_iand {x y : Int32} (hd : decode (miC mi) pc = .ok (.iand, 1)) (hp : pc + 1 = pc') (k : Wp g d mi pc' L (.int (x &&& y) :: st) kc ks sh u w r Z) : Wp g d mi pc L (.int y :: .int x :: st) kc ks sh u w r Z := by
  subst hp
  exact wp_pure (fun p e R s m args below meth c F H locs ls Z hl kk => lv_iand F.1.1 F.1.2.1 hd kk) k
theorem wp_ior {x y : Int32} (hd : decode (miC mi) pc = .ok (.ior, 1)) (hp : pc + 1 = pc') (k : Wp g d mi pc' L (.int (x ||| y) :: st) kc ks sh u w r Z) : Wp g d mi pc L (.int y :: .int x :: st) kc ks sh u w r Z := by
  subst hp
  exact wp_pure (fun p e R s m args below meth c F H locs ls Z hl kk => lv_ior F.1.1 F.1.2.1 hd kk) k
theorem wp_ixor {x y : Int32} (hd : decode (miC mi) pc = .ok (.ixor, 1)) (hp : pc + 1 = pc') (k : Wp g d mi pc' L (.int (x ^^^ y) :: st) kc ks sh u w r Z) : Wp g d mi pc L (.int y :: .int x :: st) kc ks sh u w r Z := by
  subst hp
  exact wp_pure (fun p e R s m args below meth c F H locs ls Z hl kk => lv_ixor F.1.1 F.1.2.1 hd kk) k
theorem wp_ishl {x y : Int32} (hd : decode (miC mi) pc = .ok (.ishl, 1)) (hp : pc + 1 = pc') (k : Wp g d mi pc' L (.int (x <<< (y &&& 31)) :: st) kc ks sh u w r Z) : Wp g d mi pc L (.int y :: .int x :: st) kc ks sh u w r Z := by
  subst hp
  exact wp_pure (fun p e R s m args below meth c F H locs ls Z hl kk => lv_ishl F.1.1 F.1.2.1 hd kk) k
theorem wp_ishr {x y : Int32} (hd : decode (miC mi) pc = .ok (.ishr, 1)) (hp : pc + 1 = pc') (k : Wp g d mi pc' L (.int (x >>> (y &&& 31)) :: st) kc ks sh u w r Z) : Wp g d mi pc L (.int y :: .int x :: st) kc ks sh u w r Z := by
  subst hp
  exact wp_pure (fun p e R s m args below meth c F H locs ls Z hl kk => lv_ishr F.1.1 F.1.2.1 hd kk) k
theorem wp_idiv {x y : Int32} (hd : decode (miC mi) pc = .ok (.idiv, 1)) (hne : ¬ y = 0) (hp : pc + 1 = pc') (k : Wp g d mi pc' L (.int (x / y) :: st) kc ks sh u w r Z) : Wp g d mi pc L (.int y :: .int x :: st) kc ks sh u w r Z := by
  subst hp
  exact wp_pure (fun p e R s m args below meth c F H locs ls Z hl kk => lv_idiv F.1.1 F.1.2.1 hd hne kk) k
theorem wp_irem {x y : Int32} (hd : decode (miC mi) pc = .ok (.irem, 1)) (hne : ¬ y = 0) (hp : pc + 1 = pc') (k : Wp g d mi pc' L (.int (x - x / y * y) :: st) kc ks sh u w r Z) : Wp g d mi pc L (.int y :: .int x :: st) kc ks sh u w r Z := by
  subst hp
  exact wp_pure (fun p e R s m args below meth c F H locs ls Z hl kk => lv_irem F.1.1 F.1.2.1 hd hne kk) k
theorem wp_ineg {x : Int32} (hd : decode (miC mi) pc = .ok (.ineg, 1)) (hp : pc + 1 = pc') (k : Wp g d mi pc' L (.int (-x) :: st) kc ks sh u w r Z) : Wp g d mi pc L (.int x :: st) kc ks sh u w r Z := by
  subst hp
  exact wp_pure (fun p e R s m args below meth c F H locs ls Z hl kk => lv_ineg F.1.1 F.1.2.1 hd kk) k
theorem wp_land {x y : Int64} (hd : decode (miC mi) pc = .ok (.land, 1)) (hp : pc + 1 = pc') (k : Wp g d mi pc' L (.long (x &&& y) :: st) kc ks sh u w r Z) : Wp g d mi pc L (.long y :: .long x :: st) kc ks sh u w r Z := by
  subst hp
  exact wp_pure (fun p e R s m args below meth c F H locs ls Z hl kk => lv_land F.1.1 F.1.2.1 hd kk) k
theorem wp_lor {x y : Int64} (hd : decode (miC mi) pc = .ok (.lor, 1)) (hp : pc + 1 = pc') (k : Wp g d mi pc' L (.long (x ||| y) :: st) kc ks sh u w r Z) : Wp g d mi pc L (.long y :: .long x :: st) kc ks sh u w r Z := by
  subst hp
  exact wp_pure (fun p e R s m args below meth c F H locs ls Z hl kk => lv_lor F.1.1 F.1.2.1 hd kk) k
theorem wp_iushr {x y : Int32} (hd : decode (miC mi) pc = .ok (.iushr, 1)) (hp : pc + 1 = pc') (k : Wp g d mi pc' L (.int ((x.toUInt32 >>> (y.toUInt32 &&& Int32.toUInt32 31)).toInt32) :: st) kc ks sh u w r Z) : Wp g d mi pc L (.int y :: .int x :: st) kc ks sh u w r Z := by
  subst hp
  exact wp_pure (fun p e R s m args below meth c F H locs ls Z hl kk => lv_iushr F.1.1 F.1.2.1 hd rfl kk) k
theorem wp_lshl {x : Int64} {y : Int32} (hd : decode (miC mi) pc = .ok (.lshl, 1)) (hp : pc + 1 = pc') (k : Wp g d mi pc' L (.long (x <<< (y.toInt64 &&& 63)) :: st) kc ks sh u w r Z) : Wp g d mi pc L (.int y :: .long x :: st) kc ks sh u w r Z := by
  subst hp
  exact wp_pure (fun p e R s m args below meth c F H locs ls Z hl kk => lv_lshl F.1.1 F.1.2.1 hd rfl kk) k
theorem wp_i2l {x : Int32} (hd : decode (miC mi) pc = .ok (.i2l, 1)) (hp : pc + 1 = pc') (k : Wp g d mi pc' L (.long (x.toInt64) :: st) kc ks sh u w r Z) : Wp g d mi pc L (.int x :: st) kc ks sh u w r Z := by
  subst hp
  exact wp_pure (fun p e R s m args below meth c F H locs ls Z hl kk => lv_i2l F.1.1 F.1.2.1 hd rfl kk) k
theorem wp_l2i {x : Int64} (hd : decode (miC mi) pc = .ok (.l2i, 1)) (hp : pc + 1 = pc') (k : Wp g d mi pc' L (.int (x.toInt32) :: st) kc ks sh u w r Z) : Wp g d mi pc L (.long x :: st) kc ks sh u w r Z := by
  subst hp
  exact wp_pure (fun p e R s m args below meth c F H locs ls Z hl kk => lv_l2i F.1.1 F.1.2.1 hd rfl kk) k
theorem wp_i2b {x : Int32} (hd : decode (miC mi) pc = .ok (.i2b, 1)) (hp : pc + 1 = pc') (k : Wp g d mi pc' L (.int (x.toInt8.toInt32) :: st) kc ks sh u w r Z) : Wp g d mi pc L (.int x :: st) kc ks sh u w r Z := by
  subst hp
  exact wp_pure (fun p e R s m args below meth c F H locs ls Z hl kk => lv_i2b F.1.1 F.1.2.1 hd rfl kk) k
theorem wp_i2s {x : Int32} (hd : decode (miC mi) pc = .ok (.i2s, 1)) (hp : pc + 1 = pc') (k : Wp g d mi pc' L (.int (x.toInt16.toInt32) :: st) kc ks sh u w r Z) : Wp g d mi pc L (.int x :: st) kc ks sh u w r Z := by
  subst hp
  exact wp_pure (fun p e R s m args below meth c F H locs ls Z hl kk => lv_i2s F.1.1 F.1.2.1 hd rfl kk) k
theorem wp_i2c {x : Int32} (hd : decode (miC mi) pc = .ok (.i2c, 1)) (hp : pc + 1 = pc') (k : Wp g d mi pc' L (.int ((x.toUInt32 % 65536).toInt32) :: st) kc ks sh u w r Z) : Wp g d mi pc L (.int x :: st) kc ks sh u w r Z := by
  subst hp
  exact wp_pure (fun p e R s m args below meth c F H locs ls Z hl kk => lv_i2c F.1.1 F.1.2.1 hd rfl kk) k
theorem tr_cat (g : Gx) (v : Value) : (tr g v).category = v.category := by cases v <;> rfl
theorem wp_dup {x : Value} (hd : decode (miC mi) pc = .ok (.dup, 1)) (hc : x.category = 1) (hp : pc + 1 = pc') (k : Wp g d mi pc' L (x :: x :: st) kc ks sh u w r Z) : Wp g d mi pc L (x :: st) kc ks sh u w r Z := by
  subst hp
  exact wp_pure (fun p e R s m args below meth c F H locs ls Z hl kk => lv_dup F.1.1 F.1.2.1 hd (by rw [tr_cat]; exact hc) kk) k
theorem wp_pop {x : Value} (hd : decode (miC mi) pc = .ok (.pop, 1)) (hc : x.category = 1) (hp : pc + 1 = pc') (k : Wp g d mi pc' L (st) kc ks sh u w r Z) : Wp g d mi pc L (x :: st) kc ks sh u w r Z := by
  subst hp
  exact wp_pure (fun p e R s m args below meth c F H locs ls Z hl kk => lv_pop F.1.1 F.1.2.1 hd (by rw [tr_cat]; exact hc) kk) k
theorem wp_dup_x1 {x y : Value} (hd : decode (miC mi) pc = .ok (.dup_x1, 1)) (hc : x.category = 1) (hc2 : y.category = 1) (hp : pc + 1 = pc') (k : Wp g d mi pc' L (x :: y :: x :: st) kc ks sh u w r Z) : Wp g d mi pc L (x :: y :: st) kc ks sh u w r Z := by
  subst hp
  exact wp_pure (fun p e R s m args below meth c F H locs ls Z hl kk => lv_dup_x1 F.1.1 F.1.2.1 hd (by rw [tr_cat]; exact hc) (by rw [tr_cat]; exact hc2) kk) k
theorem wp_dup2 {x y : Value} (hd : decode (miC mi) pc = .ok (.dup2, 1)) (hc : x.category = 1) (hc2 : y.category = 1) (hp : pc + 1 = pc') (k : Wp g d mi pc' L (x :: y :: x :: y :: st) kc ks sh u w r Z) : Wp g d mi pc L (x :: y :: st) kc ks sh u w r Z := by
  subst hp
  exact wp_pure (fun p e R s m args below meth c F H locs ls Z hl kk => lv_dup2_11 F.1.1 F.1.2.1 hd (by rw [tr_cat]; exact hc) (by rw [tr_cat]; exact hc2) kk) k
theorem wp_if_eq {x : Int32} {off : Int} (tgt : Nat) (hd : decode (miC mi) pc = .ok (.ifCond .eq off, 3)) (ht : (pc : Int) + off = (tgt : Int)) (hp : pc + 3 = pc') (kt : (x = 0) → Wp g d mi tgt L st kc ks sh u w r Z) (kf : ¬ (x = 0) → Wp g d mi pc' L st kc ks sh u w r Z) : Wp g d mi pc L (.int x :: st) kc ks sh u w r Z := by
  subst hp
  intro p e R s m args below meth c F H locs ls hz hP hS hl
  exact lv_if_eq F.1.1 F.1.2.1 hd ht (fun q => kt (by first | exact q | exact fun z => q z) p e R s m args below meth c F H locs ls hz hP hS hl) (fun q => kf (by first | exact q | exact fun z => q z | exact not_not_intro q | exact fun z => z q) p e R s m args below meth c F H locs ls hz hP hS hl)
theorem wp_icmp_eq {x y : Int32} {off : Int} (tgt : Nat) (hd : decode (miC mi) pc = .ok (.if_icmp .eq off, 3)) (ht : (pc : Int) + off = (tgt : Int)) (hp : pc + 3 = pc') (kt : (x = y) → Wp g d mi tgt L st kc ks sh u w r Z) (kf : ¬ (x = y) → Wp g d mi pc' L st kc ks sh u w r Z) : Wp g d mi pc L (.int y :: .int x :: st) kc ks sh u w r Z := by
  subst hp
  intro p e R s m args below meth c F H locs ls hz hP hS hl
  exact lv_icmp_eq F.1.1 F.1.2.1 hd ht (fun q => kt (by first | exact q | exact fun z => q z) p e R s m args below meth c F H locs ls hz hP hS hl) (fun q => kf (by first | exact q | exact fun z => q z | exact not_not_intro q | exact fun z => z q) p e R s m args below meth c F H locs ls hz hP hS hl)
theorem wp_if_ne {x : Int32} {off : Int} (tgt : Nat) (hd : decode (miC mi) pc = .ok (.ifCond .ne off, 3)) (ht : (pc : Int) + off = (tgt : Int)) (hp : pc + 3 = pc') (kt : (¬ x = 0) → Wp g d mi tgt L st kc ks sh u w r Z) (kf : ¬ (¬ x = 0) → Wp g d mi pc' L st kc ks sh u w r Z) : Wp g d mi pc L (.int x :: st) kc ks sh u w r Z := by
  subst hp
  intro p e R s m args below meth c F H locs ls hz hP hS hl
  exact lv_if_ne F.1.1 F.1.2.1 hd ht (fun q => kt (by first | exact q | exact fun z => q z) p e R s m args below meth c F H locs ls hz hP hS hl) (fun q => kf (by first | exact q | exact fun z => q z | exact not_not_intro q | exact fun z => z q) p e R s m args below meth c F H locs ls hz hP hS hl)
theorem wp_icmp_ne {x y : Int32} {off : Int} (tgt : Nat) (hd : decode (miC mi) pc = .ok (.if_icmp .ne off, 3)) (ht : (pc : Int) + off = (tgt : Int)) (hp : pc + 3 = pc') (kt : (¬ x = y) → Wp g d mi tgt L st kc ks sh u w r Z) (kf : ¬ (¬ x = y) → Wp g d mi pc' L st kc ks sh u w r Z) : Wp g d mi pc L (.int y :: .int x :: st) kc ks sh u w r Z := by
  subst hp
  intro p e R s m args below meth c F H locs ls hz hP hS hl
  exact lv_icmp_ne F.1.1 F.1.2.1 hd ht (fun q => kt (by first | exact q | exact fun z => q z) p e R s m args below meth c F H locs ls hz hP hS hl) (fun q => kf (by first | exact q | exact fun z => q z | exact not_not_intro q | exact fun z => z q) p e R s m args below meth c F H locs ls hz hP hS hl)
theorem wp_if_lt {x : Int32} {off : Int} (tgt : Nat) (hd : decode (miC mi) pc = .ok (.ifCond .lt off, 3)) (ht : (pc : Int) + off = (tgt : Int)) (hp : pc + 3 = pc') (kt : (x < 0) → Wp g d mi tgt L st kc ks sh u w r Z) (kf : ¬ (x < 0) → Wp g d mi pc' L st kc ks sh u w r Z) : Wp g d mi pc L (.int x :: st) kc ks sh u w r Z := by
  subst hp
  intro p e R s m args below meth c F H locs ls hz hP hS hl
  exact lv_if_lt F.1.1 F.1.2.1 hd ht (fun q => kt (by first | exact q | exact fun z => q z) p e R s m args below meth c F H locs ls hz hP hS hl) (fun q => kf (by first | exact q | exact fun z => q z | exact not_not_intro q | exact fun z => z q) p e R s m args below meth c F H locs ls hz hP hS hl)
theorem wp_icmp_lt {x y : Int32} {off : Int} (tgt : Nat) (hd : decode (miC mi) pc = .ok (.if_icmp .lt off, 3)) (ht : (pc : Int) + off = (tgt : Int)) (hp : pc + 3 = pc') (kt : (x < y) → Wp g d mi tgt L st kc ks sh u w r Z) (kf : ¬ (x < y) → Wp g d mi pc' L st kc ks sh u w r Z) : Wp g d mi pc L (.int y :: .int x :: st) kc ks sh u w r Z := by
  subst hp
  intro p e R s m args below meth c F H locs ls hz hP hS hl
  exact lv_icmp_lt F.1.1 F.1.2.1 hd ht (fun q => kt (by first | exact q | exact fun z => q z) p e R s m args below meth c F H locs ls hz hP hS hl) (fun q => kf (by first | exact q | exact fun z => q z | exact not_not_intro q | exact fun z => z q) p e R s m args below meth c F H locs ls hz hP hS hl)
theorem wp_if_ge {x : Int32} {off : Int} (tgt : Nat) (hd : decode (miC mi) pc = .ok (.ifCond .ge off, 3)) (ht : (pc : Int) + off = (tgt : Int)) (hp : pc + 3 = pc') (kt : (0 ≤ x) → Wp g d mi tgt L st kc ks sh u w r Z) (kf : ¬ (0 ≤ x) → Wp g d mi pc' L st kc ks sh u w r Z) : Wp g d mi pc L (.int x :: st) kc ks sh u w r Z := by
  subst hp
  intro p e R s m args below meth c F H locs ls hz hP hS hl
  exact lv_if_ge F.1.1 F.1.2.1 hd ht (fun q => kt (by first | exact q | exact fun z => q z) p e R s m args below meth c F H locs ls hz hP hS hl) (fun q => kf (by first | exact q | exact fun z => q z | exact not_not_intro q | exact fun z => z q) p e R s m args below meth c F H locs ls hz hP hS hl)
theorem wp_icmp_ge {x y : Int32} {off : Int} (tgt : Nat) (hd : decode (miC mi) pc = .ok (.if_icmp .ge off, 3)) (ht : (pc : Int) + off = (tgt : Int)) (hp : pc + 3 = pc') (kt : (y ≤ x) → Wp g d mi tgt L st kc ks sh u w r Z) (kf : ¬ (y ≤ x) → Wp g d mi pc' L st kc ks sh u w r Z) : Wp g d mi pc L (.int y :: .int x :: st) kc ks sh u w r Z := by
  subst hp
  intro p e R s m args below meth c F H locs ls hz hP hS hl
  exact lv_icmp_ge F.1.1 F.1.2.1 hd ht (fun q => kt (by first | exact q | exact fun z => q z) p e R s m args below meth c F H locs ls hz hP hS hl) (fun q => kf (by first | exact q | exact fun z => q z | exact not_not_intro q | exact fun z => z q) p e R s m args below meth c F H locs ls hz hP hS hl)
theorem wp_if_gt {x : Int32} {off : Int} (tgt : Nat) (hd : decode (miC mi) pc = .ok (.ifCond .gt off, 3)) (ht : (pc : Int) + off = (tgt : Int)) (hp : pc + 3 = pc') (kt : (0 < x) → Wp g d mi tgt L st kc ks sh u w r Z) (kf : ¬ (0 < x) → Wp g d mi pc' L st kc ks sh u w r Z) : Wp g d mi pc L (.int x :: st) kc ks sh u w r Z := by
  subst hp
  intro p e R s m args below meth c F H locs ls hz hP hS hl
  exact lv_if_gt F.1.1 F.1.2.1 hd ht (fun q => kt (by first | exact q | exact fun z => q z) p e R s m args below meth c F H locs ls hz hP hS hl) (fun q => kf (by first | exact q | exact fun z => q z | exact not_not_intro q | exact fun z => z q) p e R s m args below meth c F H locs ls hz hP hS hl)
theorem wp_icmp_gt {x y : Int32} {off : Int} (tgt : Nat) (hd : decode (miC mi) pc = .ok (.if_icmp .gt off, 3)) (ht : (pc : Int) + off = (tgt : Int)) (hp : pc + 3 = pc') (kt : (y < x) → Wp g d mi tgt L st kc ks sh u w r Z) (kf : ¬ (y < x) → Wp g d mi pc' L st kc ks sh u w r Z) : Wp g d mi pc L (.int y :: .int x :: st) kc ks sh u w r Z := by
  subst hp
  intro p e R s m args below meth c F H locs ls hz hP hS hl
  exact lv_icmp_gt F.1.1 F.1.2.1 hd ht (fun q => kt (by first | exact q | exact fun z => q z) p e R s m args below meth c F H locs ls hz hP hS hl) (fun q => kf (by first | exact q | exact fun z => q z | exact not_not_intro q | exact fun z => z q) p e R s m args below meth c F H locs ls hz hP hS hl)
theorem wp_if_le {x : Int32} {off : Int} (tgt : Nat) (hd : decode (miC mi) pc = .ok (.ifCond .le off, 3)) (ht : (pc : Int) + off = (tgt : Int)) (hp : pc + 3 = pc') (kt : (x ≤ 0) → Wp g d mi tgt L st kc ks sh u w r Z) (kf : ¬ (x ≤ 0) → Wp g d mi pc' L st kc ks sh u w r Z) : Wp g d mi pc L (.int x :: st) kc ks sh u w r Z := by
  subst hp
  intro p e R s m args below meth c F H locs ls hz hP hS hl
  exact lv_if_le F.1.1 F.1.2.1 hd ht (fun q => kt (by first | exact q | exact fun z => q z) p e R s m args below meth c F H locs ls hz hP hS hl) (fun q => kf (by first | exact q | exact fun z => q z | exact not_not_intro q | exact fun z => z q) p e R s m args below meth c F H locs ls hz hP hS hl)
theorem wp_icmp_le {x y : Int32} {off : Int} (tgt : Nat) (hd : decode (miC mi) pc = .ok (.if_icmp .le off, 3)) (ht : (pc : Int) + off = (tgt : Int)) (hp : pc + 3 = pc') (kt : (x ≤ y) → Wp g d mi tgt L st kc ks sh u w r Z) (kf : ¬ (x ≤ y) → Wp g d mi pc' L st kc ks sh u w r Z) : Wp g d mi pc L (.int y :: .int x :: st) kc ks sh u w r Z := by
  subst hp
  intro p e R s m args below meth c F H locs ls hz hP hS hl
  exact lv_icmp_le F.1.1 F.1.2.1 hd ht (fun q => kt (by first | exact q | exact fun z => q z) p e R s m args below meth c F H locs ls hz hP hS hl) (fun q => kf (by first | exact q | exact fun z => q z | exact not_not_intro q | exact fun z => z q) p e R s m args below meth c F H locs ls hz hP hS hl)
theorem wp_goto {off : Int} (tgt : Nat) (hd : decode (miC mi) pc = .ok (.goto off, 3)) (ht : (pc : Int) + off = (tgt : Int)) (k : Wp g d mi tgt L st kc ks sh u w r Z) : Wp g d mi pc L st kc ks sh u w r Z :=
  wp_pure (fun p e R s m args below meth c F H locs ls Z hl kk => lv_goto F.1.1 F.1.2.1 hd ht kk) k
theorem wp_lcmp {x y : Int64} (hd : decode (miC mi) pc = .ok (.lcmp, 1)) (hp : pc + 1 = pc') (k : Wp g d mi pc' L (.int (lg_cmp x y) :: st) kc ks sh u w r Z) : Wp g d mi pc L (.long y :: .long x :: st) kc ks sh u w r Z := by
  subst hp
  exact wp_pure (fun p e R s m args below meth c F H locs ls Z hl kk => W.lcmp F.1.1 F.1.2.1 hd kk) k
/-- the cases of a switch, one by one -/
def swK (x : Int32) : List (Int32 × Nat) → (Nat → Prop) → Prop
  | [], _ => True
  | q :: l, P => (x = q.1 → P q.2) ∧ swK x l P
def swD (x : Int32) : List (Int32 × Nat) → Prop → Prop
  | [], P => P
  | q :: l, P => ¬ x = q.1 → swD x l P
theorem swK_of {x : Int32} {l : List (Int32 × Nat)} {P : Nat → Prop} (h : swK x l P) {q : Int32 × Nat} (hq : q ∈ l) (hx : x = q.1) : P q.2 := by
  induction l with
  | nil => cases hq
  | cons a t ih =>
    rcases List.mem_cons.mp hq with rfl | h1
    · exact h.1 hx
    · exact ih h.2 h1
theorem swD_of {x : Int32} {l : List (Int32 × Nat)} {P : Prop} (h : swD x l P) (hx : ∀ q ∈ l, ¬ x = q.1) : P := by
  induction l with
  | nil => exact h
  | cons a t ih => exact ih (h (hx a List.mem_cons_self)) (fun q hq => hx q (List.mem_cons_of_mem _ hq))
theorem wp_tsw {dflt lo hi : Int} {offs : Array Int} {len : Nat} {x : Int32} (cs : List (Int32 × Nat)) (td : Nat) (hd : decode (miC mi) pc = .ok (.tableswitch dflt lo hi offs, len)) (hdt : (pc : Int) + dflt = (td : Int)) (hlo : -2147483648 ≤ lo ∧ lo + offs.size = hi + 1 ∧ hi ≤ 2147483647)
    (hc : ∀ j : Nat, j < offs.size → ∃ q ∈ cs, q.1.toInt = lo + j ∧ (offs[j]?.map fun o => (pc : Int) + o) = some (q.2 : Int)) (ho : ∀ q ∈ cs, lo ≤ q.1.toInt ∧ q.1.toInt ≤ hi)
    (kin : swK x cs (fun t => Wp g d mi t L st kc ks sh u w r Z)) (kout : swD x cs (Wp g d mi td L st kc ks sh u w r Z)) : Wp g d mi pc L (.int x :: st) kc ks sh u w r Z := by
  intro p e R s m args below meth c F H locs ls hz hP hS hl
  by_cases hx : x.toInt < lo ∨ hi < x.toInt
  · exact lv_tableOut F.1.1 F.1.2.1 hd hx hdt (swD_of kout (fun q hq e => by
      have := ho q hq
      rw [← e] at this
      omega) p e R s m args below meth c F H locs ls hz hP hS hl)
  · have h1 : ¬ x.toInt < lo := fun z => hx (Or.inl z)
    have h2 : ¬ hi < x.toInt := fun z => hx (Or.inr z)
    obtain ⟨q, hq, e1, e2⟩ := hc (x.toInt - lo).toNat (by omega)
    obtain ⟨o, ho1, ho2⟩ := Option.map_eq_some_iff.mp e2
    refine lv_tableIn F.1.1 F.1.2.1 hd h1 h2 ho1 ho2 (swK_of kin hq ?_ p e R s m args below meth c F H locs ls hz hP hS hl)
    apply Int32.toInt_inj.mp
    rw [e1]
    omega
theorem wp_lsw {dflt : Int} {ps : Array (Int × Int)} {len : Nat} {x : Int32} (cs : List (Int32 × Nat)) (td : Nat) (hd : decode (miC mi) pc = .ok (.lookupswitch dflt ps, len)) (hp : (ps.toList.zip (ps.toList.drop 1)).all (fun (a, next) => a.1 < next.1) = true) (hdt : (pc : Int) + dflt = (td : Int))
    (hc : ∀ q ∈ cs, ((pc : Int) + Op.lookupswitch.offset ps.toList dflt q.1.toInt) = (q.2 : Int)) (ho : ∀ y : Int, (∀ q ∈ cs, ¬ y = q.1.toInt) → Op.lookupswitch.offset ps.toList dflt y = dflt)
    (kin : swK x cs (fun t => Wp g d mi t L st kc ks sh u w r Z)) (kout : swD x cs (Wp g d mi td L st kc ks sh u w r Z)) : Wp g d mi pc L (.int x :: st) kc ks sh u w r Z := by
  intro p e R s m args below meth c F H locs ls hz hP hS hl
  by_cases hx : ∃ q ∈ cs, x = q.1
  · obtain ⟨q, hq, e1⟩ := hx
    exact lv_lookup F.1.1 F.1.2.1 hd hp rfl (by rw [e1]; exact hc q hq) (swK_of kin hq e1 p e R s m args below meth c F H locs ls hz hP hS hl)
  · have hx2 : ∀ q ∈ cs, ¬ x = q.1 := fun q hq e => hx ⟨q, hq, e⟩
    exact lv_lookup F.1.1 F.1.2.1 hd hp (ho x.toInt (fun q hq e => hx2 q hq (Int32.toInt_inj.mp e))) hdt (swD_of kout hx2 p e R s m args below meth c F H locs ls hz hP hS hl)
end
