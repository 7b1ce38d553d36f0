theorem i32_ne {x y : Int32} (h : ¬ x = y) : x.toInt ≠ y.toInt := fun e => h (Int32.toInt_inj.mp e)
section SW
variable {p : Program} {l : Launch} {e : Env} {R : Room} {s : State} {m : MethodId} {args : Array Value} {below : List Frame} {meth : Method} {c : Code} {H : Heap} {locs : List Loc} {cells slots : Nat} {Q : State → Prop} {ls : Array Slot} {rest : List Value}
theorem sw_Or_taken_1 (hx : p.tables.exec = Jvm.exec) (hb : c.code = b_Or_taken) {x : Int32} (k0 : x = 0 → W p l e R s m args below meth c H locs cells slots Q (F0 m 92 ls rest)) (k1 : x = 12 → W p l e R s m args below meth c H locs cells slots Q (F0 m 96 ls rest)) (k2 : x = 13 → W p l e R s m args below meth c H locs cells slots Q (F0 m 94 ls rest)) (k3 : x = 14 → W p l e R s m args below meth c H locs cells slots Q (F0 m 92 ls rest)) (k4 : x = 16 → W p l e R s m args below meth c H locs cells slots Q (F0 m 96 ls rest)) (k5 : x = 17 → W p l e R s m args below meth c H locs cells slots Q (F0 m 96 ls rest)) (k6 : x = 18 → W p l e R s m args below meth c H locs cells slots Q (F0 m 92 ls rest)) (kd : (¬ x = 0 ∧ ¬ x = 12 ∧ ¬ x = 13 ∧ ¬ x = 14 ∧ ¬ x = 16 ∧ ¬ x = 17 ∧ ¬ x = 18) → W p l e R s m args below meth c H locs cells slots Q (F0 m 98 ls rest)) : W p l e R s m args below meth c H locs cells slots Q (F0 m 1 ls (.int x :: rest)) := by
  by_cases h0 : x = 0
  · subst h0
    exact lv_tableIn (tgt := 92) hx hb dOr_taken_1 (by decide) (by decide) rfl (by decide) (k0 rfl)
  by_cases h12 : x = 12
  · subst h12
    exact lv_tableIn (tgt := 96) hx hb dOr_taken_1 (by decide) (by decide) rfl (by decide) (k1 rfl)
  by_cases h13 : x = 13
  · subst h13
    exact lv_tableIn (tgt := 94) hx hb dOr_taken_1 (by decide) (by decide) rfl (by decide) (k2 rfl)
  by_cases h14 : x = 14
  · subst h14
    exact lv_tableIn (tgt := 92) hx hb dOr_taken_1 (by decide) (by decide) rfl (by decide) (k3 rfl)
  by_cases h16 : x = 16
  · subst h16
    exact lv_tableIn (tgt := 96) hx hb dOr_taken_1 (by decide) (by decide) rfl (by decide) (k4 rfl)
  by_cases h17 : x = 17
  · subst h17
    exact lv_tableIn (tgt := 96) hx hb dOr_taken_1 (by decide) (by decide) rfl (by decide) (k5 rfl)
  by_cases h18 : x = 18
  · subst h18
    exact lv_tableIn (tgt := 92) hx hb dOr_taken_1 (by decide) (by decide) rfl (by decide) (k6 rfl)
  have kz := kd ⟨h0, h12, h13, h14, h16, h17, h18⟩
  by_cases h1 : x = 1
  · subst h1
    exact lv_tableIn (tgt := 98) hx hb dOr_taken_1 (by decide) (by decide) rfl (by decide) (kz)
  by_cases h2 : x = 2
  · subst h2
    exact lv_tableIn (tgt := 98) hx hb dOr_taken_1 (by decide) (by decide) rfl (by decide) (kz)
  by_cases h3 : x = 3
  · subst h3
    exact lv_tableIn (tgt := 98) hx hb dOr_taken_1 (by decide) (by decide) rfl (by decide) (kz)
  by_cases h4 : x = 4
  · subst h4
    exact lv_tableIn (tgt := 98) hx hb dOr_taken_1 (by decide) (by decide) rfl (by decide) (kz)
  by_cases h5 : x = 5
  · subst h5
    exact lv_tableIn (tgt := 98) hx hb dOr_taken_1 (by decide) (by decide) rfl (by decide) (kz)
  by_cases h6 : x = 6
  · subst h6
    exact lv_tableIn (tgt := 98) hx hb dOr_taken_1 (by decide) (by decide) rfl (by decide) (kz)
  by_cases h7 : x = 7
  · subst h7
    exact lv_tableIn (tgt := 98) hx hb dOr_taken_1 (by decide) (by decide) rfl (by decide) (kz)
  by_cases h8 : x = 8
  · subst h8
    exact lv_tableIn (tgt := 98) hx hb dOr_taken_1 (by decide) (by decide) rfl (by decide) (kz)
  by_cases h9 : x = 9
  · subst h9
    exact lv_tableIn (tgt := 98) hx hb dOr_taken_1 (by decide) (by decide) rfl (by decide) (kz)
  by_cases h10 : x = 10
  · subst h10
    exact lv_tableIn (tgt := 98) hx hb dOr_taken_1 (by decide) (by decide) rfl (by decide) (kz)
  by_cases h11 : x = 11
  · subst h11
    exact lv_tableIn (tgt := 98) hx hb dOr_taken_1 (by decide) (by decide) rfl (by decide) (kz)
  by_cases h15 : x = 15
  · subst h15
    exact lv_tableIn (tgt := 98) hx hb dOr_taken_1 (by decide) (by decide) rfl (by decide) (kz)
  have n0 := i32_ne h0
  rw [show (0 : Int32).toInt = 0 from rfl] at n0
  have n1 := i32_ne h1
  rw [show (1 : Int32).toInt = 1 from rfl] at n1
  have n2 := i32_ne h2
  rw [show (2 : Int32).toInt = 2 from rfl] at n2
  have n3 := i32_ne h3
  rw [show (3 : Int32).toInt = 3 from rfl] at n3
  have n4 := i32_ne h4
  rw [show (4 : Int32).toInt = 4 from rfl] at n4
  have n5 := i32_ne h5
  rw [show (5 : Int32).toInt = 5 from rfl] at n5
  have n6 := i32_ne h6
  rw [show (6 : Int32).toInt = 6 from rfl] at n6
  have n7 := i32_ne h7
  rw [show (7 : Int32).toInt = 7 from rfl] at n7
  have n8 := i32_ne h8
  rw [show (8 : Int32).toInt = 8 from rfl] at n8
  have n9 := i32_ne h9
  rw [show (9 : Int32).toInt = 9 from rfl] at n9
  have n10 := i32_ne h10
  rw [show (10 : Int32).toInt = 10 from rfl] at n10
  have n11 := i32_ne h11
  rw [show (11 : Int32).toInt = 11 from rfl] at n11
  have n12 := i32_ne h12
  rw [show (12 : Int32).toInt = 12 from rfl] at n12
  have n13 := i32_ne h13
  rw [show (13 : Int32).toInt = 13 from rfl] at n13
  have n14 := i32_ne h14
  rw [show (14 : Int32).toInt = 14 from rfl] at n14
  have n15 := i32_ne h15
  rw [show (15 : Int32).toInt = 15 from rfl] at n15
  have n16 := i32_ne h16
  rw [show (16 : Int32).toInt = 16 from rfl] at n16
  have n17 := i32_ne h17
  rw [show (17 : Int32).toInt = 17 from rfl] at n17
  have n18 := i32_ne h18
  rw [show (18 : Int32).toInt = 18 from rfl] at n18
  exact lv_tableOut (tgt := 98) hx hb dOr_taken_1 (by omega) (by decide) kz
theorem sw_Or_arraysTaken_1 (hx : p.tables.exec = Jvm.exec) (hb : c.code = b_Or_arraysTaken) {x : Int32} (k0 : x = 11 → W p l e R s m args below meth c H locs cells slots Q (F0 m 52 ls rest)) (k1 : x = 12 → W p l e R s m args below meth c H locs cells slots Q (F0 m 52 ls rest)) (k2 : x = 13 → W p l e R s m args below meth c H locs cells slots Q (F0 m 52 ls rest)) (k3 : x = 19 → W p l e R s m args below meth c H locs cells slots Q (F0 m 52 ls rest)) (kd : (¬ x = 11 ∧ ¬ x = 12 ∧ ¬ x = 13 ∧ ¬ x = 19) → W p l e R s m args below meth c H locs cells slots Q (F0 m 54 ls rest)) : W p l e R s m args below meth c H locs cells slots Q (F0 m 1 ls (.int x :: rest)) := by
  by_cases h11 : x = 11
  · subst h11
    exact lv_tableIn (tgt := 52) hx hb dOr_arraysTaken_1 (by decide) (by decide) rfl (by decide) (k0 rfl)
  by_cases h12 : x = 12
  · subst h12
    exact lv_tableIn (tgt := 52) hx hb dOr_arraysTaken_1 (by decide) (by decide) rfl (by decide) (k1 rfl)
  by_cases h13 : x = 13
  · subst h13
    exact lv_tableIn (tgt := 52) hx hb dOr_arraysTaken_1 (by decide) (by decide) rfl (by decide) (k2 rfl)
  by_cases h19 : x = 19
  · subst h19
    exact lv_tableIn (tgt := 52) hx hb dOr_arraysTaken_1 (by decide) (by decide) rfl (by decide) (k3 rfl)
  have kz := kd ⟨h11, h12, h13, h19⟩
  by_cases h14 : x = 14
  · subst h14
    exact lv_tableIn (tgt := 54) hx hb dOr_arraysTaken_1 (by decide) (by decide) rfl (by decide) (kz)
  by_cases h15 : x = 15
  · subst h15
    exact lv_tableIn (tgt := 54) hx hb dOr_arraysTaken_1 (by decide) (by decide) rfl (by decide) (kz)
  by_cases h16 : x = 16
  · subst h16
    exact lv_tableIn (tgt := 54) hx hb dOr_arraysTaken_1 (by decide) (by decide) rfl (by decide) (kz)
  by_cases h17 : x = 17
  · subst h17
    exact lv_tableIn (tgt := 54) hx hb dOr_arraysTaken_1 (by decide) (by decide) rfl (by decide) (kz)
  by_cases h18 : x = 18
  · subst h18
    exact lv_tableIn (tgt := 54) hx hb dOr_arraysTaken_1 (by decide) (by decide) rfl (by decide) (kz)
  have n11 := i32_ne h11
  rw [show (11 : Int32).toInt = 11 from rfl] at n11
  have n12 := i32_ne h12
  rw [show (12 : Int32).toInt = 12 from rfl] at n12
  have n13 := i32_ne h13
  rw [show (13 : Int32).toInt = 13 from rfl] at n13
  have n14 := i32_ne h14
  rw [show (14 : Int32).toInt = 14 from rfl] at n14
  have n15 := i32_ne h15
  rw [show (15 : Int32).toInt = 15 from rfl] at n15
  have n16 := i32_ne h16
  rw [show (16 : Int32).toInt = 16 from rfl] at n16
  have n17 := i32_ne h17
  rw [show (17 : Int32).toInt = 17 from rfl] at n17
  have n18 := i32_ne h18
  rw [show (18 : Int32).toInt = 18 from rfl] at n18
  have n19 := i32_ne h19
  rw [show (19 : Int32).toInt = 19 from rfl] at n19
  exact lv_tableOut (tgt := 54) hx hb dOr_arraysTaken_1 (by omega) (by decide) kz
theorem sw_Or_puts_1 (hx : p.tables.exec = Jvm.exec) (hb : c.code = b_Or_puts) {x : Int32} (k0 : x = 0 → W p l e R s m args below meth c H locs cells slots Q (F0 m 52 ls rest)) (k1 : x = 10 → W p l e R s m args below meth c H locs cells slots Q (F0 m 54 ls rest)) (k2 : x = 11 → W p l e R s m args below meth c H locs cells slots Q (F0 m 52 ls rest)) (k3 : x = 12 → W p l e R s m args below meth c H locs cells slots Q (F0 m 52 ls rest)) (k4 : x = 18 → W p l e R s m args below meth c H locs cells slots Q (F0 m 54 ls rest)) (kd : (¬ x = 0 ∧ ¬ x = 10 ∧ ¬ x = 11 ∧ ¬ x = 12 ∧ ¬ x = 18) → W p l e R s m args below meth c H locs cells slots Q (F0 m 56 ls rest)) : W p l e R s m args below meth c H locs cells slots Q (F0 m 1 ls (.int x :: rest)) := by
  by_cases h0 : x = 0
  · subst h0
    exact lv_lookup (tgt := 52) hx hb dOr_puts_1 (by decide) rfl (by decide) (k0 rfl)
  by_cases h10 : x = 10
  · subst h10
    exact lv_lookup (tgt := 54) hx hb dOr_puts_1 (by decide) rfl (by decide) (k1 rfl)
  by_cases h11 : x = 11
  · subst h11
    exact lv_lookup (tgt := 52) hx hb dOr_puts_1 (by decide) rfl (by decide) (k2 rfl)
  by_cases h12 : x = 12
  · subst h12
    exact lv_lookup (tgt := 52) hx hb dOr_puts_1 (by decide) rfl (by decide) (k3 rfl)
  by_cases h18 : x = 18
  · subst h18
    exact lv_lookup (tgt := 54) hx hb dOr_puts_1 (by decide) rfl (by decide) (k4 rfl)
  have kz := kd ⟨h0, h10, h11, h12, h18⟩
  have n0 := i32_ne h0
  rw [show (0 : Int32).toInt = 0 from rfl] at n0
  have n10 := i32_ne h10
  rw [show (10 : Int32).toInt = 10 from rfl] at n10
  have n11 := i32_ne h11
  rw [show (11 : Int32).toInt = 11 from rfl] at n11
  have n12 := i32_ne h12
  rw [show (12 : Int32).toInt = 12 from rfl] at n12
  have n18 := i32_ne h18
  rw [show (18 : Int32).toInt = 18 from rfl] at n18
  exact lv_lookup (tgt := 56) (off := 55) hx hb dOr_puts_1 (by decide) (by show Op.lookupswitch.offset [(0, 51), (10, 53), (11, 51), (12, 51), (18, 53)] 55 x.toInt = 55; rw [lookupswitch.offset_cons, if_neg (Ne.symm n0), lookupswitch.offset_cons, if_neg (Ne.symm n10), lookupswitch.offset_cons, if_neg (Ne.symm n11), lookupswitch.offset_cons, if_neg (Ne.symm n12), lookupswitch.offset_cons, if_neg (Ne.symm n18)]; rfl) (by decide) kz
theorem sw_Ju_change_1 (hx : p.tables.exec = Jvm.exec) (hb : c.code = b_Ju_change) {x : Int32} (k0 : x = 1 → W p l e R s m args below meth c H locs cells slots Q (F0 m 112 ls rest)) (k1 : x = 2 → W p l e R s m args below meth c H locs cells slots Q (F0 m 142 ls rest)) (k2 : x = 3 → W p l e R s m args below meth c H locs cells slots Q (F0 m 173 ls rest)) (k3 : x = 4 → W p l e R s m args below meth c H locs cells slots Q (F0 m 203 ls rest)) (k4 : x = 20 → W p l e R s m args below meth c H locs cells slots Q (F0 m 234 ls rest)) (k5 : x = 21 → W p l e R s m args below meth c H locs cells slots Q (F0 m 267 ls rest)) (k6 : x = 22 → W p l e R s m args below meth c H locs cells slots Q (F0 m 275 ls rest)) (k7 : x = 23 → W p l e R s m args below meth c H locs cells slots Q (F0 m 283 ls rest)) (k8 : x = 24 → W p l e R s m args below meth c H locs cells slots Q (F0 m 330 ls rest)) (kd : (¬ x = 1 ∧ ¬ x = 2 ∧ ¬ x = 3 ∧ ¬ x = 4 ∧ ¬ x = 20 ∧ ¬ x = 21 ∧ ¬ x = 22 ∧ ¬ x = 23 ∧ ¬ x = 24) → W p l e R s m args below meth c H locs cells slots Q (F0 m 367 ls rest)) : W p l e R s m args below meth c H locs cells slots Q (F0 m 1 ls (.int x :: rest)) := by
  by_cases h1 : x = 1
  · subst h1
    exact lv_tableIn (tgt := 112) hx hb dJu_change_1 (by decide) (by decide) rfl (by decide) (k0 rfl)
  by_cases h2 : x = 2
  · subst h2
    exact lv_tableIn (tgt := 142) hx hb dJu_change_1 (by decide) (by decide) rfl (by decide) (k1 rfl)
  by_cases h3 : x = 3
  · subst h3
    exact lv_tableIn (tgt := 173) hx hb dJu_change_1 (by decide) (by decide) rfl (by decide) (k2 rfl)
  by_cases h4 : x = 4
  · subst h4
    exact lv_tableIn (tgt := 203) hx hb dJu_change_1 (by decide) (by decide) rfl (by decide) (k3 rfl)
  by_cases h20 : x = 20
  · subst h20
    exact lv_tableIn (tgt := 234) hx hb dJu_change_1 (by decide) (by decide) rfl (by decide) (k4 rfl)
  by_cases h21 : x = 21
  · subst h21
    exact lv_tableIn (tgt := 267) hx hb dJu_change_1 (by decide) (by decide) rfl (by decide) (k5 rfl)
  by_cases h22 : x = 22
  · subst h22
    exact lv_tableIn (tgt := 275) hx hb dJu_change_1 (by decide) (by decide) rfl (by decide) (k6 rfl)
  by_cases h23 : x = 23
  · subst h23
    exact lv_tableIn (tgt := 283) hx hb dJu_change_1 (by decide) (by decide) rfl (by decide) (k7 rfl)
  by_cases h24 : x = 24
  · subst h24
    exact lv_tableIn (tgt := 330) hx hb dJu_change_1 (by decide) (by decide) rfl (by decide) (k8 rfl)
  have kz := kd ⟨h1, h2, h3, h4, h20, h21, h22, h23, h24⟩
  by_cases h5 : x = 5
  · subst h5
    exact lv_tableIn (tgt := 367) hx hb dJu_change_1 (by decide) (by decide) rfl (by decide) (kz)
  by_cases h6 : x = 6
  · subst h6
    exact lv_tableIn (tgt := 367) hx hb dJu_change_1 (by decide) (by decide) rfl (by decide) (kz)
  by_cases h7 : x = 7
  · subst h7
    exact lv_tableIn (tgt := 367) hx hb dJu_change_1 (by decide) (by decide) rfl (by decide) (kz)
  by_cases h8 : x = 8
  · subst h8
    exact lv_tableIn (tgt := 367) hx hb dJu_change_1 (by decide) (by decide) rfl (by decide) (kz)
  by_cases h9 : x = 9
  · subst h9
    exact lv_tableIn (tgt := 367) hx hb dJu_change_1 (by decide) (by decide) rfl (by decide) (kz)
  by_cases h10 : x = 10
  · subst h10
    exact lv_tableIn (tgt := 367) hx hb dJu_change_1 (by decide) (by decide) rfl (by decide) (kz)
  by_cases h11 : x = 11
  · subst h11
    exact lv_tableIn (tgt := 367) hx hb dJu_change_1 (by decide) (by decide) rfl (by decide) (kz)
  by_cases h12 : x = 12
  · subst h12
    exact lv_tableIn (tgt := 367) hx hb dJu_change_1 (by decide) (by decide) rfl (by decide) (kz)
  by_cases h13 : x = 13
  · subst h13
    exact lv_tableIn (tgt := 367) hx hb dJu_change_1 (by decide) (by decide) rfl (by decide) (kz)
  by_cases h14 : x = 14
  · subst h14
    exact lv_tableIn (tgt := 367) hx hb dJu_change_1 (by decide) (by decide) rfl (by decide) (kz)
  by_cases h15 : x = 15
  · subst h15
    exact lv_tableIn (tgt := 367) hx hb dJu_change_1 (by decide) (by decide) rfl (by decide) (kz)
  by_cases h16 : x = 16
  · subst h16
    exact lv_tableIn (tgt := 367) hx hb dJu_change_1 (by decide) (by decide) rfl (by decide) (kz)
  by_cases h17 : x = 17
  · subst h17
    exact lv_tableIn (tgt := 367) hx hb dJu_change_1 (by decide) (by decide) rfl (by decide) (kz)
  by_cases h18 : x = 18
  · subst h18
    exact lv_tableIn (tgt := 367) hx hb dJu_change_1 (by decide) (by decide) rfl (by decide) (kz)
  by_cases h19 : x = 19
  · subst h19
    exact lv_tableIn (tgt := 367) hx hb dJu_change_1 (by decide) (by decide) rfl (by decide) (kz)
  have n1 := i32_ne h1
  rw [show (1 : Int32).toInt = 1 from rfl] at n1
  have n2 := i32_ne h2
  rw [show (2 : Int32).toInt = 2 from rfl] at n2
  have n3 := i32_ne h3
  rw [show (3 : Int32).toInt = 3 from rfl] at n3
  have n4 := i32_ne h4
  rw [show (4 : Int32).toInt = 4 from rfl] at n4
  have n5 := i32_ne h5
  rw [show (5 : Int32).toInt = 5 from rfl] at n5
  have n6 := i32_ne h6
  rw [show (6 : Int32).toInt = 6 from rfl] at n6
  have n7 := i32_ne h7
  rw [show (7 : Int32).toInt = 7 from rfl] at n7
  have n8 := i32_ne h8
  rw [show (8 : Int32).toInt = 8 from rfl] at n8
  have n9 := i32_ne h9
  rw [show (9 : Int32).toInt = 9 from rfl] at n9
  have n10 := i32_ne h10
  rw [show (10 : Int32).toInt = 10 from rfl] at n10
  have n11 := i32_ne h11
  rw [show (11 : Int32).toInt = 11 from rfl] at n11
  have n12 := i32_ne h12
  rw [show (12 : Int32).toInt = 12 from rfl] at n12
  have n13 := i32_ne h13
  rw [show (13 : Int32).toInt = 13 from rfl] at n13
  have n14 := i32_ne h14
  rw [show (14 : Int32).toInt = 14 from rfl] at n14
  have n15 := i32_ne h15
  rw [show (15 : Int32).toInt = 15 from rfl] at n15
  have n16 := i32_ne h16
  rw [show (16 : Int32).toInt = 16 from rfl] at n16
  have n17 := i32_ne h17
  rw [show (17 : Int32).toInt = 17 from rfl] at n17
  have n18 := i32_ne h18
  rw [show (18 : Int32).toInt = 18 from rfl] at n18
  have n19 := i32_ne h19
  rw [show (19 : Int32).toInt = 19 from rfl] at n19
  have n20 := i32_ne h20
  rw [show (20 : Int32).toInt = 20 from rfl] at n20
  have n21 := i32_ne h21
  rw [show (21 : Int32).toInt = 21 from rfl] at n21
  have n22 := i32_ne h22
  rw [show (22 : Int32).toInt = 22 from rfl] at n22
  have n23 := i32_ne h23
  rw [show (23 : Int32).toInt = 23 from rfl] at n23
  have n24 := i32_ne h24
  rw [show (24 : Int32).toInt = 24 from rfl] at n24
  exact lv_tableOut (tgt := 367) hx hb dJu_change_1 (by omega) (by decide) kz
theorem sw_Ma_troubleWith_1 (hx : p.tables.exec = Jvm.exec) (hb : c.code = b_Ma_troubleWith) {x : Int32} (k0 : x = 8 → W p l e R s m args below meth c H locs cells slots Q (F0 m 80 ls rest)) (k1 : x = 9 → W p l e R s m args below meth c H locs cells slots Q (F0 m 80 ls rest)) (k2 : x = 10 → W p l e R s m args below meth c H locs cells slots Q (F0 m 97 ls rest)) (k3 : x = 11 → W p l e R s m args below meth c H locs cells slots Q (F0 m 110 ls rest)) (k4 : x = 12 → W p l e R s m args below meth c H locs cells slots Q (F0 m 134 ls rest)) (k5 : x = 13 → W p l e R s m args below meth c H locs cells slots Q (F0 m 155 ls rest)) (k6 : x = 23 → W p l e R s m args below meth c H locs cells slots Q (F0 m 176 ls rest)) (kd : (¬ x = 8 ∧ ¬ x = 9 ∧ ¬ x = 10 ∧ ¬ x = 11 ∧ ¬ x = 12 ∧ ¬ x = 13 ∧ ¬ x = 23) → W p l e R s m args below meth c H locs cells slots Q (F0 m 195 ls rest)) : W p l e R s m args below meth c H locs cells slots Q (F0 m 1 ls (.int x :: rest)) := by
  by_cases h8 : x = 8
  · subst h8
    exact lv_tableIn (tgt := 80) hx hb dMa_troubleWith_1 (by decide) (by decide) rfl (by decide) (k0 rfl)
  by_cases h9 : x = 9
  · subst h9
    exact lv_tableIn (tgt := 80) hx hb dMa_troubleWith_1 (by decide) (by decide) rfl (by decide) (k1 rfl)
  by_cases h10 : x = 10
  · subst h10
    exact lv_tableIn (tgt := 97) hx hb dMa_troubleWith_1 (by decide) (by decide) rfl (by decide) (k2 rfl)
  by_cases h11 : x = 11
  · subst h11
    exact lv_tableIn (tgt := 110) hx hb dMa_troubleWith_1 (by decide) (by decide) rfl (by decide) (k3 rfl)
  by_cases h12 : x = 12
  · subst h12
    exact lv_tableIn (tgt := 134) hx hb dMa_troubleWith_1 (by decide) (by decide) rfl (by decide) (k4 rfl)
  by_cases h13 : x = 13
  · subst h13
    exact lv_tableIn (tgt := 155) hx hb dMa_troubleWith_1 (by decide) (by decide) rfl (by decide) (k5 rfl)
  by_cases h23 : x = 23
  · subst h23
    exact lv_tableIn (tgt := 176) hx hb dMa_troubleWith_1 (by decide) (by decide) rfl (by decide) (k6 rfl)
  have kz := kd ⟨h8, h9, h10, h11, h12, h13, h23⟩
  by_cases h14 : x = 14
  · subst h14
    exact lv_tableIn (tgt := 195) hx hb dMa_troubleWith_1 (by decide) (by decide) rfl (by decide) (kz)
  by_cases h15 : x = 15
  · subst h15
    exact lv_tableIn (tgt := 195) hx hb dMa_troubleWith_1 (by decide) (by decide) rfl (by decide) (kz)
  by_cases h16 : x = 16
  · subst h16
    exact lv_tableIn (tgt := 195) hx hb dMa_troubleWith_1 (by decide) (by decide) rfl (by decide) (kz)
  by_cases h17 : x = 17
  · subst h17
    exact lv_tableIn (tgt := 195) hx hb dMa_troubleWith_1 (by decide) (by decide) rfl (by decide) (kz)
  by_cases h18 : x = 18
  · subst h18
    exact lv_tableIn (tgt := 195) hx hb dMa_troubleWith_1 (by decide) (by decide) rfl (by decide) (kz)
  by_cases h19 : x = 19
  · subst h19
    exact lv_tableIn (tgt := 195) hx hb dMa_troubleWith_1 (by decide) (by decide) rfl (by decide) (kz)
  by_cases h20 : x = 20
  · subst h20
    exact lv_tableIn (tgt := 195) hx hb dMa_troubleWith_1 (by decide) (by decide) rfl (by decide) (kz)
  by_cases h21 : x = 21
  · subst h21
    exact lv_tableIn (tgt := 195) hx hb dMa_troubleWith_1 (by decide) (by decide) rfl (by decide) (kz)
  by_cases h22 : x = 22
  · subst h22
    exact lv_tableIn (tgt := 195) hx hb dMa_troubleWith_1 (by decide) (by decide) rfl (by decide) (kz)
  have n8 := i32_ne h8
  rw [show (8 : Int32).toInt = 8 from rfl] at n8
  have n9 := i32_ne h9
  rw [show (9 : Int32).toInt = 9 from rfl] at n9
  have n10 := i32_ne h10
  rw [show (10 : Int32).toInt = 10 from rfl] at n10
  have n11 := i32_ne h11
  rw [show (11 : Int32).toInt = 11 from rfl] at n11
  have n12 := i32_ne h12
  rw [show (12 : Int32).toInt = 12 from rfl] at n12
  have n13 := i32_ne h13
  rw [show (13 : Int32).toInt = 13 from rfl] at n13
  have n14 := i32_ne h14
  rw [show (14 : Int32).toInt = 14 from rfl] at n14
  have n15 := i32_ne h15
  rw [show (15 : Int32).toInt = 15 from rfl] at n15
  have n16 := i32_ne h16
  rw [show (16 : Int32).toInt = 16 from rfl] at n16
  have n17 := i32_ne h17
  rw [show (17 : Int32).toInt = 17 from rfl] at n17
  have n18 := i32_ne h18
  rw [show (18 : Int32).toInt = 18 from rfl] at n18
  have n19 := i32_ne h19
  rw [show (19 : Int32).toInt = 19 from rfl] at n19
  have n20 := i32_ne h20
  rw [show (20 : Int32).toInt = 20 from rfl] at n20
  have n21 := i32_ne h21
  rw [show (21 : Int32).toInt = 21 from rfl] at n21
  have n22 := i32_ne h22
  rw [show (22 : Int32).toInt = 22 from rfl] at n22
  have n23 := i32_ne h23
  rw [show (23 : Int32).toInt = 23 from rfl] at n23
  exact lv_tableOut (tgt := 195) hx hb dMa_troubleWith_1 (by omega) (by decide) kz
theorem sw_Ma_isMet_1 (hx : p.tables.exec = Jvm.exec) (hb : c.code = b_Ma_isMet) {x : Int32} (k0 : x = 15 → W p l e R s m args below meth c H locs cells slots Q (F0 m 36 ls rest)) (k1 : x = 16 → W p l e R s m args below meth c H locs cells slots Q (F0 m 57 ls rest)) (k2 : x = 19 → W p l e R s m args below meth c H locs cells slots Q (F0 m 46 ls rest)) (kd : (¬ x = 15 ∧ ¬ x = 16 ∧ ¬ x = 19) → W p l e R s m args below meth c H locs cells slots Q (F0 m 74 ls rest)) : W p l e R s m args below meth c H locs cells slots Q (F0 m 1 ls (.int x :: rest)) := by
  by_cases h15 : x = 15
  · subst h15
    exact lv_tableIn (tgt := 36) hx hb dMa_isMet_1 (by decide) (by decide) rfl (by decide) (k0 rfl)
  by_cases h16 : x = 16
  · subst h16
    exact lv_tableIn (tgt := 57) hx hb dMa_isMet_1 (by decide) (by decide) rfl (by decide) (k1 rfl)
  by_cases h19 : x = 19
  · subst h19
    exact lv_tableIn (tgt := 46) hx hb dMa_isMet_1 (by decide) (by decide) rfl (by decide) (k2 rfl)
  have kz := kd ⟨h15, h16, h19⟩
  by_cases h17 : x = 17
  · subst h17
    exact lv_tableIn (tgt := 74) hx hb dMa_isMet_1 (by decide) (by decide) rfl (by decide) (kz)
  by_cases h18 : x = 18
  · subst h18
    exact lv_tableIn (tgt := 74) hx hb dMa_isMet_1 (by decide) (by decide) rfl (by decide) (kz)
  have n15 := i32_ne h15
  rw [show (15 : Int32).toInt = 15 from rfl] at n15
  have n16 := i32_ne h16
  rw [show (16 : Int32).toInt = 16 from rfl] at n16
  have n17 := i32_ne h17
  rw [show (17 : Int32).toInt = 17 from rfl] at n17
  have n18 := i32_ne h18
  rw [show (18 : Int32).toInt = 18 from rfl] at n18
  have n19 := i32_ne h19
  rw [show (19 : Int32).toInt = 19 from rfl] at n19
  exact lv_tableOut (tgt := 74) hx hb dMa_isMet_1 (by omega) (by decide) kz
theorem sw_Ma_reckon_1 (hx : p.tables.exec = Jvm.exec) (hb : c.code = b_Ma_reckon) {x : Int32} (k0 : x = 5 → W p l e R s m args below meth c H locs cells slots Q (F0 m 32 ls rest)) (k1 : x = 6 → W p l e R s m args below meth c H locs cells slots Q (F0 m 36 ls rest)) (k2 : x = 7 → W p l e R s m args below meth c H locs cells slots Q (F0 m 40 ls rest)) (k3 : x = 8 → W p l e R s m args below meth c H locs cells slots Q (F0 m 44 ls rest)) (kd : (¬ x = 5 ∧ ¬ x = 6 ∧ ¬ x = 7 ∧ ¬ x = 8) → W p l e R s m args below meth c H locs cells slots Q (F0 m 56 ls rest)) : W p l e R s m args below meth c H locs cells slots Q (F0 m 1 ls (.int x :: rest)) := by
  by_cases h5 : x = 5
  · subst h5
    exact lv_tableIn (tgt := 32) hx hb dMa_reckon_1 (by decide) (by decide) rfl (by decide) (k0 rfl)
  by_cases h6 : x = 6
  · subst h6
    exact lv_tableIn (tgt := 36) hx hb dMa_reckon_1 (by decide) (by decide) rfl (by decide) (k1 rfl)
  by_cases h7 : x = 7
  · subst h7
    exact lv_tableIn (tgt := 40) hx hb dMa_reckon_1 (by decide) (by decide) rfl (by decide) (k2 rfl)
  by_cases h8 : x = 8
  · subst h8
    exact lv_tableIn (tgt := 44) hx hb dMa_reckon_1 (by decide) (by decide) rfl (by decide) (k3 rfl)
  have kz := kd ⟨h5, h6, h7, h8⟩
  have n5 := i32_ne h5
  rw [show (5 : Int32).toInt = 5 from rfl] at n5
  have n6 := i32_ne h6
  rw [show (6 : Int32).toInt = 6 from rfl] at n6
  have n7 := i32_ne h7
  rw [show (7 : Int32).toInt = 7 from rfl] at n7
  have n8 := i32_ne h8
  rw [show (8 : Int32).toInt = 8 from rfl] at n8
  exact lv_tableOut (tgt := 56) hx hb dMa_reckon_1 (by omega) (by decide) kz
theorem sw_Ma_combine_1 (hx : p.tables.exec = Jvm.exec) (hb : c.code = b_Ma_combine) {x : Int32} (k0 : x = 12 → W p l e R s m args below meth c H locs cells slots Q (F0 m 55 ls rest)) (k1 : x = 13 → W p l e R s m args below meth c H locs cells slots Q (F0 m 74 ls rest)) (k2 : x = 22 → W p l e R s m args below meth c H locs cells slots Q (F0 m 36 ls rest)) (kd : (¬ x = 12 ∧ ¬ x = 13 ∧ ¬ x = 22) → W p l e R s m args below meth c H locs cells slots Q (F0 m 93 ls rest)) : W p l e R s m args below meth c H locs cells slots Q (F0 m 1 ls (.int x :: rest)) := by
  by_cases h12 : x = 12
  · subst h12
    exact lv_lookup (tgt := 55) hx hb dMa_combine_1 (by decide) rfl (by decide) (k0 rfl)
  by_cases h13 : x = 13
  · subst h13
    exact lv_lookup (tgt := 74) hx hb dMa_combine_1 (by decide) rfl (by decide) (k1 rfl)
  by_cases h22 : x = 22
  · subst h22
    exact lv_lookup (tgt := 36) hx hb dMa_combine_1 (by decide) rfl (by decide) (k2 rfl)
  have kz := kd ⟨h12, h13, h22⟩
  have n12 := i32_ne h12
  rw [show (12 : Int32).toInt = 12 from rfl] at n12
  have n13 := i32_ne h13
  rw [show (13 : Int32).toInt = 13 from rfl] at n13
  have n22 := i32_ne h22
  rw [show (22 : Int32).toInt = 22 from rfl] at n22
  exact lv_lookup (tgt := 93) (off := 92) hx hb dMa_combine_1 (by decide) (by show Op.lookupswitch.offset [(12, 54), (13, 73), (22, 35)] 92 x.toInt = 92; rw [lookupswitch.offset_cons, if_neg (Ne.symm n12), lookupswitch.offset_cons, if_neg (Ne.symm n13), lookupswitch.offset_cons, if_neg (Ne.symm n22)]; rfl) (by decide) kz
theorem sw_Ma_work_1 (hx : p.tables.exec = Jvm.exec) (hb : c.code = b_Ma_work) {x : Int32} (k0 : x = 0 → W p l e R s m args below meth c H locs cells slots Q (F0 m 120 ls rest)) (k1 : x = 1 → W p l e R s m args below meth c H locs cells slots Q (F0 m 131 ls rest)) (k2 : x = 2 → W p l e R s m args below meth c H locs cells slots Q (F0 m 149 ls rest)) (k3 : x = 3 → W p l e R s m args below meth c H locs cells slots Q (F0 m 131 ls rest)) (k4 : x = 4 → W p l e R s m args below meth c H locs cells slots Q (F0 m 149 ls rest)) (k5 : x = 10 → W p l e R s m args below meth c H locs cells slots Q (F0 m 224 ls rest)) (k6 : x = 18 → W p l e R s m args below meth c H locs cells slots Q (F0 m 167 ls rest)) (k7 : x = 20 → W p l e R s m args below meth c H locs cells slots Q (F0 m 178 ls rest)) (k8 : x = 21 → W p l e R s m args below meth c H locs cells slots Q (F0 m 196 ls rest)) (k9 : x = 25 → W p l e R s m args below meth c H locs cells slots Q (F0 m 207 ls rest)) (kd : (¬ x = 0 ∧ ¬ x = 1 ∧ ¬ x = 2 ∧ ¬ x = 3 ∧ ¬ x = 4 ∧ ¬ x = 10 ∧ ¬ x = 18 ∧ ¬ x = 20 ∧ ¬ x = 21 ∧ ¬ x = 25) → W p l e R s m args below meth c H locs cells slots Q (F0 m 248 ls rest)) : W p l e R s m args below meth c H locs cells slots Q (F0 m 1 ls (.int x :: rest)) := by
  by_cases h0 : x = 0
  · subst h0
    exact lv_tableIn (tgt := 120) hx hb dMa_work_1 (by decide) (by decide) rfl (by decide) (k0 rfl)
  by_cases h1 : x = 1
  · subst h1
    exact lv_tableIn (tgt := 131) hx hb dMa_work_1 (by decide) (by decide) rfl (by decide) (k1 rfl)
  by_cases h2 : x = 2
  · subst h2
    exact lv_tableIn (tgt := 149) hx hb dMa_work_1 (by decide) (by decide) rfl (by decide) (k2 rfl)
  by_cases h3 : x = 3
  · subst h3
    exact lv_tableIn (tgt := 131) hx hb dMa_work_1 (by decide) (by decide) rfl (by decide) (k3 rfl)
  by_cases h4 : x = 4
  · subst h4
    exact lv_tableIn (tgt := 149) hx hb dMa_work_1 (by decide) (by decide) rfl (by decide) (k4 rfl)
  by_cases h10 : x = 10
  · subst h10
    exact lv_tableIn (tgt := 224) hx hb dMa_work_1 (by decide) (by decide) rfl (by decide) (k5 rfl)
  by_cases h18 : x = 18
  · subst h18
    exact lv_tableIn (tgt := 167) hx hb dMa_work_1 (by decide) (by decide) rfl (by decide) (k6 rfl)
  by_cases h20 : x = 20
  · subst h20
    exact lv_tableIn (tgt := 178) hx hb dMa_work_1 (by decide) (by decide) rfl (by decide) (k7 rfl)
  by_cases h21 : x = 21
  · subst h21
    exact lv_tableIn (tgt := 196) hx hb dMa_work_1 (by decide) (by decide) rfl (by decide) (k8 rfl)
  by_cases h25 : x = 25
  · subst h25
    exact lv_tableIn (tgt := 207) hx hb dMa_work_1 (by decide) (by decide) rfl (by decide) (k9 rfl)
  have kz := kd ⟨h0, h1, h2, h3, h4, h10, h18, h20, h21, h25⟩
  by_cases h5 : x = 5
  · subst h5
    exact lv_tableIn (tgt := 248) hx hb dMa_work_1 (by decide) (by decide) rfl (by decide) (kz)
  by_cases h6 : x = 6
  · subst h6
    exact lv_tableIn (tgt := 248) hx hb dMa_work_1 (by decide) (by decide) rfl (by decide) (kz)
  by_cases h7 : x = 7
  · subst h7
    exact lv_tableIn (tgt := 248) hx hb dMa_work_1 (by decide) (by decide) rfl (by decide) (kz)
  by_cases h8 : x = 8
  · subst h8
    exact lv_tableIn (tgt := 248) hx hb dMa_work_1 (by decide) (by decide) rfl (by decide) (kz)
  by_cases h9 : x = 9
  · subst h9
    exact lv_tableIn (tgt := 248) hx hb dMa_work_1 (by decide) (by decide) rfl (by decide) (kz)
  by_cases h11 : x = 11
  · subst h11
    exact lv_tableIn (tgt := 248) hx hb dMa_work_1 (by decide) (by decide) rfl (by decide) (kz)
  by_cases h12 : x = 12
  · subst h12
    exact lv_tableIn (tgt := 248) hx hb dMa_work_1 (by decide) (by decide) rfl (by decide) (kz)
  by_cases h13 : x = 13
  · subst h13
    exact lv_tableIn (tgt := 248) hx hb dMa_work_1 (by decide) (by decide) rfl (by decide) (kz)
  by_cases h14 : x = 14
  · subst h14
    exact lv_tableIn (tgt := 248) hx hb dMa_work_1 (by decide) (by decide) rfl (by decide) (kz)
  by_cases h15 : x = 15
  · subst h15
    exact lv_tableIn (tgt := 248) hx hb dMa_work_1 (by decide) (by decide) rfl (by decide) (kz)
  by_cases h16 : x = 16
  · subst h16
    exact lv_tableIn (tgt := 248) hx hb dMa_work_1 (by decide) (by decide) rfl (by decide) (kz)
  by_cases h17 : x = 17
  · subst h17
    exact lv_tableIn (tgt := 248) hx hb dMa_work_1 (by decide) (by decide) rfl (by decide) (kz)
  by_cases h19 : x = 19
  · subst h19
    exact lv_tableIn (tgt := 248) hx hb dMa_work_1 (by decide) (by decide) rfl (by decide) (kz)
  by_cases h22 : x = 22
  · subst h22
    exact lv_tableIn (tgt := 248) hx hb dMa_work_1 (by decide) (by decide) rfl (by decide) (kz)
  by_cases h23 : x = 23
  · subst h23
    exact lv_tableIn (tgt := 248) hx hb dMa_work_1 (by decide) (by decide) rfl (by decide) (kz)
  by_cases h24 : x = 24
  · subst h24
    exact lv_tableIn (tgt := 248) hx hb dMa_work_1 (by decide) (by decide) rfl (by decide) (kz)
  have n0 := i32_ne h0
  rw [show (0 : Int32).toInt = 0 from rfl] at n0
  have n1 := i32_ne h1
  rw [show (1 : Int32).toInt = 1 from rfl] at n1
  have n2 := i32_ne h2
  rw [show (2 : Int32).toInt = 2 from rfl] at n2
  have n3 := i32_ne h3
  rw [show (3 : Int32).toInt = 3 from rfl] at n3
  have n4 := i32_ne h4
  rw [show (4 : Int32).toInt = 4 from rfl] at n4
  have n5 := i32_ne h5
  rw [show (5 : Int32).toInt = 5 from rfl] at n5
  have n6 := i32_ne h6
  rw [show (6 : Int32).toInt = 6 from rfl] at n6
  have n7 := i32_ne h7
  rw [show (7 : Int32).toInt = 7 from rfl] at n7
  have n8 := i32_ne h8
  rw [show (8 : Int32).toInt = 8 from rfl] at n8
  have n9 := i32_ne h9
  rw [show (9 : Int32).toInt = 9 from rfl] at n9
  have n10 := i32_ne h10
  rw [show (10 : Int32).toInt = 10 from rfl] at n10
  have n11 := i32_ne h11
  rw [show (11 : Int32).toInt = 11 from rfl] at n11
  have n12 := i32_ne h12
  rw [show (12 : Int32).toInt = 12 from rfl] at n12
  have n13 := i32_ne h13
  rw [show (13 : Int32).toInt = 13 from rfl] at n13
  have n14 := i32_ne h14
  rw [show (14 : Int32).toInt = 14 from rfl] at n14
  have n15 := i32_ne h15
  rw [show (15 : Int32).toInt = 15 from rfl] at n15
  have n16 := i32_ne h16
  rw [show (16 : Int32).toInt = 16 from rfl] at n16
  have n17 := i32_ne h17
  rw [show (17 : Int32).toInt = 17 from rfl] at n17
  have n18 := i32_ne h18
  rw [show (18 : Int32).toInt = 18 from rfl] at n18
  have n19 := i32_ne h19
  rw [show (19 : Int32).toInt = 19 from rfl] at n19
  have n20 := i32_ne h20
  rw [show (20 : Int32).toInt = 20 from rfl] at n20
  have n21 := i32_ne h21
  rw [show (21 : Int32).toInt = 21 from rfl] at n21
  have n22 := i32_ne h22
  rw [show (22 : Int32).toInt = 22 from rfl] at n22
  have n23 := i32_ne h23
  rw [show (23 : Int32).toInt = 23 from rfl] at n23
  have n24 := i32_ne h24
  rw [show (24 : Int32).toInt = 24 from rfl] at n24
  have n25 := i32_ne h25
  rw [show (25 : Int32).toInt = 25 from rfl] at n25
  exact lv_tableOut (tgt := 248) hx hb dMa_work_1 (by omega) (by decide) kz
theorem sw_Ma_tell_1 (hx : p.tables.exec = Jvm.exec) (hb : c.code = b_Ma_tell) {x : Int32} (k0 : x = 0 → W p l e R s m args below meth c H locs cells slots Q (F0 m 48 ls rest)) (k1 : x = 1 → W p l e R s m args below meth c H locs cells slots Q (F0 m 53 ls rest)) (k2 : x = 2 → W p l e R s m args below meth c H locs cells slots Q (F0 m 58 ls rest)) (k3 : x = 3 → W p l e R s m args below meth c H locs cells slots Q (F0 m 66 ls rest)) (k4 : x = 4 → W p l e R s m args below meth c H locs cells slots Q (F0 m 74 ls rest)) (k5 : x = 5 → W p l e R s m args below meth c H locs cells slots Q (F0 m 82 ls rest)) (k6 : x = 6 → W p l e R s m args below meth c H locs cells slots Q (F0 m 87 ls rest)) (k7 : x = 7 → W p l e R s m args below meth c H locs cells slots Q (F0 m 95 ls rest)) (kd : (¬ x = 0 ∧ ¬ x = 1 ∧ ¬ x = 2 ∧ ¬ x = 3 ∧ ¬ x = 4 ∧ ¬ x = 5 ∧ ¬ x = 6 ∧ ¬ x = 7) → W p l e R s m args below meth c H locs cells slots Q (F0 m 103 ls rest)) : W p l e R s m args below meth c H locs cells slots Q (F0 m 1 ls (.int x :: rest)) := by
  by_cases h0 : x = 0
  · subst h0
    exact lv_tableIn (tgt := 48) hx hb dMa_tell_1 (by decide) (by decide) rfl (by decide) (k0 rfl)
  by_cases h1 : x = 1
  · subst h1
    exact lv_tableIn (tgt := 53) hx hb dMa_tell_1 (by decide) (by decide) rfl (by decide) (k1 rfl)
  by_cases h2 : x = 2
  · subst h2
    exact lv_tableIn (tgt := 58) hx hb dMa_tell_1 (by decide) (by decide) rfl (by decide) (k2 rfl)
  by_cases h3 : x = 3
  · subst h3
    exact lv_tableIn (tgt := 66) hx hb dMa_tell_1 (by decide) (by decide) rfl (by decide) (k3 rfl)
  by_cases h4 : x = 4
  · subst h4
    exact lv_tableIn (tgt := 74) hx hb dMa_tell_1 (by decide) (by decide) rfl (by decide) (k4 rfl)
  by_cases h5 : x = 5
  · subst h5
    exact lv_tableIn (tgt := 82) hx hb dMa_tell_1 (by decide) (by decide) rfl (by decide) (k5 rfl)
  by_cases h6 : x = 6
  · subst h6
    exact lv_tableIn (tgt := 87) hx hb dMa_tell_1 (by decide) (by decide) rfl (by decide) (k6 rfl)
  by_cases h7 : x = 7
  · subst h7
    exact lv_tableIn (tgt := 95) hx hb dMa_tell_1 (by decide) (by decide) rfl (by decide) (k7 rfl)
  have kz := kd ⟨h0, h1, h2, h3, h4, h5, h6, h7⟩
  have n0 := i32_ne h0
  rw [show (0 : Int32).toInt = 0 from rfl] at n0
  have n1 := i32_ne h1
  rw [show (1 : Int32).toInt = 1 from rfl] at n1
  have n2 := i32_ne h2
  rw [show (2 : Int32).toInt = 2 from rfl] at n2
  have n3 := i32_ne h3
  rw [show (3 : Int32).toInt = 3 from rfl] at n3
  have n4 := i32_ne h4
  rw [show (4 : Int32).toInt = 4 from rfl] at n4
  have n5 := i32_ne h5
  rw [show (5 : Int32).toInt = 5 from rfl] at n5
  have n6 := i32_ne h6
  rw [show (6 : Int32).toInt = 6 from rfl] at n6
  have n7 := i32_ne h7
  rw [show (7 : Int32).toInt = 7 from rfl] at n7
  exact lv_tableOut (tgt := 103) hx hb dMa_tell_1 (by omega) (by decide) kz
theorem sw_MM_worked_1 (hx : p.tables.exec = Jvm.exec) (hb : c.code = b_MM_worked) {x : Int32} (k0 : x = 5 → W p l e R s m args below meth c H locs cells slots Q (F0 m 32 ls rest)) (k1 : x = 6 → W p l e R s m args below meth c H locs cells slots Q (F0 m 36 ls rest)) (k2 : x = 7 → W p l e R s m args below meth c H locs cells slots Q (F0 m 40 ls rest)) (k3 : x = 8 → W p l e R s m args below meth c H locs cells slots Q (F0 m 44 ls rest)) (kd : (¬ x = 5 ∧ ¬ x = 6 ∧ ¬ x = 7 ∧ ¬ x = 8) → W p l e R s m args below meth c H locs cells slots Q (F0 m 48 ls rest)) : W p l e R s m args below meth c H locs cells slots Q (F0 m 1 ls (.int x :: rest)) := by
  by_cases h5 : x = 5
  · subst h5
    exact lv_tableIn (tgt := 32) hx hb dMM_worked_1 (by decide) (by decide) rfl (by decide) (k0 rfl)
  by_cases h6 : x = 6
  · subst h6
    exact lv_tableIn (tgt := 36) hx hb dMM_worked_1 (by decide) (by decide) rfl (by decide) (k1 rfl)
  by_cases h7 : x = 7
  · subst h7
    exact lv_tableIn (tgt := 40) hx hb dMM_worked_1 (by decide) (by decide) rfl (by decide) (k2 rfl)
  by_cases h8 : x = 8
  · subst h8
    exact lv_tableIn (tgt := 44) hx hb dMM_worked_1 (by decide) (by decide) rfl (by decide) (k3 rfl)
  have kz := kd ⟨h5, h6, h7, h8⟩
  have n5 := i32_ne h5
  rw [show (5 : Int32).toInt = 5 from rfl] at n5
  have n6 := i32_ne h6
  rw [show (6 : Int32).toInt = 6 from rfl] at n6
  have n7 := i32_ne h7
  rw [show (7 : Int32).toInt = 7 from rfl] at n7
  have n8 := i32_ne h8
  rw [show (8 : Int32).toInt = 8 from rfl] at n8
  exact lv_tableOut (tgt := 48) hx hb dMM_worked_1 (by omega) (by decide) kz
theorem sw_MM_state_22 (hx : p.tables.exec = Jvm.exec) (hb : c.code = b_MM_state) {x : Int32} (k0 : x = 0 → W p l e R s m args below meth c H locs cells slots Q (F0 m 68 ls rest)) (k1 : x = 1 → W p l e R s m args below meth c H locs cells slots Q (F0 m 95 ls rest)) (k2 : x = 2 → W p l e R s m args below meth c H locs cells slots Q (F0 m 100 ls rest)) (k3 : x = 3 → W p l e R s m args below meth c H locs cells slots Q (F0 m 105 ls rest)) (k4 : x = 4 → W p l e R s m args below meth c H locs cells slots Q (F0 m 128 ls rest)) (k5 : x = 5 → W p l e R s m args below meth c H locs cells slots Q (F0 m 151 ls rest)) (k6 : x = 6 → W p l e R s m args below meth c H locs cells slots Q (F0 m 156 ls rest)) (k7 : x = 7 → W p l e R s m args below meth c H locs cells slots Q (F0 m 161 ls rest)) (kd : (¬ x = 0 ∧ ¬ x = 1 ∧ ¬ x = 2 ∧ ¬ x = 3 ∧ ¬ x = 4 ∧ ¬ x = 5 ∧ ¬ x = 6 ∧ ¬ x = 7) → W p l e R s m args below meth c H locs cells slots Q (F0 m 166 ls rest)) : W p l e R s m args below meth c H locs cells slots Q (F0 m 22 ls (.int x :: rest)) := by
  by_cases h0 : x = 0
  · subst h0
    exact lv_tableIn (tgt := 68) hx hb dMM_state_22 (by decide) (by decide) rfl (by decide) (k0 rfl)
  by_cases h1 : x = 1
  · subst h1
    exact lv_tableIn (tgt := 95) hx hb dMM_state_22 (by decide) (by decide) rfl (by decide) (k1 rfl)
  by_cases h2 : x = 2
  · subst h2
    exact lv_tableIn (tgt := 100) hx hb dMM_state_22 (by decide) (by decide) rfl (by decide) (k2 rfl)
  by_cases h3 : x = 3
  · subst h3
    exact lv_tableIn (tgt := 105) hx hb dMM_state_22 (by decide) (by decide) rfl (by decide) (k3 rfl)
  by_cases h4 : x = 4
  · subst h4
    exact lv_tableIn (tgt := 128) hx hb dMM_state_22 (by decide) (by decide) rfl (by decide) (k4 rfl)
  by_cases h5 : x = 5
  · subst h5
    exact lv_tableIn (tgt := 151) hx hb dMM_state_22 (by decide) (by decide) rfl (by decide) (k5 rfl)
  by_cases h6 : x = 6
  · subst h6
    exact lv_tableIn (tgt := 156) hx hb dMM_state_22 (by decide) (by decide) rfl (by decide) (k6 rfl)
  by_cases h7 : x = 7
  · subst h7
    exact lv_tableIn (tgt := 161) hx hb dMM_state_22 (by decide) (by decide) rfl (by decide) (k7 rfl)
  have kz := kd ⟨h0, h1, h2, h3, h4, h5, h6, h7⟩
  have n0 := i32_ne h0
  rw [show (0 : Int32).toInt = 0 from rfl] at n0
  have n1 := i32_ne h1
  rw [show (1 : Int32).toInt = 1 from rfl] at n1
  have n2 := i32_ne h2
  rw [show (2 : Int32).toInt = 2 from rfl] at n2
  have n3 := i32_ne h3
  rw [show (3 : Int32).toInt = 3 from rfl] at n3
  have n4 := i32_ne h4
  rw [show (4 : Int32).toInt = 4 from rfl] at n4
  have n5 := i32_ne h5
  rw [show (5 : Int32).toInt = 5 from rfl] at n5
  have n6 := i32_ne h6
  rw [show (6 : Int32).toInt = 6 from rfl] at n6
  have n7 := i32_ne h7
  rw [show (7 : Int32).toInt = 7 from rfl] at n7
  exact lv_tableOut (tgt := 166) hx hb dMM_state_22 (by omega) (by decide) kz
end SW
