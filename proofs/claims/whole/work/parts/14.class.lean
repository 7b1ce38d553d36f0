def wp_Sh_takeAny (I : SI) (F : SF) (Post : Int32 → SI → SF → Prop) : Prop := ((I 5) ≤ 0 → (Post 0 I F)) ∧ (¬ (I 5) ≤ 0 → (∃ P2 : Int32 → SI → SF → Prop, wp_Sh_take 1 ((I 6) >>> (((I 5) - 1) &&& 31)) I F P2 ∧ ∀ r2 I2 F2, P2 r2 I2 F2 → ((r2 = 0 → (Post 0 I2 F2)) ∧ (¬ r2 = 0 → (Post 1 I2 F2)))))
set_option maxHeartbeats 4000000 in
set_option maxRecDepth 100000 in
theorem c_Sh_takeAny (l : Launch) (D : va_G) (a : Nat → Nat) (cI cZ cQ : ClassId) (hJ : xJ 47 a) (I : SI) (F : SF) (sz : Nat) (Post : Int32 → SI → SF → Prop) (hw : wp_Sh_takeAny I F Post) : Met l y_Sh_takeAny (Cond.code y_Sh_takeAny b_Sh_takeAny 1 (some .boolean) :: TB) { frames := 1, cells := 0, slots := 0, locals := 22 } (va_Pc [.ref (a 10)] (cP D a cI cZ cQ I F sz)) (va_Qi (fun r (u : SI × SF) => Post r u.1 u.2) (fun u t => va_P D vwCl (cw a cI cZ cQ u.1 u.2) t.heap) (xA 47 a sz)) 0 0 (xA 47 a sz) := by
  refine Met.ofW (cc := b_Sh_takeAny) (maxL := 1) (ret := (some .boolean)) (by decide) rfl ?_
  intro p e s m args below meth c s₁ B hml hv
  obtain ⟨rfl, rfl, hP, hK, hN⟩ := hv
  have hx := B.exec
  have hb := B.bytes
  have hr := B.returns
  have hts : ∀ w ∈ TB, w.before _ s = true := fun w h => atoms_spec (ws := Cond.code y_Sh_takeAny b_Sh_takeAny 1 (some .boolean) :: TB) B.pre w (List.mem_cons_of_mem _ h)
  have hown : s.vm.findClass "CodeJudge$Shape" = some m.cls := findClass_of_methodNamed B.named
  have hlocks := B.notSynchronized
  have hl := lv_entry ([.ref (a 10)]) (n := 1) (Nat.le_of_ble_eq_true rfl)
  rw [lg_entry_eq]
  generalize (lg_sl ([.ref (a 10)]) ++ List.replicate (1 - (lg_sl ([.ref (a 10)])).length) Slot.unset).toArray = ls at hl ⊢
  have hl : lv_has ls 1 [(0, .ref (a 10))] := hl
  suffices hM : ∀ (H : Heap) (locs : List Loc), va_P D vwCl (cw a cI cZ cQ I F) H → va_S (xA 47 a s.heap.size) s.heap H locs → W p l e (headSpec (Cond.code y_Sh_takeAny b_Sh_takeAny 1 (some .boolean) :: TB) { frames := 1, cells := 0, slots := 0, locals := 22 }).room s m ([.ref (a 10)]).toArray below meth c H locs 0 0 (MQ below (va_Qi (fun r (u : SI × SF) => Post r u.1 u.2) (fun u t => va_P D vwCl (cw a cI cZ cQ u.1 u.2) t.heap) (xA 47 a s.heap.size)) ([.ref (a 10)]).toArray s 0 0 (xA 47 a s.heap.size)) (F0 m 0 ls []) from hM s.heap [] hP va_S.rf
  clear hP
  intro H locs hP hS
  dsimp only [wp_Sh_takeAny] at hw
  refine lv_aload_n hx hb dSh_takeAny_0 rfl (lv_at hl 0 rfl) ?_
  refine va_get (D := D) (v := .int (I 5)) (ci := 6) (C := "CodeJudge$Shape") (T := T_Sh) (N := 4) hx hb hts in_Sh hown hK hP 10 cw_10 rfl 0 (by decide) (hts (.fieldLink "CodeJudge$Shape" 9 "CodeJudge$Shape" "high" "I") tw_1_87) (fun _ h9 => h9) rfl dSh_takeAny_1 ?_
  refine lv_if_le (tgt := 30) hx hb dSh_takeAny_4 (by decide) (fun h1 => ?_) (fun h1 => ?_)
  · have hw := hw.1 h1
    refine lv_iconst (v := 0) hx hb dSh_takeAny_30 (by decide) ?_
    exact W.zret (v := 0) hx hb hr rfl (fun t ht hW => ⟨⟨0, (I, F), rfl, hw, by subst ht; exact hP⟩, hS.F ht⟩) hS.2.2 dSh_takeAny_31
  · have hw := hw.2 h1
    refine lv_aload_n hx hb dSh_takeAny_7 rfl (lv_at hl 0 rfl) ?_
    refine lv_iconst (v := 1) hx hb dSh_takeAny_8 (by decide) ?_
    refine lv_aload_n hx hb dSh_takeAny_9 rfl (lv_at hl 0 rfl) ?_
    refine va_get (D := D) (v := .int (I 6)) (ci := 6) (C := "CodeJudge$Shape") (T := T_Sh) (N := 4) hx hb hts in_Sh hown hK hP 10 cw_10 rfl 1 (by decide) (hts (.fieldLink "CodeJudge$Shape" 15 "CodeJudge$Shape" "stack" "I") tw_1_89) (fun _ h9 => h9) rfl dSh_takeAny_10 ?_
    refine lv_aload_n hx hb dSh_takeAny_13 rfl (lv_at hl 0 rfl) ?_
    refine va_get (D := D) (v := .int (I 5)) (ci := 6) (C := "CodeJudge$Shape") (T := T_Sh) (N := 4) hx hb hts in_Sh hown hK hP 10 cw_10 rfl 0 (by decide) (hts (.fieldLink "CodeJudge$Shape" 9 "CodeJudge$Shape" "high" "I") tw_1_87) (fun _ h9 => h9) rfl dSh_takeAny_14 ?_
    refine lv_iconst (v := 1) hx hb dSh_takeAny_17 (by decide) ?_
    refine lv_isub hx hb dSh_takeAny_18 ?_
    refine lv_ishr hx hb dSh_takeAny_19 ?_
    obtain ⟨P2, hc2, hw⟩ := hw
    refine cc_i (va_runV (As := [.int 1, .int ((I 6) >>> (((I 5) - 1) &&& 31))]) (rest := []) ⟨hx, hb, hml, hown, hts⟩ (c_Sh_take l D a cI cZ cQ hJ I F 1 ((I 6) >>> (((I 5) - 1) &&& 31)) H.size P2 hc2) (cwV 2 hts (tb_V (C := "CodeJudge$Shape") wc_Sh_take tw_2_233 tw_2_218 tw_2_219 tw_1_4) rfl rfl rfl (by decide +kernel) ⟨Nat.le_of_ble_eq_true rfl, Nat.le_of_ble_eq_true rfl⟩) ⟨cP_bl, va_recv hK hP rfl cw_10, cP_at hP hK hN⟩ rfl rfl hl.1 rfl (lv_room (Nat.le_of_ble_eq_true rfl)) dSh_takeAny_20 ⟨Nat.le_of_ble_eq_true rfl, Nat.le_of_ble_eq_true rfl⟩) hS (fun r2 I2 F2 H locs hP hp2 hS => ?_)
    have hw := hw r2 I2 F2 hp2
    refine lv_if_eq (tgt := 30) hx hb dSh_takeAny_23 (by decide) (fun h3 => ?_) (fun h3 => ?_)
    · have hw := hw.1 h3
      refine lv_iconst (v := 0) hx hb dSh_takeAny_30 (by decide) ?_
      exact W.zret (v := 0) hx hb hr rfl (fun t ht hW => ⟨⟨0, (I2, F2), rfl, hw, by subst ht; exact hP⟩, hS.F ht⟩) hS.2.2 dSh_takeAny_31
    · have hw := hw.2 h3
      refine lv_iconst (v := 1) hx hb dSh_takeAny_26 (by decide) ?_
      refine lv_goto (tgt := 31) hx hb dSh_takeAny_27 (by decide) ?_
      exact W.zret (v := 1) hx hb hr rfl (fun t ht hW => ⟨⟨1, (I2, F2), rfl, hw, by subst ht; exact hP⟩, hS.F ht⟩) hS.2.2 dSh_takeAny_31
def wp_Sh_turn (I : SI) (F : SF) (Post : Int32 → SI → SF → Prop) : Prop := (2 ≤ (I 5) → (∀ x2 : Int32, x2 = (I 6) >>> (((I 5) - 1) &&& 31) → ∀ x3 : Int32, x3 = ((I 6) >>> (((I 5) - 2) &&& 31)) &&& 1 → ∀ x4 : Int32, x4 = (I 6) &&& (((1 : Int32) <<< (((I 5) - 2) &&& 31)) - 1) → (Post 1 (va_up I 6 ((x4 ||| (x2 <<< (((I 5) - 2) &&& 31))) ||| (x3 <<< (((I 5) - 1) &&& 31)))) F))) ∧ (¬ 2 ≤ (I 5) → (Post 0 I F))
set_option maxHeartbeats 4000000 in
set_option maxRecDepth 100000 in
theorem c_Sh_turn (l : Launch) (D : va_G) (a : Nat → Nat) (cI cZ cQ : ClassId) (hJ : xJ 47 a) (I : SI) (F : SF) (sz : Nat) (Post : Int32 → SI → SF → Prop) (hw : wp_Sh_turn I F Post) : Met l y_Sh_turn (Cond.code y_Sh_turn b_Sh_turn 4 (some .boolean) :: TB) { frames := 0, cells := 0, slots := 0, locals := 0 } (va_Pc [.ref (a 10)] (cP D a cI cZ cQ I F sz)) (va_Qi (fun r (u : SI × SF) => Post r u.1 u.2) (fun u t => va_P D vwCl (cw a cI cZ cQ u.1 u.2) t.heap) (xA 47 a sz)) 0 0 (xA 47 a sz) := by
  refine Met.ofW (cc := b_Sh_turn) (maxL := 4) (ret := (some .boolean)) (by decide) rfl ?_
  intro p e s m args below meth c s₁ B hml hv
  obtain ⟨rfl, rfl, hP, hK, hN⟩ := hv
  have hx := B.exec
  have hb := B.bytes
  have hr := B.returns
  have hts : ∀ w ∈ TB, w.before _ s = true := fun w h => atoms_spec (ws := Cond.code y_Sh_turn b_Sh_turn 4 (some .boolean) :: TB) B.pre w (List.mem_cons_of_mem _ h)
  have hown : s.vm.findClass "CodeJudge$Shape" = some m.cls := findClass_of_methodNamed B.named
  have hlocks := B.notSynchronized
  have hl := lv_entry ([.ref (a 10)]) (n := 4) (Nat.le_of_ble_eq_true rfl)
  rw [lg_entry_eq]
  generalize (lg_sl ([.ref (a 10)]) ++ List.replicate (4 - (lg_sl ([.ref (a 10)])).length) Slot.unset).toArray = ls at hl ⊢
  have hl : lv_has ls 4 [(0, .ref (a 10))] := hl
  suffices hM : ∀ (H : Heap) (locs : List Loc), va_P D vwCl (cw a cI cZ cQ I F) H → va_S (xA 47 a s.heap.size) s.heap H locs → W p l e (headSpec (Cond.code y_Sh_turn b_Sh_turn 4 (some .boolean) :: TB) { frames := 0, cells := 0, slots := 0, locals := 0 }).room s m ([.ref (a 10)]).toArray below meth c H locs 0 0 (MQ below (va_Qi (fun r (u : SI × SF) => Post r u.1 u.2) (fun u t => va_P D vwCl (cw a cI cZ cQ u.1 u.2) t.heap) (xA 47 a s.heap.size)) ([.ref (a 10)]).toArray s 0 0 (xA 47 a s.heap.size)) (F0 m 0 ls []) from hM s.heap [] hP va_S.rf
  clear hP
  intro H locs hP hS
  dsimp only [wp_Sh_turn] at hw
  refine lv_aload_n hx hb dSh_turn_0 rfl (lv_at hl 0 rfl) ?_
  refine va_get (D := D) (v := .int (I 5)) (ci := 6) (C := "CodeJudge$Shape") (T := T_Sh) (N := 4) hx hb hts in_Sh hown hK hP 10 cw_10 rfl 0 (by decide) (hts (.fieldLink "CodeJudge$Shape" 9 "CodeJudge$Shape" "high" "I") tw_1_87) (fun _ h9 => h9) rfl dSh_turn_1 ?_
  refine lv_iconst (v := 2) hx hb dSh_turn_4 (by decide) ?_
  refine lv_icmp_ge (tgt := 10) hx hb dSh_turn_5 (by decide) (fun h1 => ?_) (fun h1 => ?_)
  · have hw := hw.1 h1
    refine lv_aload_n hx hb dSh_turn_10 rfl (lv_at hl 0 rfl) ?_
    refine va_get (D := D) (v := .int (I 6)) (ci := 6) (C := "CodeJudge$Shape") (T := T_Sh) (N := 4) hx hb hts in_Sh hown hK hP 10 cw_10 rfl 1 (by decide) (hts (.fieldLink "CodeJudge$Shape" 15 "CodeJudge$Shape" "stack" "I") tw_1_89) (fun _ h9 => h9) rfl dSh_turn_11 ?_
    refine lv_aload_n hx hb dSh_turn_14 rfl (lv_at hl 0 rfl) ?_
    refine va_get (D := D) (v := .int (I 5)) (ci := 6) (C := "CodeJudge$Shape") (T := T_Sh) (N := 4) hx hb hts in_Sh hown hK hP 10 cw_10 rfl 0 (by decide) (hts (.fieldLink "CodeJudge$Shape" 9 "CodeJudge$Shape" "high" "I") tw_1_87) (fun _ h9 => h9) rfl dSh_turn_15 ?_
    refine lv_iconst (v := 1) hx hb dSh_turn_18 (by decide) ?_
    refine lv_isub hx hb dSh_turn_19 ?_
    refine lv_ishr hx hb dSh_turn_20 ?_
    refine lv_topi (fun x2 e_x2 => ?_)
    have hw := hw x2 e_x2
    refine lv_istore_n (lv' := [(1, .int x2), (0, .ref (a 10))]) hx hb dSh_turn_21 rfl hl (by decide) rfl (fun ls hl => ?_)
    refine lv_aload_n hx hb dSh_turn_22 rfl (lv_at hl 1 rfl) ?_
    refine va_get (D := D) (v := .int (I 6)) (ci := 6) (C := "CodeJudge$Shape") (T := T_Sh) (N := 4) hx hb hts in_Sh hown hK hP 10 cw_10 rfl 1 (by decide) (hts (.fieldLink "CodeJudge$Shape" 15 "CodeJudge$Shape" "stack" "I") tw_1_89) (fun _ h9 => h9) rfl dSh_turn_23 ?_
    refine lv_aload_n hx hb dSh_turn_26 rfl (lv_at hl 1 rfl) ?_
    refine va_get (D := D) (v := .int (I 5)) (ci := 6) (C := "CodeJudge$Shape") (T := T_Sh) (N := 4) hx hb hts in_Sh hown hK hP 10 cw_10 rfl 0 (by decide) (hts (.fieldLink "CodeJudge$Shape" 9 "CodeJudge$Shape" "high" "I") tw_1_87) (fun _ h9 => h9) rfl dSh_turn_27 ?_
    refine lv_iconst (v := 2) hx hb dSh_turn_30 (by decide) ?_
    refine lv_isub hx hb dSh_turn_31 ?_
    refine lv_ishr hx hb dSh_turn_32 ?_
    refine lv_iconst (v := 1) hx hb dSh_turn_33 (by decide) ?_
    refine lv_iand hx hb dSh_turn_34 ?_
    refine lv_topi (fun x3 e_x3 => ?_)
    have hw := hw x3 e_x3
    refine lv_istore_n (lv' := [(2, .int x3), (1, .int x2), (0, .ref (a 10))]) hx hb dSh_turn_35 rfl hl (by decide) rfl (fun ls hl => ?_)
    refine lv_aload_n hx hb dSh_turn_36 rfl (lv_at hl 2 rfl) ?_
    refine va_get (D := D) (v := .int (I 6)) (ci := 6) (C := "CodeJudge$Shape") (T := T_Sh) (N := 4) hx hb hts in_Sh hown hK hP 10 cw_10 rfl 1 (by decide) (hts (.fieldLink "CodeJudge$Shape" 15 "CodeJudge$Shape" "stack" "I") tw_1_89) (fun _ h9 => h9) rfl dSh_turn_37 ?_
    refine lv_iconst (v := 1) hx hb dSh_turn_40 (by decide) ?_
    refine lv_aload_n hx hb dSh_turn_41 rfl (lv_at hl 2 rfl) ?_
    refine va_get (D := D) (v := .int (I 5)) (ci := 6) (C := "CodeJudge$Shape") (T := T_Sh) (N := 4) hx hb hts in_Sh hown hK hP 10 cw_10 rfl 0 (by decide) (hts (.fieldLink "CodeJudge$Shape" 9 "CodeJudge$Shape" "high" "I") tw_1_87) (fun _ h9 => h9) rfl dSh_turn_42 ?_
    refine lv_iconst (v := 2) hx hb dSh_turn_45 (by decide) ?_
    refine lv_isub hx hb dSh_turn_46 ?_
    refine lv_ishl hx hb dSh_turn_47 ?_
    refine lv_iconst (v := 1) hx hb dSh_turn_48 (by decide) ?_
    refine lv_isub hx hb dSh_turn_49 ?_
    refine lv_iand hx hb dSh_turn_50 ?_
    refine lv_topi (fun x4 e_x4 => ?_)
    have hw := hw x4 e_x4
    refine lv_istore_n (lv' := [(3, .int x4), (2, .int x3), (1, .int x2), (0, .ref (a 10))]) hx hb dSh_turn_51 rfl hl (by decide) rfl (fun ls hl => ?_)
    refine lv_aload_n hx hb dSh_turn_52 rfl (lv_at hl 3 rfl) ?_
    refine lv_iload_n hx hb dSh_turn_53 rfl (lv_at hl 0 rfl) ?_
    refine lv_iload_n hx hb dSh_turn_54 rfl (lv_at hl 2 rfl) ?_
    refine lv_aload_n hx hb dSh_turn_55 rfl (lv_at hl 3 rfl) ?_
    refine va_get (D := D) (v := .int (I 5)) (ci := 6) (C := "CodeJudge$Shape") (T := T_Sh) (N := 4) hx hb hts in_Sh hown hK hP 10 cw_10 rfl 0 (by decide) (hts (.fieldLink "CodeJudge$Shape" 9 "CodeJudge$Shape" "high" "I") tw_1_87) (fun _ h9 => h9) rfl dSh_turn_56 ?_
    refine lv_iconst (v := 2) hx hb dSh_turn_59 (by decide) ?_
    refine lv_isub hx hb dSh_turn_60 ?_
    refine lv_ishl hx hb dSh_turn_61 ?_
    refine lv_ior hx hb dSh_turn_62 ?_
    refine lv_iload_n hx hb dSh_turn_63 rfl (lv_at hl 1 rfl) ?_
    refine lv_aload_n hx hb dSh_turn_64 rfl (lv_at hl 3 rfl) ?_
    refine va_get (D := D) (v := .int (I 5)) (ci := 6) (C := "CodeJudge$Shape") (T := T_Sh) (N := 4) hx hb hts in_Sh hown hK hP 10 cw_10 rfl 0 (by decide) (hts (.fieldLink "CodeJudge$Shape" 9 "CodeJudge$Shape" "high" "I") tw_1_87) (fun _ h9 => h9) rfl dSh_turn_65 ?_
    refine lv_iconst (v := 1) hx hb dSh_turn_68 (by decide) ?_
    refine lv_isub hx hb dSh_turn_69 ?_
    refine lv_ishl hx hb dSh_turn_70 ?_
    refine lv_ior hx hb dSh_turn_71 ?_
    refine va_put (D := D) (ci := 6) (v := .int ((x4 ||| (x2 <<< (((I 5) - 2) &&& 31))) ||| (x3 <<< (((I 5) - 1) &&& 31)))) (ty := .int) (C := "CodeJudge$Shape") (T := T_Sh) (N := 4) hx hb hts in_Sh ty_Sh ok_Sh nm_Sh hown hK hP (cD hJ) hS 10 cw_10 rfl 1 (by decide) (hts (.fieldLink "CodeJudge$Shape" 15 "CodeJudge$Shape" "stack" "I") tw_1_89) (fun _ h9 => h9) rfl (by decide +kernel) rfl rfl (Nat.le_of_ble_eq_true rfl) dSh_turn_72 (fun H locs hP _ hS => ?_)
    have hP := cwp_6 hP
    refine lv_iconst (v := 1) hx hb dSh_turn_75 (by decide) ?_
    exact W.zret (v := 1) hx hb hr rfl (fun t ht hW => ⟨⟨1, ((va_up I 6 ((x4 ||| (x2 <<< (((I 5) - 2) &&& 31))) ||| (x3 <<< (((I 5) - 1) &&& 31)))), F), rfl, hw, by subst ht; exact hP⟩, hS.F ht⟩) hS.2.2 dSh_turn_76
  · have hw := hw.2 h1
    refine lv_iconst (v := 0) hx hb dSh_turn_8 (by decide) ?_
    exact W.zret (v := 0) hx hb hr rfl (fun t ht hW => ⟨⟨0, (I, F), rfl, hw, by subst ht; exact hP⟩, hS.F ht⟩) hS.2.2 dSh_turn_9
def wp_Or_isArithmetic (p1 : Int32) (I : SI) (F : SF) (Post : Int32 → SI → SF → Prop) : Prop := (p1 < 5 → (Post 0 I F)) ∧ (¬ p1 < 5 → ((9 < p1 → (Post 0 I F)) ∧ (¬ 9 < p1 → (Post 1 I F))))
set_option maxHeartbeats 4000000 in
set_option maxRecDepth 100000 in
theorem c_Or_isArithmetic (l : Launch) (D : va_G) (a : Nat → Nat) (cI cZ cQ : ClassId) (hJ : xJ 47 a) (I : SI) (F : SF) (p1 : Int32) (sz : Nat) (Post : Int32 → SI → SF → Prop) (hw : wp_Or_isArithmetic p1 I F Post) : Met l y_Or_isArithmetic (Cond.code y_Or_isArithmetic b_Or_isArithmetic 1 (some .boolean) :: TB) { frames := 0, cells := 0, slots := 0, locals := 0 } (va_Pc [.int p1] (cP D a cI cZ cQ I F sz)) (va_Qi (fun r (u : SI × SF) => Post r u.1 u.2) (fun u t => va_P D vwCl (cw a cI cZ cQ u.1 u.2) t.heap) (xA 47 a sz)) 0 0 (xA 47 a sz) := by
  refine Met.ofW (cc := b_Or_isArithmetic) (maxL := 1) (ret := (some .boolean)) (by decide) rfl ?_
  intro p e s m args below meth c s₁ B hml hv
  obtain ⟨rfl, rfl, hP, hK, hN⟩ := hv
  have hx := B.exec
  have hb := B.bytes
  have hr := B.returns
  have hts : ∀ w ∈ TB, w.before _ s = true := fun w h => atoms_spec (ws := Cond.code y_Or_isArithmetic b_Or_isArithmetic 1 (some .boolean) :: TB) B.pre w (List.mem_cons_of_mem _ h)
  have hown : s.vm.findClass "CodeJudge$Order" = some m.cls := findClass_of_methodNamed B.named
  have hlocks := B.notSynchronized
  have hl := lv_entry ([.int p1]) (n := 1) (Nat.le_of_ble_eq_true rfl)
  rw [lg_entry_eq]
  generalize (lg_sl ([.int p1]) ++ List.replicate (1 - (lg_sl ([.int p1])).length) Slot.unset).toArray = ls at hl ⊢
  have hl : lv_has ls 1 [(0, .int p1)] := hl
  suffices hM : ∀ (H : Heap) (locs : List Loc), va_P D vwCl (cw a cI cZ cQ I F) H → va_S (xA 47 a s.heap.size) s.heap H locs → W p l e (headSpec (Cond.code y_Or_isArithmetic b_Or_isArithmetic 1 (some .boolean) :: TB) { frames := 0, cells := 0, slots := 0, locals := 0 }).room s m ([.int p1]).toArray below meth c H locs 0 0 (MQ below (va_Qi (fun r (u : SI × SF) => Post r u.1 u.2) (fun u t => va_P D vwCl (cw a cI cZ cQ u.1 u.2) t.heap) (xA 47 a s.heap.size)) ([.int p1]).toArray s 0 0 (xA 47 a s.heap.size)) (F0 m 0 ls []) from hM s.heap [] hP va_S.rf
  clear hP
  intro H locs hP hS
  dsimp only [wp_Or_isArithmetic] at hw
  refine lv_iload_n hx hb dOr_isArithmetic_0 rfl (lv_at hl 0 rfl) ?_
  refine lv_iconst (v := 5) hx hb dOr_isArithmetic_1 (by decide) ?_
  refine lv_icmp_lt (tgt := 15) hx hb dOr_isArithmetic_2 (by decide) (fun h1 => ?_) (fun h1 => ?_)
  · have hw := hw.1 h1
    refine lv_iconst (v := 0) hx hb dOr_isArithmetic_15 (by decide) ?_
    exact W.zret (v := 0) hx hb hr rfl (fun t ht hW => ⟨⟨0, (I, F), rfl, hw, by subst ht; exact hP⟩, hS.F ht⟩) hS.2.2 dOr_isArithmetic_16
  · have hw := hw.2 h1
    refine lv_iload_n hx hb dOr_isArithmetic_5 rfl (lv_at hl 0 rfl) ?_
    refine lv_bipush (v := 9) hx hb dOr_isArithmetic_6 (by decide) ?_
    refine lv_icmp_gt (tgt := 15) hx hb dOr_isArithmetic_8 (by decide) (fun h2 => ?_) (fun h2 => ?_)
    · have hw := hw.1 h2
      refine lv_iconst (v := 0) hx hb dOr_isArithmetic_15 (by decide) ?_
      exact W.zret (v := 0) hx hb hr rfl (fun t ht hW => ⟨⟨0, (I, F), rfl, hw, by subst ht; exact hP⟩, hS.F ht⟩) hS.2.2 dOr_isArithmetic_16
    · have hw := hw.2 h2
      refine lv_iconst (v := 1) hx hb dOr_isArithmetic_11 (by decide) ?_
      refine lv_goto (tgt := 16) hx hb dOr_isArithmetic_12 (by decide) ?_
      exact W.zret (v := 1) hx hb hr rfl (fun t ht hW => ⟨⟨1, (I, F), rfl, hw, by subst ht; exact hP⟩, hS.F ht⟩) hS.2.2 dOr_isArithmetic_16
def wp_Or_taken (p1 : Int32) (I : SI) (F : SF) (Post : Int32 → SI → SF → Prop) : Prop := (p1 = 0 → (Post 0 I F)) ∧ (p1 = 12 → (Post 2 I F)) ∧ (p1 = 13 → (Post 3 I F)) ∧ (p1 = 14 → (Post 0 I F)) ∧ (p1 = 16 → (Post 2 I F)) ∧ (p1 = 17 → (Post 2 I F)) ∧ (p1 = 18 → (Post 0 I F)) ∧ ((¬ p1 = 0 ∧ ¬ p1 = 12 ∧ ¬ p1 = 13 ∧ ¬ p1 = 14 ∧ ¬ p1 = 16 ∧ ¬ p1 = 17 ∧ ¬ p1 = 18) → (∃ P2 : Int32 → SI → SF → Prop, wp_Or_isArithmetic p1 I F P2 ∧ ∀ r2 I2 F2, P2 r2 I2 F2 → ((r2 = 0 → (Post 1 I2 F2)) ∧ (¬ r2 = 0 → (Post 2 I2 F2)))))
set_option maxHeartbeats 4000000 in
set_option maxRecDepth 100000 in
theorem c_Or_taken (l : Launch) (D : va_G) (a : Nat → Nat) (cI cZ cQ : ClassId) (hJ : xJ 47 a) (I : SI) (F : SF) (p1 : Int32) (sz : Nat) (Post : Int32 → SI → SF → Prop) (hw : wp_Or_taken p1 I F Post) : Met l y_Or_taken (Cond.code y_Or_taken b_Or_taken 1 (some .int) :: TB) { frames := 1, cells := 0, slots := 0, locals := 20 } (va_Pc [.int p1] (cP D a cI cZ cQ I F sz)) (va_Qi (fun r (u : SI × SF) => Post r u.1 u.2) (fun u t => va_P D vwCl (cw a cI cZ cQ u.1 u.2) t.heap) (xA 47 a sz)) 0 0 (xA 47 a sz) := by
  refine Met.ofW (cc := b_Or_taken) (maxL := 1) (ret := (some .int)) (by decide) rfl ?_
  intro p e s m args below meth c s₁ B hml hv
  obtain ⟨rfl, rfl, hP, hK, hN⟩ := hv
  have hx := B.exec
  have hb := B.bytes
  have hr := B.returns
  have hts : ∀ w ∈ TB, w.before _ s = true := fun w h => atoms_spec (ws := Cond.code y_Or_taken b_Or_taken 1 (some .int) :: TB) B.pre w (List.mem_cons_of_mem _ h)
  have hown : s.vm.findClass "CodeJudge$Order" = some m.cls := findClass_of_methodNamed B.named
  have hlocks := B.notSynchronized
  have hl := lv_entry ([.int p1]) (n := 1) (Nat.le_of_ble_eq_true rfl)
  rw [lg_entry_eq]
  generalize (lg_sl ([.int p1]) ++ List.replicate (1 - (lg_sl ([.int p1])).length) Slot.unset).toArray = ls at hl ⊢
  have hl : lv_has ls 1 [(0, .int p1)] := hl
  suffices hM : ∀ (H : Heap) (locs : List Loc), va_P D vwCl (cw a cI cZ cQ I F) H → va_S (xA 47 a s.heap.size) s.heap H locs → W p l e (headSpec (Cond.code y_Or_taken b_Or_taken 1 (some .int) :: TB) { frames := 1, cells := 0, slots := 0, locals := 20 }).room s m ([.int p1]).toArray below meth c H locs 0 0 (MQ below (va_Qi (fun r (u : SI × SF) => Post r u.1 u.2) (fun u t => va_P D vwCl (cw a cI cZ cQ u.1 u.2) t.heap) (xA 47 a s.heap.size)) ([.int p1]).toArray s 0 0 (xA 47 a s.heap.size)) (F0 m 0 ls []) from hM s.heap [] hP va_S.rf
  clear hP
  intro H locs hP hS
  dsimp only [wp_Or_taken] at hw
  refine lv_iload_n hx hb dOr_taken_0 rfl (lv_at hl 0 rfl) ?_
  refine sw_Or_taken_1 hx hb (fun h1 => ?_) (fun h1 => ?_) (fun h1 => ?_) (fun h1 => ?_) (fun h1 => ?_) (fun h1 => ?_) (fun h1 => ?_) (fun h1 => ?_)
  · have hw := hw.1 h1
    refine lv_iconst (v := 0) hx hb dOr_taken_92 (by decide) ?_
    exact W.iret (v := 0) hx hb hr (fun t ht hW => ⟨⟨0, (I, F), rfl, hw, by subst ht; exact hP⟩, hS.F ht⟩) hS.2.2 dOr_taken_93
  · have hw := hw.2.1 h1
    refine lv_iconst (v := 2) hx hb dOr_taken_96 (by decide) ?_
    exact W.iret (v := 2) hx hb hr (fun t ht hW => ⟨⟨2, (I, F), rfl, hw, by subst ht; exact hP⟩, hS.F ht⟩) hS.2.2 dOr_taken_97
  · have hw := hw.2.2.1 h1
    refine lv_iconst (v := 3) hx hb dOr_taken_94 (by decide) ?_
    exact W.iret (v := 3) hx hb hr (fun t ht hW => ⟨⟨3, (I, F), rfl, hw, by subst ht; exact hP⟩, hS.F ht⟩) hS.2.2 dOr_taken_95
  · have hw := hw.2.2.2.1 h1
    refine lv_iconst (v := 0) hx hb dOr_taken_92 (by decide) ?_
    exact W.iret (v := 0) hx hb hr (fun t ht hW => ⟨⟨0, (I, F), rfl, hw, by subst ht; exact hP⟩, hS.F ht⟩) hS.2.2 dOr_taken_93
  · have hw := hw.2.2.2.2.1 h1
    refine lv_iconst (v := 2) hx hb dOr_taken_96 (by decide) ?_
    exact W.iret (v := 2) hx hb hr (fun t ht hW => ⟨⟨2, (I, F), rfl, hw, by subst ht; exact hP⟩, hS.F ht⟩) hS.2.2 dOr_taken_97
  · have hw := hw.2.2.2.2.2.1 h1
    refine lv_iconst (v := 2) hx hb dOr_taken_96 (by decide) ?_
    exact W.iret (v := 2) hx hb hr (fun t ht hW => ⟨⟨2, (I, F), rfl, hw, by subst ht; exact hP⟩, hS.F ht⟩) hS.2.2 dOr_taken_97
  · have hw := hw.2.2.2.2.2.2.1 h1
    refine lv_iconst (v := 0) hx hb dOr_taken_92 (by decide) ?_
    exact W.iret (v := 0) hx hb hr (fun t ht hW => ⟨⟨0, (I, F), rfl, hw, by subst ht; exact hP⟩, hS.F ht⟩) hS.2.2 dOr_taken_93
  · have hw := hw.2.2.2.2.2.2.2 h1
    refine lv_iload_n hx hb dOr_taken_98 rfl (lv_at hl 0 rfl) ?_
    obtain ⟨P2, hc2, hw⟩ := hw
    refine cc_i (va_runS (As := [.int p1]) (rest := []) ⟨hx, hb, hml, hown, hts⟩ (c_Or_isArithmetic l D a cI cZ cQ hJ I F p1 H.size P2 hc2) (va_cwS 1 hts (tb_S wc_Or_isArithmetic tw_3_1 tw_3_2 tw_1_16) rfl rfl rfl (by decide +kernel) ⟨Nat.le_of_ble_eq_true rfl, Nat.le_of_ble_eq_true rfl⟩) ⟨cP_bl, cP_at hP hK hN⟩ rfl rfl hl.1 rfl (lv_room (Nat.le_of_ble_eq_true rfl)) dOr_taken_99 ⟨Nat.le_of_ble_eq_true rfl, Nat.le_of_ble_eq_true rfl⟩) hS (fun r2 I2 F2 H locs hP hp2 hS => ?_)
    have hw := hw r2 I2 F2 hp2
    refine lv_if_eq (tgt := 109) hx hb dOr_taken_102 (by decide) (fun h3 => ?_) (fun h3 => ?_)
    · have hw := hw.1 h3
      refine lv_iconst (v := 1) hx hb dOr_taken_109 (by decide) ?_
      exact W.iret (v := 1) hx hb hr (fun t ht hW => ⟨⟨1, (I2, F2), rfl, hw, by subst ht; exact hP⟩, hS.F ht⟩) hS.2.2 dOr_taken_110
    · have hw := hw.2 h3
      refine lv_iconst (v := 2) hx hb dOr_taken_105 (by decide) ?_
      refine lv_goto (tgt := 110) hx hb dOr_taken_106 (by decide) ?_
      exact W.iret (v := 2) hx hb hr (fun t ht hW => ⟨⟨2, (I2, F2), rfl, hw, by subst ht; exact hP⟩, hS.F ht⟩) hS.2.2 dOr_taken_110
def wp_Or_arraysTaken (p1 : Int32) (I : SI) (F : SF) (Post : Int32 → SI → SF → Prop) : Prop := (p1 = 11 → (Post 1 I F)) ∧ (p1 = 12 → (Post 1 I F)) ∧ (p1 = 13 → (Post 1 I F)) ∧ (p1 = 19 → (Post 1 I F)) ∧ ((¬ p1 = 11 ∧ ¬ p1 = 12 ∧ ¬ p1 = 13 ∧ ¬ p1 = 19) → (Post 0 I F))
set_option maxHeartbeats 4000000 in
set_option maxRecDepth 100000 in
theorem c_Or_arraysTaken (l : Launch) (D : va_G) (a : Nat → Nat) (cI cZ cQ : ClassId) (hJ : xJ 47 a) (I : SI) (F : SF) (p1 : Int32) (sz : Nat) (Post : Int32 → SI → SF → Prop) (hw : wp_Or_arraysTaken p1 I F Post) : Met l y_Or_arraysTaken (Cond.code y_Or_arraysTaken b_Or_arraysTaken 1 (some .int) :: TB) { frames := 0, cells := 0, slots := 0, locals := 0 } (va_Pc [.int p1] (cP D a cI cZ cQ I F sz)) (va_Qi (fun r (u : SI × SF) => Post r u.1 u.2) (fun u t => va_P D vwCl (cw a cI cZ cQ u.1 u.2) t.heap) (xA 47 a sz)) 0 0 (xA 47 a sz) := by
  refine Met.ofW (cc := b_Or_arraysTaken) (maxL := 1) (ret := (some .int)) (by decide) rfl ?_
  intro p e s m args below meth c s₁ B hml hv
  obtain ⟨rfl, rfl, hP, hK, hN⟩ := hv
  have hx := B.exec
  have hb := B.bytes
  have hr := B.returns
  have hts : ∀ w ∈ TB, w.before _ s = true := fun w h => atoms_spec (ws := Cond.code y_Or_arraysTaken b_Or_arraysTaken 1 (some .int) :: TB) B.pre w (List.mem_cons_of_mem _ h)
  have hown : s.vm.findClass "CodeJudge$Order" = some m.cls := findClass_of_methodNamed B.named
  have hlocks := B.notSynchronized
  have hl := lv_entry ([.int p1]) (n := 1) (Nat.le_of_ble_eq_true rfl)
  rw [lg_entry_eq]
  generalize (lg_sl ([.int p1]) ++ List.replicate (1 - (lg_sl ([.int p1])).length) Slot.unset).toArray = ls at hl ⊢
  have hl : lv_has ls 1 [(0, .int p1)] := hl
  suffices hM : ∀ (H : Heap) (locs : List Loc), va_P D vwCl (cw a cI cZ cQ I F) H → va_S (xA 47 a s.heap.size) s.heap H locs → W p l e (headSpec (Cond.code y_Or_arraysTaken b_Or_arraysTaken 1 (some .int) :: TB) { frames := 0, cells := 0, slots := 0, locals := 0 }).room s m ([.int p1]).toArray below meth c H locs 0 0 (MQ below (va_Qi (fun r (u : SI × SF) => Post r u.1 u.2) (fun u t => va_P D vwCl (cw a cI cZ cQ u.1 u.2) t.heap) (xA 47 a s.heap.size)) ([.int p1]).toArray s 0 0 (xA 47 a s.heap.size)) (F0 m 0 ls []) from hM s.heap [] hP va_S.rf
  clear hP
  intro H locs hP hS
  dsimp only [wp_Or_arraysTaken] at hw
  refine lv_iload_n hx hb dOr_arraysTaken_0 rfl (lv_at hl 0 rfl) ?_
  refine sw_Or_arraysTaken_1 hx hb (fun h1 => ?_) (fun h1 => ?_) (fun h1 => ?_) (fun h1 => ?_) (fun h1 => ?_)
  · have hw := hw.1 h1
    refine lv_iconst (v := 1) hx hb dOr_arraysTaken_52 (by decide) ?_
    exact W.iret (v := 1) hx hb hr (fun t ht hW => ⟨⟨1, (I, F), rfl, hw, by subst ht; exact hP⟩, hS.F ht⟩) hS.2.2 dOr_arraysTaken_53
  · have hw := hw.2.1 h1
    refine lv_iconst (v := 1) hx hb dOr_arraysTaken_52 (by decide) ?_
    exact W.iret (v := 1) hx hb hr (fun t ht hW => ⟨⟨1, (I, F), rfl, hw, by subst ht; exact hP⟩, hS.F ht⟩) hS.2.2 dOr_arraysTaken_53
  · have hw := hw.2.2.1 h1
    refine lv_iconst (v := 1) hx hb dOr_arraysTaken_52 (by decide) ?_
    exact W.iret (v := 1) hx hb hr (fun t ht hW => ⟨⟨1, (I, F), rfl, hw, by subst ht; exact hP⟩, hS.F ht⟩) hS.2.2 dOr_arraysTaken_53
  · have hw := hw.2.2.2.1 h1
    refine lv_iconst (v := 1) hx hb dOr_arraysTaken_52 (by decide) ?_
    exact W.iret (v := 1) hx hb hr (fun t ht hW => ⟨⟨1, (I, F), rfl, hw, by subst ht; exact hP⟩, hS.F ht⟩) hS.2.2 dOr_arraysTaken_53
  · have hw := hw.2.2.2.2 h1
    refine lv_iconst (v := 0) hx hb dOr_arraysTaken_54 (by decide) ?_
    exact W.iret (v := 0) hx hb hr (fun t ht hW => ⟨⟨0, (I, F), rfl, hw, by subst ht; exact hP⟩, hS.F ht⟩) hS.2.2 dOr_arraysTaken_55
def wp_Or_puts (p1 : Int32) (I : SI) (F : SF) (Post : Int32 → SI → SF → Prop) : Prop := (p1 = 0 → (Post 1 I F)) ∧ (p1 = 10 → (Post 2 I F)) ∧ (p1 = 11 → (Post 1 I F)) ∧ (p1 = 12 → (Post 1 I F)) ∧ (p1 = 18 → (Post 2 I F)) ∧ ((¬ p1 = 0 ∧ ¬ p1 = 10 ∧ ¬ p1 = 11 ∧ ¬ p1 = 12 ∧ ¬ p1 = 18) → (∃ P2 : Int32 → SI → SF → Prop, wp_Or_isArithmetic p1 I F P2 ∧ ∀ r2 I2 F2, P2 r2 I2 F2 → ((r2 = 0 → (Post 0 I2 F2)) ∧ (¬ r2 = 0 → (Post 1 I2 F2)))))
set_option maxHeartbeats 4000000 in
set_option maxRecDepth 100000 in
theorem c_Or_puts (l : Launch) (D : va_G) (a : Nat → Nat) (cI cZ cQ : ClassId) (hJ : xJ 47 a) (I : SI) (F : SF) (p1 : Int32) (sz : Nat) (Post : Int32 → SI → SF → Prop) (hw : wp_Or_puts p1 I F Post) : Met l y_Or_puts (Cond.code y_Or_puts b_Or_puts 1 (some .int) :: TB) { frames := 1, cells := 0, slots := 0, locals := 20 } (va_Pc [.int p1] (cP D a cI cZ cQ I F sz)) (va_Qi (fun r (u : SI × SF) => Post r u.1 u.2) (fun u t => va_P D vwCl (cw a cI cZ cQ u.1 u.2) t.heap) (xA 47 a sz)) 0 0 (xA 47 a sz) := by
  refine Met.ofW (cc := b_Or_puts) (maxL := 1) (ret := (some .int)) (by decide) rfl ?_
  intro p e s m args below meth c s₁ B hml hv
  obtain ⟨rfl, rfl, hP, hK, hN⟩ := hv
  have hx := B.exec
  have hb := B.bytes
  have hr := B.returns
  have hts : ∀ w ∈ TB, w.before _ s = true := fun w h => atoms_spec (ws := Cond.code y_Or_puts b_Or_puts 1 (some .int) :: TB) B.pre w (List.mem_cons_of_mem _ h)
  have hown : s.vm.findClass "CodeJudge$Order" = some m.cls := findClass_of_methodNamed B.named
  have hlocks := B.notSynchronized
  have hl := lv_entry ([.int p1]) (n := 1) (Nat.le_of_ble_eq_true rfl)
  rw [lg_entry_eq]
  generalize (lg_sl ([.int p1]) ++ List.replicate (1 - (lg_sl ([.int p1])).length) Slot.unset).toArray = ls at hl ⊢
  have hl : lv_has ls 1 [(0, .int p1)] := hl
  suffices hM : ∀ (H : Heap) (locs : List Loc), va_P D vwCl (cw a cI cZ cQ I F) H → va_S (xA 47 a s.heap.size) s.heap H locs → W p l e (headSpec (Cond.code y_Or_puts b_Or_puts 1 (some .int) :: TB) { frames := 1, cells := 0, slots := 0, locals := 20 }).room s m ([.int p1]).toArray below meth c H locs 0 0 (MQ below (va_Qi (fun r (u : SI × SF) => Post r u.1 u.2) (fun u t => va_P D vwCl (cw a cI cZ cQ u.1 u.2) t.heap) (xA 47 a s.heap.size)) ([.int p1]).toArray s 0 0 (xA 47 a s.heap.size)) (F0 m 0 ls []) from hM s.heap [] hP va_S.rf
  clear hP
  intro H locs hP hS
  dsimp only [wp_Or_puts] at hw
  refine lv_iload_n hx hb dOr_puts_0 rfl (lv_at hl 0 rfl) ?_
  refine sw_Or_puts_1 hx hb (fun h1 => ?_) (fun h1 => ?_) (fun h1 => ?_) (fun h1 => ?_) (fun h1 => ?_) (fun h1 => ?_)
  · have hw := hw.1 h1
    refine lv_iconst (v := 1) hx hb dOr_puts_52 (by decide) ?_
    exact W.iret (v := 1) hx hb hr (fun t ht hW => ⟨⟨1, (I, F), rfl, hw, by subst ht; exact hP⟩, hS.F ht⟩) hS.2.2 dOr_puts_53
  · have hw := hw.2.1 h1
    refine lv_iconst (v := 2) hx hb dOr_puts_54 (by decide) ?_
    exact W.iret (v := 2) hx hb hr (fun t ht hW => ⟨⟨2, (I, F), rfl, hw, by subst ht; exact hP⟩, hS.F ht⟩) hS.2.2 dOr_puts_55
  · have hw := hw.2.2.1 h1
    refine lv_iconst (v := 1) hx hb dOr_puts_52 (by decide) ?_
    exact W.iret (v := 1) hx hb hr (fun t ht hW => ⟨⟨1, (I, F), rfl, hw, by subst ht; exact hP⟩, hS.F ht⟩) hS.2.2 dOr_puts_53
  · have hw := hw.2.2.2.1 h1
    refine lv_iconst (v := 1) hx hb dOr_puts_52 (by decide) ?_
    exact W.iret (v := 1) hx hb hr (fun t ht hW => ⟨⟨1, (I, F), rfl, hw, by subst ht; exact hP⟩, hS.F ht⟩) hS.2.2 dOr_puts_53
  · have hw := hw.2.2.2.2.1 h1
    refine lv_iconst (v := 2) hx hb dOr_puts_54 (by decide) ?_
    exact W.iret (v := 2) hx hb hr (fun t ht hW => ⟨⟨2, (I, F), rfl, hw, by subst ht; exact hP⟩, hS.F ht⟩) hS.2.2 dOr_puts_55
  · have hw := hw.2.2.2.2.2 h1
    refine lv_iload_n hx hb dOr_puts_56 rfl (lv_at hl 0 rfl) ?_
    obtain ⟨P2, hc2, hw⟩ := hw
    refine cc_i (va_runS (As := [.int p1]) (rest := []) ⟨hx, hb, hml, hown, hts⟩ (c_Or_isArithmetic l D a cI cZ cQ hJ I F p1 H.size P2 hc2) (va_cwS 1 hts (tb_S wc_Or_isArithmetic tw_3_1 tw_3_2 tw_1_16) rfl rfl rfl (by decide +kernel) ⟨Nat.le_of_ble_eq_true rfl, Nat.le_of_ble_eq_true rfl⟩) ⟨cP_bl, cP_at hP hK hN⟩ rfl rfl hl.1 rfl (lv_room (Nat.le_of_ble_eq_true rfl)) dOr_puts_57 ⟨Nat.le_of_ble_eq_true rfl, Nat.le_of_ble_eq_true rfl⟩) hS (fun r2 I2 F2 H locs hP hp2 hS => ?_)
    have hw := hw r2 I2 F2 hp2
    refine lv_if_eq (tgt := 67) hx hb dOr_puts_60 (by decide) (fun h3 => ?_) (fun h3 => ?_)
    · have hw := hw.1 h3
      refine lv_iconst (v := 0) hx hb dOr_puts_67 (by decide) ?_
      exact W.iret (v := 0) hx hb hr (fun t ht hW => ⟨⟨0, (I2, F2), rfl, hw, by subst ht; exact hP⟩, hS.F ht⟩) hS.2.2 dOr_puts_68
    · have hw := hw.2 h3
      refine lv_iconst (v := 1) hx hb dOr_puts_63 (by decide) ?_
      refine lv_goto (tgt := 68) hx hb dOr_puts_64 (by decide) ?_
      exact W.iret (v := 1) hx hb hr (fun t ht hW => ⟨⟨1, (I2, F2), rfl, hw, by subst ht; exact hP⟩, hS.F ht⟩) hS.2.2 dOr_puts_68
def wp_Ju_change_361 (Post : Int32 → SI → SF → Prop)  (I : SI) (F : SF) : Prop := Post 1 I F
def wp_Ju_change_355 (Post : Int32 → SI → SF → Prop) (s0 : Int32) (s1 : Int32) (I : SI) (F : SF) : Prop := ∃ P35 : Int32 → SI → SF → Prop, wp_Sh_take s1 s0 I F P35 ∧ ∀ r35 I35 F35, P35 r35 I35 F35 → ((r35 = 0 → (Post 0 I35 F35)) ∧ (¬ r35 = 0 → (wp_Ju_change_361 Post I35 F35)))
def wp_Ju_change (k2 : Nat) (p3 : Int32) (p4 : Int32) (I : SI) (F : SF) (Post : Int32 → SI → SF → Prop) : Prop := (p3 = 1 → (∃ P2 : Int32 → SI → SF → Prop, wp_Sh_hasInLocal p4 1 I F P2 ∧ ∀ r2 I2 F2, P2 r2 I2 F2 → ((r2 = 0 → (Post 0 I2 F2)) ∧ (¬ r2 = 0 → (∃ P4 : Int32 → SI → SF → Prop, wp_Sh_put 1 I2 F2 P4 ∧ ∀ r4 I4 F4, P4 r4 I4 F4 → ((r4 = 0 → (Post 0 I4 F4)) ∧ (¬ r4 = 0 → (Post 1 I4 F4)))))))) ∧ (p3 = 2 → (∃ P6 : Int32 → SI → SF → Prop, wp_Sh_take 1 0 I F P6 ∧ ∀ r6 I6 F6, P6 r6 I6 F6 → ((r6 = 0 → (Post 0 I6 F6)) ∧ (¬ r6 = 0 → (∃ P8 : Int32 → SI → SF → Prop, wp_Sh_setLocal p4 1 I6 F6 P8 ∧ ∀ r8 I8 F8, P8 r8 I8 F8 → ((r8 = 0 → (Post 0 I8 F8)) ∧ (¬ r8 = 0 → (Post 1 I8 F8)))))))) ∧ (p3 = 3 → (∃ P10 : Int32 → SI → SF → Prop, wp_Sh_hasInLocal p4 2 I F P10 ∧ ∀ r10 I10 F10, P10 r10 I10 F10 → ((r10 = 0 → (Post 0 I10 F10)) ∧ (¬ r10 = 0 → (∃ P12 : Int32 → SI → SF → Prop, wp_Sh_put 2 I10 F10 P12 ∧ ∀ r12 I12 F12, P12 r12 I12 F12 → ((r12 = 0 → (Post 0 I12 F12)) ∧ (¬ r12 = 0 → (Post 1 I12 F12)))))))) ∧ (p3 = 4 → (∃ P14 : Int32 → SI → SF → Prop, wp_Sh_take 1 1 I F P14 ∧ ∀ r14 I14 F14, P14 r14 I14 F14 → ((r14 = 0 → (Post 0 I14 F14)) ∧ (¬ r14 = 0 → (∃ P16 : Int32 → SI → SF → Prop, wp_Sh_setLocal p4 2 I14 F14 P16 ∧ ∀ r16 I16 F16, P16 r16 I16 F16 → ((r16 = 0 → (Post 0 I16 F16)) ∧ (¬ r16 = 0 → (Post 1 I16 F16)))))))) ∧ (p3 = 20 → (((I 5) ≤ 0 → (Post 0 I F)) ∧ (¬ (I 5) ≤ 0 → (∃ P19 : Int32 → SI → SF → Prop, wp_Sh_upperType I F P19 ∧ ∀ r19 I19 F19, P19 r19 I19 F19 → (∃ P20 : Int32 → SI → SF → Prop, wp_Sh_put r19 I19 F19 P20 ∧ ∀ r20 I20 F20, P20 r20 I20 F20 → ((r20 = 0 → (Post 0 I20 F20)) ∧ (¬ r20 = 0 → (Post 1 I20 F20)))))))) ∧ (p3 = 21 → (∃ P22 : Int32 → SI → SF → Prop, wp_Sh_takeAny I F P22 ∧ ∀ r22 I22 F22, P22 r22 I22 F22 → (bo r22 ∧ Post r22 I22 F22))) ∧ (p3 = 22 → (∃ P24 : Int32 → SI → SF → Prop, wp_Sh_turn I F P24 ∧ ∀ r24 I24 F24, P24 r24 I24 F24 → (bo r24 ∧ Post r24 I24 F24))) ∧ (p3 = 23 → (vp_in p4 8 ∧ (vp_in p4 8 ∧ (∃ P28 : Int32 → SI → SF → Prop, wp_Sh_take (I (21 + 10 * p4.toNatClampNeg)) (I (22 + 10 * p4.toNatClampNeg)) I F P28 ∧ ∀ r28 I28 F28, P28 r28 I28 F28 → ((r28 = 0 → (Post 0 I28 F28)) ∧ (¬ r28 = 0 → (vp_in p4 8 ∧ (∃ P31 : Int32 → SI → SF → Prop, wp_Sh_put (I28 (23 + 10 * p4.toNatClampNeg)) I28 F28 P31 ∧ ∀ r31 I31 F31, P31 r31 I31 F31 → ((r31 = 0 → (Post 0 I31 F31)) ∧ (¬ r31 = 0 → (Post 1 I31 F31))))))))))) ∧ (p3 = 24 → (((I (23 + 10 * k2)) = 0 → (wp_Ju_change_361 Post I F)) ∧ (¬ (I (23 + 10 * k2)) = 0 → ((¬ (I (23 + 10 * k2)) = 2 → (wp_Ju_change_355 Post 0 1 I F)) ∧ ((I (23 + 10 * k2)) = 2 → (wp_Ju_change_355 Post 1 1 I F)))))) ∧ ((¬ p3 = 1 ∧ ¬ p3 = 2 ∧ ¬ p3 = 3 ∧ ¬ p3 = 4 ∧ ¬ p3 = 20 ∧ ¬ p3 = 21 ∧ ¬ p3 = 22 ∧ ¬ p3 = 23 ∧ ¬ p3 = 24) → (∃ P37 : Int32 → SI → SF → Prop, wp_Or_taken p3 I F P37 ∧ ∀ r37 I37 F37, P37 r37 I37 F37 → (∃ P38 : Int32 → SI → SF → Prop, wp_Or_arraysTaken p3 I37 F37 P38 ∧ ∀ r38 I38 F38, P38 r38 I38 F38 → (∃ P39 : Int32 → SI → SF → Prop, wp_Sh_take r37 r38 I38 F38 P39 ∧ ∀ r39 I39 F39, P39 r39 I39 F39 → ((r39 = 0 → (Post 0 I39 F39)) ∧ (¬ r39 = 0 → (∃ P41 : Int32 → SI → SF → Prop, wp_Or_puts p3 I39 F39 P41 ∧ ∀ r41 I41 F41, P41 r41 I41 F41 → (∃ P42 : Int32 → SI → SF → Prop, wp_Sh_put r41 I41 F41 P42 ∧ ∀ r42 I42 F42, P42 r42 I42 F42 → ((r42 = 0 → (Post 0 I42 F42)) ∧ (¬ r42 = 0 → (Post 1 I42 F42)))))))))))
set_option maxHeartbeats 4000000 in
set_option maxRecDepth 100000 in
theorem c_Ju_change (l : Launch) (D : va_G) (a : Nat → Nat) (cI cZ cQ : ClassId) (hJ : xJ 47 a) (I : SI) (F : SF) (k2 : Nat) (p3 : Int32) (p4 : Int32) (hk2 : k2 < 8) (sz : Nat) (Post : Int32 → SI → SF → Prop) (hw : wp_Ju_change k2 p3 p4 I F Post) : Met l y_Ju_change (Cond.code y_Ju_change b_Ju_change 5 (some .boolean) :: TB) { frames := 2, cells := 0, slots := 0, locals := 42 } (va_Pc [.ref (a 2), .ref (a 1), .ref (a (23 + 3 * k2)), .int p3, .int p4] (cP D a cI cZ cQ I F sz)) (va_Qi (fun r (u : SI × SF) => Post r u.1 u.2) (fun u t => va_P D vwCl (cw a cI cZ cQ u.1 u.2) t.heap) (xA 47 a sz)) 0 0 (xA 47 a sz) := by
  refine Met.ofW (cc := b_Ju_change) (maxL := 5) (ret := (some .boolean)) (by decide) rfl ?_
  intro p e s m args below meth c s₁ B hml hv
  obtain ⟨rfl, rfl, hP, hK, hN⟩ := hv
  have hx := B.exec
  have hb := B.bytes
  have hr := B.returns
  have hts : ∀ w ∈ TB, w.before _ s = true := fun w h => atoms_spec (ws := Cond.code y_Ju_change b_Ju_change 5 (some .boolean) :: TB) B.pre w (List.mem_cons_of_mem _ h)
  have hown : s.vm.findClass "CodeJudge$Judge" = some m.cls := findClass_of_methodNamed B.named
  have hlocks := B.notSynchronized
  have hl := lv_entry ([.ref (a 2), .ref (a 1), .ref (a (23 + 3 * k2)), .int p3, .int p4]) (n := 5) (Nat.le_of_ble_eq_true rfl)
  rw [lg_entry_eq]
  generalize (lg_sl ([.ref (a 2), .ref (a 1), .ref (a (23 + 3 * k2)), .int p3, .int p4]) ++ List.replicate (5 - (lg_sl ([.ref (a 2), .ref (a 1), .ref (a (23 + 3 * k2)), .int p3, .int p4])).length) Slot.unset).toArray = ls at hl ⊢
  have hl : lv_has ls 5 [(0, .ref (a 2)), (1, .ref (a 1)), (2, .ref (a (23 + 3 * k2))), (3, .int p3), (4, .int p4)] := hl
  obtain ⟨Q, hQ⟩ : ∃ Q, Q = MQ below (va_Qi (fun r (u : SI × SF) => Post r u.1 u.2) (fun u t => va_P D vwCl (cw a cI cZ cQ u.1 u.2) t.heap) (xA 47 a s.heap.size)) ([.ref (a 2), .ref (a 1), .ref (a (23 + 3 * k2)), .int p3, .int p4]).toArray s 0 0 (xA 47 a s.heap.size) := ⟨_, rfl⟩
  rw [← hQ]
  have J361 : ∀ (I : SI) (F : SF) (H : Heap) (locs : List Loc) (ls : Array Slot), lv_has ls 5 [] → va_P D vwCl (cw a cI cZ cQ I F) H → va_S (xA 47 a s.heap.size) s.heap H locs → wp_Ju_change_361 Post I F → W p l e (headSpec (Cond.code y_Ju_change b_Ju_change 5 (some .boolean) :: TB) { frames := 2, cells := 0, slots := 0, locals := 42 }).room s m ([.ref (a 2), .ref (a 1), .ref (a (23 + 3 * k2)), .int p3, .int p4]).toArray below meth c H locs 0 0 Q (F0 m 361 ls []) := by
    intro I F H locs ls hl hP hS hw
    dsimp only [wp_Ju_change_361] at hw
    refine lv_iconst (v := 1) hx hb dJu_change_361 (by decide) ?_
    refine lv_goto (tgt := 366) hx hb dJu_change_362 (by decide) ?_
    rw [hQ]
    exact W.zret (v := 1) hx hb hr rfl (fun t ht hW => ⟨⟨1, (I, F), rfl, hw, by subst ht; exact hP⟩, hS.F ht⟩) hS.2.2 dJu_change_366
  have J355 : ∀ (s0 : Int32) (s1 : Int32) (I : SI) (F : SF) (H : Heap) (locs : List Loc) (ls : Array Slot), lv_has ls 5 [] → va_P D vwCl (cw a cI cZ cQ I F) H → va_S (xA 47 a s.heap.size) s.heap H locs → wp_Ju_change_355 Post s0 s1 I F → W p l e (headSpec (Cond.code y_Ju_change b_Ju_change 5 (some .boolean) :: TB) { frames := 2, cells := 0, slots := 0, locals := 42 }).room s m ([.ref (a 2), .ref (a 1), .ref (a (23 + 3 * k2)), .int p3, .int p4]).toArray below meth c H locs 0 0 Q (F0 m 355 ls [.int s0, .int s1, .ref (a 10)]) := by
    intro s0 s1 I F H locs ls hl hP hS hw
    dsimp only [wp_Ju_change_355] at hw
    obtain ⟨P35, hc35, hw⟩ := hw
    refine cc_i (va_runV (As := [.int s1, .int s0]) (rest := []) ⟨hx, hb, hml, hown, hts⟩ (c_Sh_take l D a cI cZ cQ hJ I F s1 s0 H.size P35 hc35) (cwV 2 hts (tb_V (C := "CodeJudge$Shape") wc_Sh_take tw_2_217 tw_2_218 tw_2_219 tw_1_4) rfl rfl rfl (by decide +kernel) ⟨Nat.le_of_ble_eq_true rfl, Nat.le_of_ble_eq_true rfl⟩) ⟨cP_bl, va_recv hK hP rfl cw_10, cP_at hP hK hN⟩ rfl rfl hl.1 rfl (lv_room (Nat.le_of_ble_eq_true rfl)) dJu_change_355 ⟨Nat.le_of_ble_eq_true rfl, Nat.le_of_ble_eq_true rfl⟩) hS (fun r35 I35 F35 H locs hP hp35 hS => ?_)
    have hw := hw r35 I35 F35 hp35
    refine lv_if_eq (tgt := 365) hx hb dJu_change_358 (by decide) (fun h36 => ?_) (fun h36 => ?_)
    · have hw := hw.1 h36
      refine lv_iconst (v := 0) hx hb dJu_change_365 (by decide) ?_
      rw [hQ]
      exact W.zret (v := 0) hx hb hr rfl (fun t ht hW => ⟨⟨0, (I35, F35), rfl, hw, by subst ht; exact hP⟩, hS.F ht⟩) hS.2.2 dJu_change_366
    · have hw := hw.2 h36
      exact J361 I35 F35 H locs ls (lv_sub hl [] rfl) hP hS hw
  suffices hM : ∀ (H : Heap) (locs : List Loc), va_P D vwCl (cw a cI cZ cQ I F) H → va_S (xA 47 a s.heap.size) s.heap H locs → W p l e (headSpec (Cond.code y_Ju_change b_Ju_change 5 (some .boolean) :: TB) { frames := 2, cells := 0, slots := 0, locals := 42 }).room s m ([.ref (a 2), .ref (a 1), .ref (a (23 + 3 * k2)), .int p3, .int p4]).toArray below meth c H locs 0 0 (Q) (F0 m 0 ls []) from hM s.heap [] hP va_S.rf
  clear hP
  intro H locs hP hS
  dsimp only [wp_Ju_change] at hw
  refine lv_iload_n hx hb dJu_change_0 rfl (lv_at hl 3 rfl) ?_
  refine sw_Ju_change_1 hx hb (fun h1 => ?_) (fun h1 => ?_) (fun h1 => ?_) (fun h1 => ?_) (fun h1 => ?_) (fun h1 => ?_) (fun h1 => ?_) (fun h1 => ?_) (fun h1 => ?_) (fun h1 => ?_)
  · have hw := hw.1 h1
    refine lv_aload_n hx hb dJu_change_112 rfl (lv_at hl 0 rfl) ?_
    refine va_get (D := D) (v := .ref (a 10)) (ci := 2) (C := "CodeJudge$Judge") (T := T_Ju) (N := 8) hx hb hts in_Ju hown hK hP 2 cw_2 rfl 7 (by decide) (hts (.fieldLink "CodeJudge$Judge" 34 "CodeJudge$Judge" "now" "LCodeJudge$Shape;") tw_1_112) (fun _ h9 => h9) rfl dJu_change_113 ?_
    refine lv_iload hx hb dJu_change_116 (lv_at hl 4 rfl) ?_
    refine lv_iconst (v := 1) hx hb dJu_change_118 (by decide) ?_
    obtain ⟨P2, hc2, hw⟩ := hw
    refine cc_i (va_runV (As := [.int p4, .int 1]) (rest := []) ⟨hx, hb, hml, hown, hts⟩ (c_Sh_hasInLocal l D a cI cZ cQ hJ I F p4 1 H.size P2 hc2) (cwV 2 hts (tb_V (C := "CodeJudge$Shape") wc_Sh_hasInLocal tw_2_209 tw_2_210 tw_2_211 tw_1_4) rfl rfl rfl (by decide +kernel) ⟨Nat.le_of_ble_eq_true rfl, Nat.le_of_ble_eq_true rfl⟩) ⟨cP_bl, va_recv hK hP rfl cw_10, cP_at hP hK hN⟩ rfl rfl hl.1 rfl (lv_room (Nat.le_of_ble_eq_true rfl)) dJu_change_119 ⟨Nat.le_of_ble_eq_true rfl, Nat.le_of_ble_eq_true rfl⟩) hS (fun r2 I2 F2 H locs hP hp2 hS => ?_)
    have hw := hw r2 I2 F2 hp2
    refine lv_if_eq (tgt := 140) hx hb dJu_change_122 (by decide) (fun h3 => ?_) (fun h3 => ?_)
    · have hw := hw.1 h3
      refine lv_iconst (v := 0) hx hb dJu_change_140 (by decide) ?_
      rw [hQ]
      exact W.zret (v := 0) hx hb hr rfl (fun t ht hW => ⟨⟨0, (I2, F2), rfl, hw, by subst ht; exact hP⟩, hS.F ht⟩) hS.2.2 dJu_change_141
    · have hw := hw.2 h3
      refine lv_aload_n hx hb dJu_change_125 rfl (lv_at hl 0 rfl) ?_
      refine va_get (D := D) (v := .ref (a 10)) (ci := 2) (C := "CodeJudge$Judge") (T := T_Ju) (N := 8) hx hb hts in_Ju hown hK hP 2 cw_2 rfl 7 (by decide) (hts (.fieldLink "CodeJudge$Judge" 34 "CodeJudge$Judge" "now" "LCodeJudge$Shape;") tw_1_112) (fun _ h9 => h9) rfl dJu_change_126 ?_
      refine lv_iconst (v := 1) hx hb dJu_change_129 (by decide) ?_
      obtain ⟨P4, hc4, hw⟩ := hw
      refine cc_i (va_runV (As := [.int 1]) (rest := []) ⟨hx, hb, hml, hown, hts⟩ (c_Sh_put l D a cI cZ cQ hJ I2 F2 1 H.size P4 hc4) (cwV 1 hts (tb_V (C := "CodeJudge$Shape") wc_Sh_put tw_2_213 tw_2_214 tw_2_215 tw_1_4) rfl rfl rfl (by decide +kernel) ⟨Nat.le_of_ble_eq_true rfl, Nat.le_of_ble_eq_true rfl⟩) ⟨cP_bl, va_recv hK hP rfl cw_10, cP_at hP hK hN⟩ rfl rfl hl.1 rfl (lv_room (Nat.le_of_ble_eq_true rfl)) dJu_change_130 ⟨Nat.le_of_ble_eq_true rfl, Nat.le_of_ble_eq_true rfl⟩) hS (fun r4 I4 F4 H locs hP hp4 hS => ?_)
      have hw := hw r4 I4 F4 hp4
      refine lv_if_eq (tgt := 140) hx hb dJu_change_133 (by decide) (fun h5 => ?_) (fun h5 => ?_)
      · have hw := hw.1 h5
        refine lv_iconst (v := 0) hx hb dJu_change_140 (by decide) ?_
        rw [hQ]
        exact W.zret (v := 0) hx hb hr rfl (fun t ht hW => ⟨⟨0, (I4, F4), rfl, hw, by subst ht; exact hP⟩, hS.F ht⟩) hS.2.2 dJu_change_141
      · have hw := hw.2 h5
        refine lv_iconst (v := 1) hx hb dJu_change_136 (by decide) ?_
        refine lv_goto (tgt := 141) hx hb dJu_change_137 (by decide) ?_
        rw [hQ]
        exact W.zret (v := 1) hx hb hr rfl (fun t ht hW => ⟨⟨1, (I4, F4), rfl, hw, by subst ht; exact hP⟩, hS.F ht⟩) hS.2.2 dJu_change_141
  · have hw := hw.2.1 h1
    refine lv_aload_n hx hb dJu_change_142 rfl (lv_at hl 0 rfl) ?_
    refine va_get (D := D) (v := .ref (a 10)) (ci := 2) (C := "CodeJudge$Judge") (T := T_Ju) (N := 8) hx hb hts in_Ju hown hK hP 2 cw_2 rfl 7 (by decide) (hts (.fieldLink "CodeJudge$Judge" 34 "CodeJudge$Judge" "now" "LCodeJudge$Shape;") tw_1_112) (fun _ h9 => h9) rfl dJu_change_143 ?_
    refine lv_iconst (v := 1) hx hb dJu_change_146 (by decide) ?_
    refine lv_iconst (v := 0) hx hb dJu_change_147 (by decide) ?_
    obtain ⟨P6, hc6, hw⟩ := hw
    refine cc_i (va_runV (As := [.int 1, .int 0]) (rest := []) ⟨hx, hb, hml, hown, hts⟩ (c_Sh_take l D a cI cZ cQ hJ I F 1 0 H.size P6 hc6) (cwV 2 hts (tb_V (C := "CodeJudge$Shape") wc_Sh_take tw_2_217 tw_2_218 tw_2_219 tw_1_4) rfl rfl rfl (by decide +kernel) ⟨Nat.le_of_ble_eq_true rfl, Nat.le_of_ble_eq_true rfl⟩) ⟨cP_bl, va_recv hK hP rfl cw_10, cP_at hP hK hN⟩ rfl rfl hl.1 rfl (lv_room (Nat.le_of_ble_eq_true rfl)) dJu_change_148 ⟨Nat.le_of_ble_eq_true rfl, Nat.le_of_ble_eq_true rfl⟩) hS (fun r6 I6 F6 H locs hP hp6 hS => ?_)
    have hw := hw r6 I6 F6 hp6
    refine lv_if_eq (tgt := 171) hx hb dJu_change_151 (by decide) (fun h7 => ?_) (fun h7 => ?_)
    · have hw := hw.1 h7
      refine lv_iconst (v := 0) hx hb dJu_change_171 (by decide) ?_
      rw [hQ]
      exact W.zret (v := 0) hx hb hr rfl (fun t ht hW => ⟨⟨0, (I6, F6), rfl, hw, by subst ht; exact hP⟩, hS.F ht⟩) hS.2.2 dJu_change_172
    · have hw := hw.2 h7
      refine lv_aload_n hx hb dJu_change_154 rfl (lv_at hl 0 rfl) ?_
      refine va_get (D := D) (v := .ref (a 10)) (ci := 2) (C := "CodeJudge$Judge") (T := T_Ju) (N := 8) hx hb hts in_Ju hown hK hP 2 cw_2 rfl 7 (by decide) (hts (.fieldLink "CodeJudge$Judge" 34 "CodeJudge$Judge" "now" "LCodeJudge$Shape;") tw_1_112) (fun _ h9 => h9) rfl dJu_change_155 ?_
      refine lv_iload hx hb dJu_change_158 (lv_at hl 4 rfl) ?_
      refine lv_iconst (v := 1) hx hb dJu_change_160 (by decide) ?_
      obtain ⟨P8, hc8, hw⟩ := hw
      refine cc_i (va_runV (As := [.int p4, .int 1]) (rest := []) ⟨hx, hb, hml, hown, hts⟩ (c_Sh_setLocal l D a cI cZ cQ hJ I6 F6 p4 1 H.size P8 hc8) (cwV 2 hts (tb_V (C := "CodeJudge$Shape") wc_Sh_setLocal tw_2_221 tw_2_222 tw_2_223 tw_1_4) rfl rfl rfl (by decide +kernel) ⟨Nat.le_of_ble_eq_true rfl, Nat.le_of_ble_eq_true rfl⟩) ⟨cP_bl, va_recv hK hP rfl cw_10, cP_at hP hK hN⟩ rfl rfl hl.1 rfl (lv_room (Nat.le_of_ble_eq_true rfl)) dJu_change_161 ⟨Nat.le_of_ble_eq_true rfl, Nat.le_of_ble_eq_true rfl⟩) hS (fun r8 I8 F8 H locs hP hp8 hS => ?_)
      have hw := hw r8 I8 F8 hp8
      refine lv_if_eq (tgt := 171) hx hb dJu_change_164 (by decide) (fun h9 => ?_) (fun h9 => ?_)
      · have hw := hw.1 h9
        refine lv_iconst (v := 0) hx hb dJu_change_171 (by decide) ?_
        rw [hQ]
        exact W.zret (v := 0) hx hb hr rfl (fun t ht hW => ⟨⟨0, (I8, F8), rfl, hw, by subst ht; exact hP⟩, hS.F ht⟩) hS.2.2 dJu_change_172
      · have hw := hw.2 h9
        refine lv_iconst (v := 1) hx hb dJu_change_167 (by decide) ?_
        refine lv_goto (tgt := 172) hx hb dJu_change_168 (by decide) ?_
        rw [hQ]
        exact W.zret (v := 1) hx hb hr rfl (fun t ht hW => ⟨⟨1, (I8, F8), rfl, hw, by subst ht; exact hP⟩, hS.F ht⟩) hS.2.2 dJu_change_172
  · have hw := hw.2.2.1 h1
    refine lv_aload_n hx hb dJu_change_173 rfl (lv_at hl 0 rfl) ?_
    refine va_get (D := D) (v := .ref (a 10)) (ci := 2) (C := "CodeJudge$Judge") (T := T_Ju) (N := 8) hx hb hts in_Ju hown hK hP 2 cw_2 rfl 7 (by decide) (hts (.fieldLink "CodeJudge$Judge" 34 "CodeJudge$Judge" "now" "LCodeJudge$Shape;") tw_1_112) (fun _ h9 => h9) rfl dJu_change_174 ?_
    refine lv_iload hx hb dJu_change_177 (lv_at hl 4 rfl) ?_
    refine lv_iconst (v := 2) hx hb dJu_change_179 (by decide) ?_
    obtain ⟨P10, hc10, hw⟩ := hw
    refine cc_i (va_runV (As := [.int p4, .int 2]) (rest := []) ⟨hx, hb, hml, hown, hts⟩ (c_Sh_hasInLocal l D a cI cZ cQ hJ I F p4 2 H.size P10 hc10) (cwV 2 hts (tb_V (C := "CodeJudge$Shape") wc_Sh_hasInLocal tw_2_209 tw_2_210 tw_2_211 tw_1_4) rfl rfl rfl (by decide +kernel) ⟨Nat.le_of_ble_eq_true rfl, Nat.le_of_ble_eq_true rfl⟩) ⟨cP_bl, va_recv hK hP rfl cw_10, cP_at hP hK hN⟩ rfl rfl hl.1 rfl (lv_room (Nat.le_of_ble_eq_true rfl)) dJu_change_180 ⟨Nat.le_of_ble_eq_true rfl, Nat.le_of_ble_eq_true rfl⟩) hS (fun r10 I10 F10 H locs hP hp10 hS => ?_)
    have hw := hw r10 I10 F10 hp10
    refine lv_if_eq (tgt := 201) hx hb dJu_change_183 (by decide) (fun h11 => ?_) (fun h11 => ?_)
    · have hw := hw.1 h11
      refine lv_iconst (v := 0) hx hb dJu_change_201 (by decide) ?_
      rw [hQ]
      exact W.zret (v := 0) hx hb hr rfl (fun t ht hW => ⟨⟨0, (I10, F10), rfl, hw, by subst ht; exact hP⟩, hS.F ht⟩) hS.2.2 dJu_change_202
    · have hw := hw.2 h11
      refine lv_aload_n hx hb dJu_change_186 rfl (lv_at hl 0 rfl) ?_
      refine va_get (D := D) (v := .ref (a 10)) (ci := 2) (C := "CodeJudge$Judge") (T := T_Ju) (N := 8) hx hb hts in_Ju hown hK hP 2 cw_2 rfl 7 (by decide) (hts (.fieldLink "CodeJudge$Judge" 34 "CodeJudge$Judge" "now" "LCodeJudge$Shape;") tw_1_112) (fun _ h9 => h9) rfl dJu_change_187 ?_
      refine lv_iconst (v := 2) hx hb dJu_change_190 (by decide) ?_
      obtain ⟨P12, hc12, hw⟩ := hw
      refine cc_i (va_runV (As := [.int 2]) (rest := []) ⟨hx, hb, hml, hown, hts⟩ (c_Sh_put l D a cI cZ cQ hJ I10 F10 2 H.size P12 hc12) (cwV 1 hts (tb_V (C := "CodeJudge$Shape") wc_Sh_put tw_2_213 tw_2_214 tw_2_215 tw_1_4) rfl rfl rfl (by decide +kernel) ⟨Nat.le_of_ble_eq_true rfl, Nat.le_of_ble_eq_true rfl⟩) ⟨cP_bl, va_recv hK hP rfl cw_10, cP_at hP hK hN⟩ rfl rfl hl.1 rfl (lv_room (Nat.le_of_ble_eq_true rfl)) dJu_change_191 ⟨Nat.le_of_ble_eq_true rfl, Nat.le_of_ble_eq_true rfl⟩) hS (fun r12 I12 F12 H locs hP hp12 hS => ?_)
      have hw := hw r12 I12 F12 hp12
      refine lv_if_eq (tgt := 201) hx hb dJu_change_194 (by decide) (fun h13 => ?_) (fun h13 => ?_)
      · have hw := hw.1 h13
        refine lv_iconst (v := 0) hx hb dJu_change_201 (by decide) ?_
        rw [hQ]
        exact W.zret (v := 0) hx hb hr rfl (fun t ht hW => ⟨⟨0, (I12, F12), rfl, hw, by subst ht; exact hP⟩, hS.F ht⟩) hS.2.2 dJu_change_202
      · have hw := hw.2 h13
        refine lv_iconst (v := 1) hx hb dJu_change_197 (by decide) ?_
        refine lv_goto (tgt := 202) hx hb dJu_change_198 (by decide) ?_
        rw [hQ]
        exact W.zret (v := 1) hx hb hr rfl (fun t ht hW => ⟨⟨1, (I12, F12), rfl, hw, by subst ht; exact hP⟩, hS.F ht⟩) hS.2.2 dJu_change_202
  · have hw := hw.2.2.2.1 h1
    refine lv_aload_n hx hb dJu_change_203 rfl (lv_at hl 0 rfl) ?_
    refine va_get (D := D) (v := .ref (a 10)) (ci := 2) (C := "CodeJudge$Judge") (T := T_Ju) (N := 8) hx hb hts in_Ju hown hK hP 2 cw_2 rfl 7 (by decide) (hts (.fieldLink "CodeJudge$Judge" 34 "CodeJudge$Judge" "now" "LCodeJudge$Shape;") tw_1_112) (fun _ h9 => h9) rfl dJu_change_204 ?_
    refine lv_iconst (v := 1) hx hb dJu_change_207 (by decide) ?_
    refine lv_iconst (v := 1) hx hb dJu_change_208 (by decide) ?_
    obtain ⟨P14, hc14, hw⟩ := hw
    refine cc_i (va_runV (As := [.int 1, .int 1]) (rest := []) ⟨hx, hb, hml, hown, hts⟩ (c_Sh_take l D a cI cZ cQ hJ I F 1 1 H.size P14 hc14) (cwV 2 hts (tb_V (C := "CodeJudge$Shape") wc_Sh_take tw_2_217 tw_2_218 tw_2_219 tw_1_4) rfl rfl rfl (by decide +kernel) ⟨Nat.le_of_ble_eq_true rfl, Nat.le_of_ble_eq_true rfl⟩) ⟨cP_bl, va_recv hK hP rfl cw_10, cP_at hP hK hN⟩ rfl rfl hl.1 rfl (lv_room (Nat.le_of_ble_eq_true rfl)) dJu_change_209 ⟨Nat.le_of_ble_eq_true rfl, Nat.le_of_ble_eq_true rfl⟩) hS (fun r14 I14 F14 H locs hP hp14 hS => ?_)
    have hw := hw r14 I14 F14 hp14
    refine lv_if_eq (tgt := 232) hx hb dJu_change_212 (by decide) (fun h15 => ?_) (fun h15 => ?_)
    · have hw := hw.1 h15
      refine lv_iconst (v := 0) hx hb dJu_change_232 (by decide) ?_
      rw [hQ]
      exact W.zret (v := 0) hx hb hr rfl (fun t ht hW => ⟨⟨0, (I14, F14), rfl, hw, by subst ht; exact hP⟩, hS.F ht⟩) hS.2.2 dJu_change_233
    · have hw := hw.2 h15
      refine lv_aload_n hx hb dJu_change_215 rfl (lv_at hl 0 rfl) ?_
      refine va_get (D := D) (v := .ref (a 10)) (ci := 2) (C := "CodeJudge$Judge") (T := T_Ju) (N := 8) hx hb hts in_Ju hown hK hP 2 cw_2 rfl 7 (by decide) (hts (.fieldLink "CodeJudge$Judge" 34 "CodeJudge$Judge" "now" "LCodeJudge$Shape;") tw_1_112) (fun _ h9 => h9) rfl dJu_change_216 ?_
      refine lv_iload hx hb dJu_change_219 (lv_at hl 4 rfl) ?_
      refine lv_iconst (v := 2) hx hb dJu_change_221 (by decide) ?_
      obtain ⟨P16, hc16, hw⟩ := hw
      refine cc_i (va_runV (As := [.int p4, .int 2]) (rest := []) ⟨hx, hb, hml, hown, hts⟩ (c_Sh_setLocal l D a cI cZ cQ hJ I14 F14 p4 2 H.size P16 hc16) (cwV 2 hts (tb_V (C := "CodeJudge$Shape") wc_Sh_setLocal tw_2_221 tw_2_222 tw_2_223 tw_1_4) rfl rfl rfl (by decide +kernel) ⟨Nat.le_of_ble_eq_true rfl, Nat.le_of_ble_eq_true rfl⟩) ⟨cP_bl, va_recv hK hP rfl cw_10, cP_at hP hK hN⟩ rfl rfl hl.1 rfl (lv_room (Nat.le_of_ble_eq_true rfl)) dJu_change_222 ⟨Nat.le_of_ble_eq_true rfl, Nat.le_of_ble_eq_true rfl⟩) hS (fun r16 I16 F16 H locs hP hp16 hS => ?_)
      have hw := hw r16 I16 F16 hp16
      refine lv_if_eq (tgt := 232) hx hb dJu_change_225 (by decide) (fun h17 => ?_) (fun h17 => ?_)
      · have hw := hw.1 h17
        refine lv_iconst (v := 0) hx hb dJu_change_232 (by decide) ?_
        rw [hQ]
        exact W.zret (v := 0) hx hb hr rfl (fun t ht hW => ⟨⟨0, (I16, F16), rfl, hw, by subst ht; exact hP⟩, hS.F ht⟩) hS.2.2 dJu_change_233
      · have hw := hw.2 h17
        refine lv_iconst (v := 1) hx hb dJu_change_228 (by decide) ?_
        refine lv_goto (tgt := 233) hx hb dJu_change_229 (by decide) ?_
        rw [hQ]
        exact W.zret (v := 1) hx hb hr rfl (fun t ht hW => ⟨⟨1, (I16, F16), rfl, hw, by subst ht; exact hP⟩, hS.F ht⟩) hS.2.2 dJu_change_233
  · have hw := hw.2.2.2.2.1 h1
    refine lv_aload_n hx hb dJu_change_234 rfl (lv_at hl 0 rfl) ?_
    refine va_get (D := D) (v := .ref (a 10)) (ci := 2) (C := "CodeJudge$Judge") (T := T_Ju) (N := 8) hx hb hts in_Ju hown hK hP 2 cw_2 rfl 7 (by decide) (hts (.fieldLink "CodeJudge$Judge" 34 "CodeJudge$Judge" "now" "LCodeJudge$Shape;") tw_1_112) (fun _ h9 => h9) rfl dJu_change_235 ?_
    refine va_get (D := D) (v := .int (I 5)) (ci := 6) (C := "CodeJudge$Shape") (T := T_Sh) (N := 4) hx hb hts in_Sh hown hK hP 10 cw_10 rfl 0 (by decide) (hts (.fieldLink "CodeJudge$Judge" 54 "CodeJudge$Shape" "high" "I") tw_1_88) (fun _ h9 => h9) rfl dJu_change_238 ?_
    refine lv_if_le (tgt := 265) hx hb dJu_change_241 (by decide) (fun h18 => ?_) (fun h18 => ?_)
    · have hw := hw.1 h18
      refine lv_iconst (v := 0) hx hb dJu_change_265 (by decide) ?_
      rw [hQ]
      exact W.zret (v := 0) hx hb hr rfl (fun t ht hW => ⟨⟨0, (I, F), rfl, hw, by subst ht; exact hP⟩, hS.F ht⟩) hS.2.2 dJu_change_266
    · have hw := hw.2 h18
      refine lv_aload_n hx hb dJu_change_244 rfl (lv_at hl 0 rfl) ?_
      refine va_get (D := D) (v := .ref (a 10)) (ci := 2) (C := "CodeJudge$Judge") (T := T_Ju) (N := 8) hx hb hts in_Ju hown hK hP 2 cw_2 rfl 7 (by decide) (hts (.fieldLink "CodeJudge$Judge" 34 "CodeJudge$Judge" "now" "LCodeJudge$Shape;") tw_1_112) (fun _ h9 => h9) rfl dJu_change_245 ?_
      refine lv_aload_n hx hb dJu_change_248 rfl (lv_at hl 0 rfl) ?_
      refine va_get (D := D) (v := .ref (a 10)) (ci := 2) (C := "CodeJudge$Judge") (T := T_Ju) (N := 8) hx hb hts in_Ju hown hK hP 2 cw_2 rfl 7 (by decide) (hts (.fieldLink "CodeJudge$Judge" 34 "CodeJudge$Judge" "now" "LCodeJudge$Shape;") tw_1_112) (fun _ h9 => h9) rfl dJu_change_249 ?_
      obtain ⟨P19, hc19, hw⟩ := hw
      refine cc_i (va_runV (As := []) (rest := [.ref (a 10)]) ⟨hx, hb, hml, hown, hts⟩ (c_Sh_upperType l D a cI cZ cQ hJ I F H.size P19 hc19) (cwV 0 hts (tb_V (C := "CodeJudge$Shape") wc_Sh_upperType tw_2_225 tw_2_226 tw_2_227 tw_1_4) rfl rfl rfl (by decide +kernel) ⟨Nat.le_of_ble_eq_true rfl, Nat.le_of_ble_eq_true rfl⟩) ⟨cP_bl, va_recv hK hP rfl cw_10, cP_at hP hK hN⟩ rfl rfl hl.1 rfl (lv_room (Nat.le_of_ble_eq_true rfl)) dJu_change_252 ⟨Nat.le_of_ble_eq_true rfl, Nat.le_of_ble_eq_true rfl⟩) hS (fun r19 I19 F19 H locs hP hp19 hS => ?_)
      have hw := hw r19 I19 F19 hp19
      obtain ⟨P20, hc20, hw⟩ := hw
      refine cc_i (va_runV (As := [.int r19]) (rest := []) ⟨hx, hb, hml, hown, hts⟩ (c_Sh_put l D a cI cZ cQ hJ I19 F19 r19 H.size P20 hc20) (cwV 1 hts (tb_V (C := "CodeJudge$Shape") wc_Sh_put tw_2_213 tw_2_214 tw_2_215 tw_1_4) rfl rfl rfl (by decide +kernel) ⟨Nat.le_of_ble_eq_true rfl, Nat.le_of_ble_eq_true rfl⟩) ⟨cP_bl, va_recv hK hP rfl cw_10, cP_at hP hK hN⟩ rfl rfl hl.1 rfl (lv_room (Nat.le_of_ble_eq_true rfl)) dJu_change_255 ⟨Nat.le_of_ble_eq_true rfl, Nat.le_of_ble_eq_true rfl⟩) hS (fun r20 I20 F20 H locs hP hp20 hS => ?_)
      have hw := hw r20 I20 F20 hp20
      refine lv_if_eq (tgt := 265) hx hb dJu_change_258 (by decide) (fun h21 => ?_) (fun h21 => ?_)
      · have hw := hw.1 h21
        refine lv_iconst (v := 0) hx hb dJu_change_265 (by decide) ?_
        rw [hQ]
        exact W.zret (v := 0) hx hb hr rfl (fun t ht hW => ⟨⟨0, (I20, F20), rfl, hw, by subst ht; exact hP⟩, hS.F ht⟩) hS.2.2 dJu_change_266
      · have hw := hw.2 h21
        refine lv_iconst (v := 1) hx hb dJu_change_261 (by decide) ?_
        refine lv_goto (tgt := 266) hx hb dJu_change_262 (by decide) ?_
        rw [hQ]
        exact W.zret (v := 1) hx hb hr rfl (fun t ht hW => ⟨⟨1, (I20, F20), rfl, hw, by subst ht; exact hP⟩, hS.F ht⟩) hS.2.2 dJu_change_266
  · have hw := hw.2.2.2.2.2.1 h1
    refine lv_aload_n hx hb dJu_change_267 rfl (lv_at hl 0 rfl) ?_
    refine va_get (D := D) (v := .ref (a 10)) (ci := 2) (C := "CodeJudge$Judge") (T := T_Ju) (N := 8) hx hb hts in_Ju hown hK hP 2 cw_2 rfl 7 (by decide) (hts (.fieldLink "CodeJudge$Judge" 34 "CodeJudge$Judge" "now" "LCodeJudge$Shape;") tw_1_112) (fun _ h9 => h9) rfl dJu_change_268 ?_
    obtain ⟨P22, hc22, hw⟩ := hw
    refine cc_i (va_runV (As := []) (rest := []) ⟨hx, hb, hml, hown, hts⟩ (c_Sh_takeAny l D a cI cZ cQ hJ I F H.size P22 hc22) (cwV 0 hts (tb_V (C := "CodeJudge$Shape") wc_Sh_takeAny tw_2_229 tw_2_230 tw_2_231 tw_1_4) rfl rfl rfl (by decide +kernel) ⟨Nat.le_of_ble_eq_true rfl, Nat.le_of_ble_eq_true rfl⟩) ⟨cP_bl, va_recv hK hP rfl cw_10, cP_at hP hK hN⟩ rfl rfl hl.1 rfl (lv_room (Nat.le_of_ble_eq_true rfl)) dJu_change_271 ⟨Nat.le_of_ble_eq_true rfl, Nat.le_of_ble_eq_true rfl⟩) hS (fun r22 I22 F22 H locs hP hp22 hS => ?_)
    have hw := hw r22 I22 F22 hp22
    obtain ⟨h23, hw⟩ := hw
    rw [hQ]
    exact W.zret (v := r22) hx hb hr (bo_n h23) (fun t ht hW => ⟨⟨r22, (I22, F22), rfl, hw, by subst ht; exact hP⟩, hS.F ht⟩) hS.2.2 dJu_change_274
  · have hw := hw.2.2.2.2.2.2.1 h1
    refine lv_aload_n hx hb dJu_change_275 rfl (lv_at hl 0 rfl) ?_
    refine va_get (D := D) (v := .ref (a 10)) (ci := 2) (C := "CodeJudge$Judge") (T := T_Ju) (N := 8) hx hb hts in_Ju hown hK hP 2 cw_2 rfl 7 (by decide) (hts (.fieldLink "CodeJudge$Judge" 34 "CodeJudge$Judge" "now" "LCodeJudge$Shape;") tw_1_112) (fun _ h9 => h9) rfl dJu_change_276 ?_
    obtain ⟨P24, hc24, hw⟩ := hw
    refine cc_i (va_runV (As := []) (rest := []) ⟨hx, hb, hml, hown, hts⟩ (c_Sh_turn l D a cI cZ cQ hJ I F H.size P24 hc24) (cwV 0 hts (tb_V (C := "CodeJudge$Shape") wc_Sh_turn tw_2_234 tw_2_235 tw_2_236 tw_1_4) rfl rfl rfl (by decide +kernel) ⟨Nat.le_of_ble_eq_true rfl, Nat.le_of_ble_eq_true rfl⟩) ⟨cP_bl, va_recv hK hP rfl cw_10, cP_at hP hK hN⟩ rfl rfl hl.1 rfl (lv_room (Nat.le_of_ble_eq_true rfl)) dJu_change_279 ⟨Nat.le_of_ble_eq_true rfl, Nat.le_of_ble_eq_true rfl⟩) hS (fun r24 I24 F24 H locs hP hp24 hS => ?_)
    have hw := hw r24 I24 F24 hp24
    obtain ⟨h25, hw⟩ := hw
    rw [hQ]
    exact W.zret (v := r24) hx hb hr (bo_n h25) (fun t ht hW => ⟨⟨r24, (I24, F24), rfl, hw, by subst ht; exact hP⟩, hS.F ht⟩) hS.2.2 dJu_change_282
  · have hw := hw.2.2.2.2.2.2.2.1 h1
    refine lv_aload_n hx hb dJu_change_283 rfl (lv_at hl 0 rfl) ?_
    refine va_get (D := D) (v := .ref (a 10)) (ci := 2) (C := "CodeJudge$Judge") (T := T_Ju) (N := 8) hx hb hts in_Ju hown hK hP 2 cw_2 rfl 7 (by decide) (hts (.fieldLink "CodeJudge$Judge" 34 "CodeJudge$Judge" "now" "LCodeJudge$Shape;") tw_1_112) (fun _ h9 => h9) rfl dJu_change_284 ?_
    refine lv_aload_n hx hb dJu_change_287 rfl (lv_at hl 1 rfl) ?_
    refine lv_iload hx hb dJu_change_288 (lv_at hl 4 rfl) ?_
    obtain ⟨h26, hw⟩ := hw
    refine va_aldq hx hb hK hP 1 2 cw_1 rfl h26 dJu_change_290 ?_
    have kh26 := vin_lt h26
    refine va_get (D := D) (v := .int (I (21 + 10 * p4.toNatClampNeg))) (ci := 4) (C := "CodeJudge$Method") (T := T_Me) (N := 9) hx hb hts in_Me hown hK hP (23 + 3 * p4.toNatClampNeg) (cw_M kh26) rfl 1 (by decide) (hts (.fieldLink "CodeJudge$Judge" 60 "CodeJudge$Method" "parameters" "I") tw_1_38) (fun _ h9 => h9) rfl dJu_change_291 ?_
    refine lv_aload_n hx hb dJu_change_294 rfl (lv_at hl 1 rfl) ?_
    refine lv_iload hx hb dJu_change_295 (lv_at hl 4 rfl) ?_
    obtain ⟨h27, hw⟩ := hw
    refine va_aldq hx hb hK hP 1 2 cw_1 rfl h27 dJu_change_297 ?_
    have kh27 := vin_lt h27
    refine va_get (D := D) (v := .int (I (22 + 10 * p4.toNatClampNeg))) (ci := 4) (C := "CodeJudge$Method") (T := T_Me) (N := 9) hx hb hts in_Me hown hK hP (23 + 3 * p4.toNatClampNeg) (cw_M kh27) rfl 2 (by decide) (hts (.fieldLink "CodeJudge$Judge" 65 "CodeJudge$Method" "arrays" "I") tw_1_41) (fun _ h9 => h9) rfl dJu_change_298 ?_
    obtain ⟨P28, hc28, hw⟩ := hw
    refine cc_i (va_runV (As := [.int (I (21 + 10 * p4.toNatClampNeg)), .int (I (22 + 10 * p4.toNatClampNeg))]) (rest := []) ⟨hx, hb, hml, hown, hts⟩ (c_Sh_take l D a cI cZ cQ hJ I F (I (21 + 10 * p4.toNatClampNeg)) (I (22 + 10 * p4.toNatClampNeg)) H.size P28 hc28) (cwV 2 hts (tb_V (C := "CodeJudge$Shape") wc_Sh_take tw_2_217 tw_2_218 tw_2_219 tw_1_4) rfl rfl rfl (by decide +kernel) ⟨Nat.le_of_ble_eq_true rfl, Nat.le_of_ble_eq_true rfl⟩) ⟨cP_bl, va_recv hK hP rfl cw_10, cP_at hP hK hN⟩ rfl rfl hl.1 rfl (lv_room (Nat.le_of_ble_eq_true rfl)) dJu_change_301 ⟨Nat.le_of_ble_eq_true rfl, Nat.le_of_ble_eq_true rfl⟩) hS (fun r28 I28 F28 H locs hP hp28 hS => ?_)
    have hw := hw r28 I28 F28 hp28
    refine lv_if_eq (tgt := 328) hx hb dJu_change_304 (by decide) (fun h29 => ?_) (fun h29 => ?_)
    · have hw := hw.1 h29
      refine lv_iconst (v := 0) hx hb dJu_change_328 (by decide) ?_
      rw [hQ]
      exact W.zret (v := 0) hx hb hr rfl (fun t ht hW => ⟨⟨0, (I28, F28), rfl, hw, by subst ht; exact hP⟩, hS.F ht⟩) hS.2.2 dJu_change_329
    · have hw := hw.2 h29
      refine lv_aload_n hx hb dJu_change_307 rfl (lv_at hl 0 rfl) ?_
      refine va_get (D := D) (v := .ref (a 10)) (ci := 2) (C := "CodeJudge$Judge") (T := T_Ju) (N := 8) hx hb hts in_Ju hown hK hP 2 cw_2 rfl 7 (by decide) (hts (.fieldLink "CodeJudge$Judge" 34 "CodeJudge$Judge" "now" "LCodeJudge$Shape;") tw_1_112) (fun _ h9 => h9) rfl dJu_change_308 ?_
      refine lv_aload_n hx hb dJu_change_311 rfl (lv_at hl 1 rfl) ?_
      refine lv_iload hx hb dJu_change_312 (lv_at hl 4 rfl) ?_
      obtain ⟨h30, hw⟩ := hw
      refine va_aldq hx hb hK hP 1 2 cw_1 rfl h30 dJu_change_314 ?_
      have kh30 := vin_lt h30
      refine va_get (D := D) (v := .int (I28 (23 + 10 * p4.toNatClampNeg))) (ci := 4) (C := "CodeJudge$Method") (T := T_Me) (N := 9) hx hb hts in_Me hown hK hP (23 + 3 * p4.toNatClampNeg) (cw_M kh30) rfl 3 (by decide) (hts (.fieldLink "CodeJudge$Judge" 135 "CodeJudge$Method" "returns" "I") tw_1_43) (fun _ h9 => h9) rfl dJu_change_315 ?_
      obtain ⟨P31, hc31, hw⟩ := hw
      refine cc_i (va_runV (As := [.int (I28 (23 + 10 * p4.toNatClampNeg))]) (rest := []) ⟨hx, hb, hml, hown, hts⟩ (c_Sh_put l D a cI cZ cQ hJ I28 F28 (I28 (23 + 10 * p4.toNatClampNeg)) H.size P31 hc31) (cwV 1 hts (tb_V (C := "CodeJudge$Shape") wc_Sh_put tw_2_213 tw_2_214 tw_2_215 tw_1_4) rfl rfl rfl (by decide +kernel) ⟨Nat.le_of_ble_eq_true rfl, Nat.le_of_ble_eq_true rfl⟩) ⟨cP_bl, va_recv hK hP rfl cw_10, cP_at hP hK hN⟩ rfl rfl hl.1 rfl (lv_room (Nat.le_of_ble_eq_true rfl)) dJu_change_318 ⟨Nat.le_of_ble_eq_true rfl, Nat.le_of_ble_eq_true rfl⟩) hS (fun r31 I31 F31 H locs hP hp31 hS => ?_)
      have hw := hw r31 I31 F31 hp31
      refine lv_if_eq (tgt := 328) hx hb dJu_change_321 (by decide) (fun h32 => ?_) (fun h32 => ?_)
      · have hw := hw.1 h32
        refine lv_iconst (v := 0) hx hb dJu_change_328 (by decide) ?_
        rw [hQ]
        exact W.zret (v := 0) hx hb hr rfl (fun t ht hW => ⟨⟨0, (I31, F31), rfl, hw, by subst ht; exact hP⟩, hS.F ht⟩) hS.2.2 dJu_change_329
      · have hw := hw.2 h32
        refine lv_iconst (v := 1) hx hb dJu_change_324 (by decide) ?_
        refine lv_goto (tgt := 329) hx hb dJu_change_325 (by decide) ?_
        rw [hQ]
        exact W.zret (v := 1) hx hb hr rfl (fun t ht hW => ⟨⟨1, (I31, F31), rfl, hw, by subst ht; exact hP⟩, hS.F ht⟩) hS.2.2 dJu_change_329
  · have hw := hw.2.2.2.2.2.2.2.2.1 h1
    refine lv_aload_n hx hb dJu_change_330 rfl (lv_at hl 2 rfl) ?_
    refine va_get (D := D) (v := .int (I (23 + 10 * k2))) (ci := 4) (C := "CodeJudge$Method") (T := T_Me) (N := 9) hx hb hts in_Me hown hK hP (23 + 3 * k2) (cw_M hk2) rfl 3 (by decide) (hts (.fieldLink "CodeJudge$Judge" 135 "CodeJudge$Method" "returns" "I") tw_1_43) (fun _ h9 => h9) rfl dJu_change_331 ?_
    refine lv_if_eq (tgt := 361) hx hb dJu_change_334 (by decide) (fun h33 => ?_) (fun h33 => ?_)
    · have hw := hw.1 h33
      exact J361 I F H locs ls (lv_sub hl [] rfl) hP hS hw
    · have hw := hw.2 h33
      refine lv_aload_n hx hb dJu_change_337 rfl (lv_at hl 0 rfl) ?_
      refine va_get (D := D) (v := .ref (a 10)) (ci := 2) (C := "CodeJudge$Judge") (T := T_Ju) (N := 8) hx hb hts in_Ju hown hK hP 2 cw_2 rfl 7 (by decide) (hts (.fieldLink "CodeJudge$Judge" 34 "CodeJudge$Judge" "now" "LCodeJudge$Shape;") tw_1_112) (fun _ h9 => h9) rfl dJu_change_338 ?_
      refine lv_iconst (v := 1) hx hb dJu_change_341 (by decide) ?_
      refine lv_aload_n hx hb dJu_change_342 rfl (lv_at hl 2 rfl) ?_
      refine va_get (D := D) (v := .int (I (23 + 10 * k2))) (ci := 4) (C := "CodeJudge$Method") (T := T_Me) (N := 9) hx hb hts in_Me hown hK hP (23 + 3 * k2) (cw_M hk2) rfl 3 (by decide) (hts (.fieldLink "CodeJudge$Judge" 135 "CodeJudge$Method" "returns" "I") tw_1_43) (fun _ h9 => h9) rfl dJu_change_343 ?_
      refine lv_iconst (v := 2) hx hb dJu_change_346 (by decide) ?_
      refine lv_icmp_ne (tgt := 354) hx hb dJu_change_347 (by decide) (fun h34 => ?_) (fun h34 => ?_)
      · have hw := hw.1 h34
        refine lv_iconst (v := 0) hx hb dJu_change_354 (by decide) ?_
        exact J355 0 1 I F H locs ls (lv_sub hl [] rfl) hP hS hw
      · have hw := hw.2 h34
        refine lv_iconst (v := 1) hx hb dJu_change_350 (by decide) ?_
        refine lv_goto (tgt := 355) hx hb dJu_change_351 (by decide) ?_
        exact J355 1 1 I F H locs ls (lv_sub hl [] rfl) hP hS hw
  · have hw := hw.2.2.2.2.2.2.2.2.2 h1
    refine lv_aload_n hx hb dJu_change_367 rfl (lv_at hl 0 rfl) ?_
    refine va_get (D := D) (v := .ref (a 10)) (ci := 2) (C := "CodeJudge$Judge") (T := T_Ju) (N := 8) hx hb hts in_Ju hown hK hP 2 cw_2 rfl 7 (by decide) (hts (.fieldLink "CodeJudge$Judge" 34 "CodeJudge$Judge" "now" "LCodeJudge$Shape;") tw_1_112) (fun _ h9 => h9) rfl dJu_change_368 ?_
    refine lv_iload_n hx hb dJu_change_371 rfl (lv_at hl 3 rfl) ?_
    obtain ⟨P37, hc37, hw⟩ := hw
    refine cc_i (va_runS (As := [.int p3]) (rest := [.ref (a 10)]) ⟨hx, hb, hml, hown, hts⟩ (c_Or_taken l D a cI cZ cQ hJ I F p3 H.size P37 hc37) (va_cwS 1 hts (tb_S wc_Or_taken tw_2_238 tw_2_239 tw_1_16) rfl rfl rfl (by decide +kernel) ⟨Nat.le_of_ble_eq_true rfl, Nat.le_of_ble_eq_true rfl⟩) ⟨cP_bl, cP_at hP hK hN⟩ rfl rfl hl.1 rfl (lv_room (Nat.le_of_ble_eq_true rfl)) dJu_change_372 ⟨Nat.le_of_ble_eq_true rfl, Nat.le_of_ble_eq_true rfl⟩) hS (fun r37 I37 F37 H locs hP hp37 hS => ?_)
    have hw := hw r37 I37 F37 hp37
    refine lv_iload_n hx hb dJu_change_375 rfl (lv_at hl 3 rfl) ?_
    obtain ⟨P38, hc38, hw⟩ := hw
    refine cc_i (va_runS (As := [.int p3]) (rest := [.int r37, .ref (a 10)]) ⟨hx, hb, hml, hown, hts⟩ (c_Or_arraysTaken l D a cI cZ cQ hJ I37 F37 p3 H.size P38 hc38) (va_cwS 1 hts (tb_S wc_Or_arraysTaken tw_3_4 tw_3_5 tw_1_16) rfl rfl rfl (by decide +kernel) ⟨Nat.le_of_ble_eq_true rfl, Nat.le_of_ble_eq_true rfl⟩) ⟨cP_bl, cP_at hP hK hN⟩ rfl rfl hl.1 rfl (lv_room (Nat.le_of_ble_eq_true rfl)) dJu_change_376 ⟨Nat.le_of_ble_eq_true rfl, Nat.le_of_ble_eq_true rfl⟩) hS (fun r38 I38 F38 H locs hP hp38 hS => ?_)
    have hw := hw r38 I38 F38 hp38
    obtain ⟨P39, hc39, hw⟩ := hw
    refine cc_i (va_runV (As := [.int r37, .int r38]) (rest := []) ⟨hx, hb, hml, hown, hts⟩ (c_Sh_take l D a cI cZ cQ hJ I38 F38 r37 r38 H.size P39 hc39) (cwV 2 hts (tb_V (C := "CodeJudge$Shape") wc_Sh_take tw_2_217 tw_2_218 tw_2_219 tw_1_4) rfl rfl rfl (by decide +kernel) ⟨Nat.le_of_ble_eq_true rfl, Nat.le_of_ble_eq_true rfl⟩) ⟨cP_bl, va_recv hK hP rfl cw_10, cP_at hP hK hN⟩ rfl rfl hl.1 rfl (lv_room (Nat.le_of_ble_eq_true rfl)) dJu_change_379 ⟨Nat.le_of_ble_eq_true rfl, Nat.le_of_ble_eq_true rfl⟩) hS (fun r39 I39 F39 H locs hP hp39 hS => ?_)
    have hw := hw r39 I39 F39 hp39
    refine lv_if_eq (tgt := 403) hx hb dJu_change_382 (by decide) (fun h40 => ?_) (fun h40 => ?_)
    · have hw := hw.1 h40
      refine lv_iconst (v := 0) hx hb dJu_change_403 (by decide) ?_
      rw [hQ]
      exact W.zret (v := 0) hx hb hr rfl (fun t ht hW => ⟨⟨0, (I39, F39), rfl, hw, by subst ht; exact hP⟩, hS.F ht⟩) hS.2.2 dJu_change_404
    · have hw := hw.2 h40
      refine lv_aload_n hx hb dJu_change_385 rfl (lv_at hl 0 rfl) ?_
      refine va_get (D := D) (v := .ref (a 10)) (ci := 2) (C := "CodeJudge$Judge") (T := T_Ju) (N := 8) hx hb hts in_Ju hown hK hP 2 cw_2 rfl 7 (by decide) (hts (.fieldLink "CodeJudge$Judge" 34 "CodeJudge$Judge" "now" "LCodeJudge$Shape;") tw_1_112) (fun _ h9 => h9) rfl dJu_change_386 ?_
      refine lv_iload_n hx hb dJu_change_389 rfl (lv_at hl 3 rfl) ?_
      obtain ⟨P41, hc41, hw⟩ := hw
      refine cc_i (va_runS (As := [.int p3]) (rest := [.ref (a 10)]) ⟨hx, hb, hml, hown, hts⟩ (c_Or_puts l D a cI cZ cQ hJ I39 F39 p3 H.size P41 hc41) (va_cwS 1 hts (tb_S wc_Or_puts tw_3_7 tw_3_8 tw_1_16) rfl rfl rfl (by decide +kernel) ⟨Nat.le_of_ble_eq_true rfl, Nat.le_of_ble_eq_true rfl⟩) ⟨cP_bl, cP_at hP hK hN⟩ rfl rfl hl.1 rfl (lv_room (Nat.le_of_ble_eq_true rfl)) dJu_change_390 ⟨Nat.le_of_ble_eq_true rfl, Nat.le_of_ble_eq_true rfl⟩) hS (fun r41 I41 F41 H locs hP hp41 hS => ?_)
      have hw := hw r41 I41 F41 hp41
      obtain ⟨P42, hc42, hw⟩ := hw
      refine cc_i (va_runV (As := [.int r41]) (rest := []) ⟨hx, hb, hml, hown, hts⟩ (c_Sh_put l D a cI cZ cQ hJ I41 F41 r41 H.size P42 hc42) (cwV 1 hts (tb_V (C := "CodeJudge$Shape") wc_Sh_put tw_2_213 tw_2_214 tw_2_215 tw_1_4) rfl rfl rfl (by decide +kernel) ⟨Nat.le_of_ble_eq_true rfl, Nat.le_of_ble_eq_true rfl⟩) ⟨cP_bl, va_recv hK hP rfl cw_10, cP_at hP hK hN⟩ rfl rfl hl.1 rfl (lv_room (Nat.le_of_ble_eq_true rfl)) dJu_change_393 ⟨Nat.le_of_ble_eq_true rfl, Nat.le_of_ble_eq_true rfl⟩) hS (fun r42 I42 F42 H locs hP hp42 hS => ?_)
      have hw := hw r42 I42 F42 hp42
      refine lv_if_eq (tgt := 403) hx hb dJu_change_396 (by decide) (fun h43 => ?_) (fun h43 => ?_)
      · have hw := hw.1 h43
        refine lv_iconst (v := 0) hx hb dJu_change_403 (by decide) ?_
        rw [hQ]
        exact W.zret (v := 0) hx hb hr rfl (fun t ht hW => ⟨⟨0, (I42, F42), rfl, hw, by subst ht; exact hP⟩, hS.F ht⟩) hS.2.2 dJu_change_404
      · have hw := hw.2 h43
        refine lv_iconst (v := 1) hx hb dJu_change_399 (by decide) ?_
        refine lv_goto (tgt := 404) hx hb dJu_change_400 (by decide) ?_
        rw [hQ]
        exact W.zret (v := 1) hx hb hr rfl (fun t ht hW => ⟨⟨1, (I42, F42), rfl, hw, by subst ht; exact hP⟩, hS.F ht⟩) hS.2.2 dJu_change_404
