def wp_Me_append (k0 : Nat) (p1 : Int32) (p2 : Int32) (I : SI) (F : SF) (Post : SI → SF → Prop) : Prop := (120 ≤ (I (26 + 10 * k0)) → (Post I F)) ∧ (¬ 120 ≤ (I (26 + 10 * k0)) → (vp_in (I (26 + 10 * k0)) 120 ∧ (vp_in (I (26 + 10 * k0)) 120 ∧ (Post (va_up I (26 + 10 * k0) ((I (26 + 10 * k0)) + 1)) (va_up (va_up F (24 + 3 * k0) (upd (F (24 + 3 * k0)) (I (26 + 10 * k0) : Int32).toNatClampNeg p1)) (25 + 3 * k0) (upd ((va_up F (24 + 3 * k0) (upd (F (24 + 3 * k0)) (I (26 + 10 * k0) : Int32).toNatClampNeg p1)) (25 + 3 * k0)) (I (26 + 10 * k0) : Int32).toNatClampNeg p2))))))
set_option maxHeartbeats 4000000 in
set_option maxRecDepth 100000 in
theorem c_Me_append (l : Launch) (D : va_G) (a : Nat → Nat) (cI cZ cQ : ClassId) (hJ : xJ 47 a) (I : SI) (F : SF) (k0 : Nat) (p1 : Int32) (p2 : Int32) (hk0 : k0 < 8) (sz : Nat) (Post : SI → SF → Prop) (hw : wp_Me_append k0 p1 p2 I F Post) : Met l y_Me_append (Cond.code y_Me_append b_Me_append 3 none :: TB) { frames := 0, cells := 0, slots := 0, locals := 0 } (va_Pc [.ref (a (23 + 3 * k0)), .int p1, .int p2] (cP D a cI cZ cQ I F sz)) (va_Qv (fun (u : SI × SF) => Post u.1 u.2) (fun u t => va_P D vwCl (cw a cI cZ cQ u.1 u.2) t.heap) (xA 47 a sz)) 0 0 (xA 47 a sz) := by
  refine Met.ofW (cc := b_Me_append) (maxL := 3) (ret := none) (by decide) rfl ?_
  intro p e s m args below meth c s₁ B hml hv
  obtain ⟨rfl, rfl, hP, hK, hN⟩ := hv
  have hx := B.exec
  have hb := B.bytes
  have hr := B.returns
  have hts : ∀ w ∈ TB, w.before _ s = true := fun w h => atoms_spec (ws := Cond.code y_Me_append b_Me_append 3 none :: TB) B.pre w (List.mem_cons_of_mem _ h)
  have hown : s.vm.findClass "CodeJudge$Method" = some m.cls := findClass_of_methodNamed B.named
  have hlocks := B.notSynchronized
  have hl := lv_entry ([.ref (a (23 + 3 * k0)), .int p1, .int p2]) (n := 3) (Nat.le_of_ble_eq_true rfl)
  rw [lg_entry_eq]
  generalize (lg_sl ([.ref (a (23 + 3 * k0)), .int p1, .int p2]) ++ List.replicate (3 - (lg_sl ([.ref (a (23 + 3 * k0)), .int p1, .int p2])).length) Slot.unset).toArray = ls at hl ⊢
  have hl : lv_has ls 3 [(0, .ref (a (23 + 3 * k0))), (1, .int p1), (2, .int p2)] := hl
  suffices hM : ∀ (H : Heap) (locs : List Loc), va_P D vwCl (cw a cI cZ cQ I F) H → va_S (xA 47 a s.heap.size) s.heap H locs → W p l e (headSpec (Cond.code y_Me_append b_Me_append 3 none :: TB) { frames := 0, cells := 0, slots := 0, locals := 0 }).room s m ([.ref (a (23 + 3 * k0)), .int p1, .int p2]).toArray below meth c H locs 0 0 (MQ below (va_Qv (fun (u : SI × SF) => Post u.1 u.2) (fun u t => va_P D vwCl (cw a cI cZ cQ u.1 u.2) t.heap) (xA 47 a s.heap.size)) ([.ref (a (23 + 3 * k0)), .int p1, .int p2]).toArray s 0 0 (xA 47 a s.heap.size)) (F0 m 0 ls []) from hM s.heap [] hP va_S.rf
  clear hP
  intro H locs hP hS
  dsimp only [wp_Me_append] at hw
  refine lv_aload_n hx hb dMe_append_0 rfl (lv_at hl 0 rfl) ?_
  refine va_get (D := D) (v := .int (I (26 + 10 * k0))) (ci := 4) (C := "CodeJudge$Method") (T := T_Me) (N := 9) hx hb hts in_Me hown hK hP (23 + 3 * k0) (cw_M hk0) rfl 6 (by decide) (hts (.fieldLink "CodeJudge$Method" 38 "CodeJudge$Method" "size" "I") tw_1_50) (fun _ h9 => h9) rfl dMe_append_1 ?_
  refine lv_bipush (v := 120) hx hb dMe_append_4 (by decide) ?_
  refine lv_icmp_ge (tgt := 39) hx hb dMe_append_6 (by decide) (fun h1 => ?_) (fun h1 => ?_)
  · have hw := hw.1 h1
    exact W.vret hx hb hr (fun t ht hW => ⟨⟨(I, F), rfl, hw, by subst ht; exact hP⟩, hS.F ht⟩) hS.2.2 dMe_append_39
  · have hw := hw.2 h1
    refine lv_aload_n hx hb dMe_append_9 rfl (lv_at hl 0 rfl) ?_
    refine va_get (D := D) (v := .ref (a (24 + 3 * k0))) (ci := 4) (C := "CodeJudge$Method") (T := T_Me) (N := 9) hx hb hts in_Me hown hK hP (23 + 3 * k0) (cw_M hk0) rfl 7 (by decide) (hts (.fieldLink "CodeJudge$Method" 9 "CodeJudge$Method" "orders" "[I") tw_1_53) (fun _ h9 => h9) rfl dMe_append_10 ?_
    refine lv_aload_n hx hb dMe_append_13 rfl (lv_at hl 0 rfl) ?_
    refine va_get (D := D) (v := .int (I (26 + 10 * k0))) (ci := 4) (C := "CodeJudge$Method") (T := T_Me) (N := 9) hx hb hts in_Me hown hK hP (23 + 3 * k0) (cw_M hk0) rfl 6 (by decide) (hts (.fieldLink "CodeJudge$Method" 38 "CodeJudge$Method" "size" "I") tw_1_50) (fun _ h9 => h9) rfl dMe_append_14 ?_
    refine lv_iload_n hx hb dMe_append_17 rfl (lv_at hl 1 rfl) ?_
    obtain ⟨h2, hw⟩ := hw
    refine va_iast hx hb hK hP (cD hJ) hS (24 + 3 * k0) 0 (cw_MO hk0) rfl h2 dMe_append_18 (fun H locs hP _ hS => ?_)
    have hP := cwa_MO hk0 hP
    refine lv_aload_n hx hb dMe_append_19 rfl (lv_at hl 0 rfl) ?_
    refine va_get (D := D) (v := .ref (a (25 + 3 * k0))) (ci := 4) (C := "CodeJudge$Method") (T := T_Me) (N := 9) hx hb hts in_Me hown hK hP (23 + 3 * k0) (cw_M hk0) rfl 8 (by decide) (hts (.fieldLink "CodeJudge$Method" 15 "CodeJudge$Method" "numbers" "[I") tw_1_54) (fun _ h9 => h9) rfl dMe_append_20 ?_
    refine lv_aload_n hx hb dMe_append_23 rfl (lv_at hl 0 rfl) ?_
    refine va_get (D := D) (v := .int (I (26 + 10 * k0))) (ci := 4) (C := "CodeJudge$Method") (T := T_Me) (N := 9) hx hb hts in_Me hown hK hP (23 + 3 * k0) (cw_M hk0) rfl 6 (by decide) (hts (.fieldLink "CodeJudge$Method" 38 "CodeJudge$Method" "size" "I") tw_1_50) (fun _ h9 => h9) rfl dMe_append_24 ?_
    refine lv_iload_n hx hb dMe_append_27 rfl (lv_at hl 2 rfl) ?_
    obtain ⟨h3, hw⟩ := hw
    refine va_iast hx hb hK hP (cD hJ) hS (25 + 3 * k0) 0 (cw_MN hk0) rfl h3 dMe_append_28 (fun H locs hP _ hS => ?_)
    have hP := cwa_MN hk0 hP
    refine lv_aload_n hx hb dMe_append_29 rfl (lv_at hl 0 rfl) ?_
    refine lv_dup hx hb dMe_append_30 rfl ?_
    refine va_get (D := D) (v := .int (I (26 + 10 * k0))) (ci := 4) (C := "CodeJudge$Method") (T := T_Me) (N := 9) hx hb hts in_Me hown hK hP (23 + 3 * k0) (cw_M hk0) rfl 6 (by decide) (hts (.fieldLink "CodeJudge$Method" 38 "CodeJudge$Method" "size" "I") tw_1_50) (fun _ h9 => h9) rfl dMe_append_31 ?_
    refine lv_iconst (v := 1) hx hb dMe_append_34 (by decide) ?_
    refine lv_iadd hx hb dMe_append_35 ?_
    refine va_put (D := D) (ci := 4) (v := .int ((I (26 + 10 * k0)) + 1)) (ty := .int) (C := "CodeJudge$Method") (T := T_Me) (N := 9) hx hb hts in_Me ty_Me ok_Me nm_Me hown hK hP (cD hJ) hS (23 + 3 * k0) (cw_M hk0) rfl 6 (by decide) (hts (.fieldLink "CodeJudge$Method" 38 "CodeJudge$Method" "size" "I") tw_1_50) (fun _ h9 => h9) rfl (by decide +kernel) rfl rfl (Nat.le_of_ble_eq_true rfl) dMe_append_36 (fun H locs hP _ hS => ?_)
    have hP := cwp_Msize hk0 hP
    exact W.vret hx hb hr (fun t ht hW => ⟨⟨((va_up I (26 + 10 * k0) ((I (26 + 10 * k0)) + 1)), (va_up (va_up F (24 + 3 * k0) (upd (F (24 + 3 * k0)) (I (26 + 10 * k0) : Int32).toNatClampNeg p1)) (25 + 3 * k0) (upd ((va_up F (24 + 3 * k0) (upd (F (24 + 3 * k0)) (I (26 + 10 * k0) : Int32).toNatClampNeg p1)) (25 + 3 * k0)) (I (26 + 10 * k0) : Int32).toNatClampNeg p2))), rfl, hw, by subst ht; exact hP⟩, hS.F ht⟩) hS.2.2 dMe_append_39
def wp_Me_begin (k0 : Nat) (p1 : Int32) (p2 : Int32) (p3 : Int32) (p4 : Int32) (p5 : Int32) (I : SI) (F : SF) (Post : SI → SF → Prop) : Prop := Post (va_up (va_up (va_up (va_up (va_up (va_up (va_up I (20 + 10 * k0) 1) (21 + 10 * k0) p1) (22 + 10 * k0) p2) (23 + 10 * k0) p3) (24 + 10 * k0) p4) (25 + 10 * k0) p5) (26 + 10 * k0) 0) F
set_option maxHeartbeats 4000000 in
set_option maxRecDepth 100000 in
theorem c_Me_begin (l : Launch) (D : va_G) (a : Nat → Nat) (cI cZ cQ : ClassId) (hJ : xJ 47 a) (I : SI) (F : SF) (k0 : Nat) (p1 : Int32) (p2 : Int32) (p3 : Int32) (p4 : Int32) (p5 : Int32) (hk0 : k0 < 8) (sz : Nat) (Post : SI → SF → Prop) (hw : wp_Me_begin k0 p1 p2 p3 p4 p5 I F Post) : Met l y_Me_begin (Cond.code y_Me_begin b_Me_begin 6 none :: TB) { frames := 0, cells := 0, slots := 0, locals := 0 } (va_Pc [.ref (a (23 + 3 * k0)), .int p1, .int p2, .int p3, .int p4, .int p5] (cP D a cI cZ cQ I F sz)) (va_Qv (fun (u : SI × SF) => Post u.1 u.2) (fun u t => va_P D vwCl (cw a cI cZ cQ u.1 u.2) t.heap) (xA 47 a sz)) 0 0 (xA 47 a sz) := by
  refine Met.ofW (cc := b_Me_begin) (maxL := 6) (ret := none) (by decide) rfl ?_
  intro p e s m args below meth c s₁ B hml hv
  obtain ⟨rfl, rfl, hP, hK, hN⟩ := hv
  have hx := B.exec
  have hb := B.bytes
  have hr := B.returns
  have hts : ∀ w ∈ TB, w.before _ s = true := fun w h => atoms_spec (ws := Cond.code y_Me_begin b_Me_begin 6 none :: TB) B.pre w (List.mem_cons_of_mem _ h)
  have hown : s.vm.findClass "CodeJudge$Method" = some m.cls := findClass_of_methodNamed B.named
  have hlocks := B.notSynchronized
  have hl := lv_entry ([.ref (a (23 + 3 * k0)), .int p1, .int p2, .int p3, .int p4, .int p5]) (n := 6) (Nat.le_of_ble_eq_true rfl)
  rw [lg_entry_eq]
  generalize (lg_sl ([.ref (a (23 + 3 * k0)), .int p1, .int p2, .int p3, .int p4, .int p5]) ++ List.replicate (6 - (lg_sl ([.ref (a (23 + 3 * k0)), .int p1, .int p2, .int p3, .int p4, .int p5])).length) Slot.unset).toArray = ls at hl ⊢
  have hl : lv_has ls 6 [(0, .ref (a (23 + 3 * k0))), (1, .int p1), (2, .int p2), (3, .int p3), (4, .int p4), (5, .int p5)] := hl
  suffices hM : ∀ (H : Heap) (locs : List Loc), va_P D vwCl (cw a cI cZ cQ I F) H → va_S (xA 47 a s.heap.size) s.heap H locs → W p l e (headSpec (Cond.code y_Me_begin b_Me_begin 6 none :: TB) { frames := 0, cells := 0, slots := 0, locals := 0 }).room s m ([.ref (a (23 + 3 * k0)), .int p1, .int p2, .int p3, .int p4, .int p5]).toArray below meth c H locs 0 0 (MQ below (va_Qv (fun (u : SI × SF) => Post u.1 u.2) (fun u t => va_P D vwCl (cw a cI cZ cQ u.1 u.2) t.heap) (xA 47 a s.heap.size)) ([.ref (a (23 + 3 * k0)), .int p1, .int p2, .int p3, .int p4, .int p5]).toArray s 0 0 (xA 47 a s.heap.size)) (F0 m 0 ls []) from hM s.heap [] hP va_S.rf
  clear hP
  intro H locs hP hS
  dsimp only [wp_Me_begin] at hw
  refine lv_aload_n hx hb dMe_begin_0 rfl (lv_at hl 0 rfl) ?_
  refine lv_iconst (v := 1) hx hb dMe_begin_1 (by decide) ?_
  refine va_put (D := D) (ci := 4) (v := .int 1) (ty := .boolean) (C := "CodeJudge$Method") (T := T_Me) (N := 9) hx hb hts in_Me ty_Me ok_Me nm_Me hown hK hP (cD hJ) hS (23 + 3 * k0) (cw_M hk0) rfl 0 (by decide) (hts (.fieldLink "CodeJudge$Method" 18 "CodeJudge$Method" "there" "Z") tw_1_34) (fun _ h9 => h9) rfl (by decide +kernel) rfl rfl (Nat.le_of_ble_eq_true rfl) dMe_begin_2 (fun H locs hP _ hS => ?_)
  have hP := cwp_Mthere hk0 hP
  refine lv_aload_n hx hb dMe_begin_5 rfl (lv_at hl 0 rfl) ?_
  refine lv_iload_n hx hb dMe_begin_6 rfl (lv_at hl 1 rfl) ?_
  refine va_put (D := D) (ci := 4) (v := .int p1) (ty := .int) (C := "CodeJudge$Method") (T := T_Me) (N := 9) hx hb hts in_Me ty_Me ok_Me nm_Me hown hK hP (cD hJ) hS (23 + 3 * k0) (cw_M hk0) rfl 1 (by decide) (hts (.fieldLink "CodeJudge$Method" 22 "CodeJudge$Method" "parameters" "I") tw_1_37) (fun _ h9 => h9) rfl (by decide +kernel) rfl rfl (Nat.le_of_ble_eq_true rfl) dMe_begin_7 (fun H locs hP _ hS => ?_)
  have hP := cwp_Mparameters hk0 hP
  refine lv_aload_n hx hb dMe_begin_10 rfl (lv_at hl 0 rfl) ?_
  refine lv_iload_n hx hb dMe_begin_11 rfl (lv_at hl 2 rfl) ?_
  refine va_put (D := D) (ci := 4) (v := .int p2) (ty := .int) (C := "CodeJudge$Method") (T := T_Me) (N := 9) hx hb hts in_Me ty_Me ok_Me nm_Me hown hK hP (cD hJ) hS (23 + 3 * k0) (cw_M hk0) rfl 2 (by decide) (hts (.fieldLink "CodeJudge$Method" 26 "CodeJudge$Method" "arrays" "I") tw_1_40) (fun _ h9 => h9) rfl (by decide +kernel) rfl rfl (Nat.le_of_ble_eq_true rfl) dMe_begin_12 (fun H locs hP _ hS => ?_)
  have hP := cwp_Marrays hk0 hP
  refine lv_aload_n hx hb dMe_begin_15 rfl (lv_at hl 0 rfl) ?_
  refine lv_iload_n hx hb dMe_begin_16 rfl (lv_at hl 3 rfl) ?_
  refine va_put (D := D) (ci := 4) (v := .int p3) (ty := .int) (C := "CodeJudge$Method") (T := T_Me) (N := 9) hx hb hts in_Me ty_Me ok_Me nm_Me hown hK hP (cD hJ) hS (23 + 3 * k0) (cw_M hk0) rfl 3 (by decide) (hts (.fieldLink "CodeJudge$Method" 29 "CodeJudge$Method" "returns" "I") tw_1_42) (fun _ h9 => h9) rfl (by decide +kernel) rfl rfl (Nat.le_of_ble_eq_true rfl) dMe_begin_17 (fun H locs hP _ hS => ?_)
  have hP := cwp_Mreturns hk0 hP
  refine lv_aload_n hx hb dMe_begin_20 rfl (lv_at hl 0 rfl) ?_
  refine lv_iload hx hb dMe_begin_21 (lv_at hl 4 rfl) ?_
  refine va_put (D := D) (ci := 4) (v := .int p4) (ty := .int) (C := "CodeJudge$Method") (T := T_Me) (N := 9) hx hb hts in_Me ty_Me ok_Me nm_Me hown hK hP (cD hJ) hS (23 + 3 * k0) (cw_M hk0) rfl 4 (by decide) (hts (.fieldLink "CodeJudge$Method" 32 "CodeJudge$Method" "locals" "I") tw_1_45) (fun _ h9 => h9) rfl (by decide +kernel) rfl rfl (Nat.le_of_ble_eq_true rfl) dMe_begin_23 (fun H locs hP _ hS => ?_)
  have hP := cwp_Mlocals hk0 hP
  refine lv_aload_n hx hb dMe_begin_26 rfl (lv_at hl 0 rfl) ?_
  refine lv_iload hx hb dMe_begin_27 (lv_at hl 5 rfl) ?_
  refine va_put (D := D) (ci := 4) (v := .int p5) (ty := .int) (C := "CodeJudge$Method") (T := T_Me) (N := 9) hx hb hts in_Me ty_Me ok_Me nm_Me hown hK hP (cD hJ) hS (23 + 3 * k0) (cw_M hk0) rfl 5 (by decide) (hts (.fieldLink "CodeJudge$Method" 35 "CodeJudge$Method" "limit" "I") tw_1_48) (fun _ h9 => h9) rfl (by decide +kernel) rfl rfl (Nat.le_of_ble_eq_true rfl) dMe_begin_29 (fun H locs hP _ hS => ?_)
  have hP := cwp_Mlimit hk0 hP
  refine lv_aload_n hx hb dMe_begin_32 rfl (lv_at hl 0 rfl) ?_
  refine lv_iconst (v := 0) hx hb dMe_begin_33 (by decide) ?_
  refine va_put (D := D) (ci := 4) (v := .int 0) (ty := .int) (C := "CodeJudge$Method") (T := T_Me) (N := 9) hx hb hts in_Me ty_Me ok_Me nm_Me hown hK hP (cD hJ) hS (23 + 3 * k0) (cw_M hk0) rfl 6 (by decide) (hts (.fieldLink "CodeJudge$Method" 38 "CodeJudge$Method" "size" "I") tw_1_50) (fun _ h9 => h9) rfl (by decide +kernel) rfl rfl (Nat.le_of_ble_eq_true rfl) dMe_begin_34 (fun H locs hP _ hS => ?_)
  have hP := cwp_Msize hk0 hP
  exact W.vret hx hb hr (fun t ht hW => ⟨⟨((va_up (va_up (va_up (va_up (va_up (va_up (va_up I (20 + 10 * k0) 1) (21 + 10 * k0) p1) (22 + 10 * k0) p2) (23 + 10 * k0) p3) (24 + 10 * k0) p4) (25 + 10 * k0) p5) (26 + 10 * k0) 0), F), rfl, hw, by subst ht; exact hP⟩, hS.F ht⟩) hS.2.2 dMe_begin_37
def wp_Me_renumber (k0 : Nat) (p1 : Int32) (p2 : Int32) (I : SI) (F : SF) (Post : SI → SF → Prop) : Prop := ∃ P1 : Int32 → SI → SF → Prop, wp_Me_has k0 p1 I F P1 ∧ ∀ r1 I1 F1, P1 r1 I1 F1 → ((r1 = 0 → (Post I1 F1)) ∧ (¬ r1 = 0 → (vp_in p1 120 ∧ (Post I1 (va_up F1 (25 + 3 * k0) (upd (F1 (25 + 3 * k0)) p1.toNatClampNeg p2))))))
set_option maxHeartbeats 4000000 in
set_option maxRecDepth 100000 in
theorem c_Me_renumber (l : Launch) (D : va_G) (a : Nat → Nat) (cI cZ cQ : ClassId) (hJ : xJ 47 a) (I : SI) (F : SF) (k0 : Nat) (p1 : Int32) (p2 : Int32) (hk0 : k0 < 8) (sz : Nat) (Post : SI → SF → Prop) (hw : wp_Me_renumber k0 p1 p2 I F Post) : Met l y_Me_renumber (Cond.code y_Me_renumber b_Me_renumber 3 none :: TB) { frames := 2, cells := 0, slots := 0, locals := 42 } (va_Pc [.ref (a (23 + 3 * k0)), .int p1, .int p2] (cP D a cI cZ cQ I F sz)) (va_Qv (fun (u : SI × SF) => Post u.1 u.2) (fun u t => va_P D vwCl (cw a cI cZ cQ u.1 u.2) t.heap) (xA 47 a sz)) 0 0 (xA 47 a sz) := by
  refine Met.ofW (cc := b_Me_renumber) (maxL := 3) (ret := none) (by decide) rfl ?_
  intro p e s m args below meth c s₁ B hml hv
  obtain ⟨rfl, rfl, hP, hK, hN⟩ := hv
  have hx := B.exec
  have hb := B.bytes
  have hr := B.returns
  have hts : ∀ w ∈ TB, w.before _ s = true := fun w h => atoms_spec (ws := Cond.code y_Me_renumber b_Me_renumber 3 none :: TB) B.pre w (List.mem_cons_of_mem _ h)
  have hown : s.vm.findClass "CodeJudge$Method" = some m.cls := findClass_of_methodNamed B.named
  have hlocks := B.notSynchronized
  have hl := lv_entry ([.ref (a (23 + 3 * k0)), .int p1, .int p2]) (n := 3) (Nat.le_of_ble_eq_true rfl)
  rw [lg_entry_eq]
  generalize (lg_sl ([.ref (a (23 + 3 * k0)), .int p1, .int p2]) ++ List.replicate (3 - (lg_sl ([.ref (a (23 + 3 * k0)), .int p1, .int p2])).length) Slot.unset).toArray = ls at hl ⊢
  have hl : lv_has ls 3 [(0, .ref (a (23 + 3 * k0))), (1, .int p1), (2, .int p2)] := hl
  suffices hM : ∀ (H : Heap) (locs : List Loc), va_P D vwCl (cw a cI cZ cQ I F) H → va_S (xA 47 a s.heap.size) s.heap H locs → W p l e (headSpec (Cond.code y_Me_renumber b_Me_renumber 3 none :: TB) { frames := 2, cells := 0, slots := 0, locals := 42 }).room s m ([.ref (a (23 + 3 * k0)), .int p1, .int p2]).toArray below meth c H locs 0 0 (MQ below (va_Qv (fun (u : SI × SF) => Post u.1 u.2) (fun u t => va_P D vwCl (cw a cI cZ cQ u.1 u.2) t.heap) (xA 47 a s.heap.size)) ([.ref (a (23 + 3 * k0)), .int p1, .int p2]).toArray s 0 0 (xA 47 a s.heap.size)) (F0 m 0 ls []) from hM s.heap [] hP va_S.rf
  clear hP
  intro H locs hP hS
  dsimp only [wp_Me_renumber] at hw
  refine lv_aload_n hx hb dMe_renumber_0 rfl (lv_at hl 0 rfl) ?_
  refine lv_iload_n hx hb dMe_renumber_1 rfl (lv_at hl 1 rfl) ?_
  obtain ⟨P1, hc1, hw⟩ := hw
  refine cc_i (va_runV (As := [.int p1]) (rest := []) ⟨hx, hb, hml, hown, hts⟩ (c_Me_has l D a cI cZ cQ hJ I F k0 p1 hk0 H.size P1 hc1) (cwV 1 hts (tb_V (C := "CodeJudge$Method") wc_Me_has tw_2_146 tw_2_138 tw_2_139 tw_1_2) rfl rfl rfl (by decide +kernel) ⟨Nat.le_of_ble_eq_true rfl, Nat.le_of_ble_eq_true rfl⟩) ⟨cP_bl, va_recv hK hP rfl (cw_M hk0), cP_at hP hK hN⟩ rfl rfl hl.1 rfl (lv_room (Nat.le_of_ble_eq_true rfl)) dMe_renumber_2 ⟨Nat.le_of_ble_eq_true rfl, Nat.le_of_ble_eq_true rfl⟩) hS (fun r1 I1 F1 H locs hP hp1 hS => ?_)
  have hw := hw r1 I1 F1 hp1
  refine lv_if_eq (tgt := 15) hx hb dMe_renumber_5 (by decide) (fun h2 => ?_) (fun h2 => ?_)
  · have hw := hw.1 h2
    exact W.vret hx hb hr (fun t ht hW => ⟨⟨(I1, F1), rfl, hw, by subst ht; exact hP⟩, hS.F ht⟩) hS.2.2 dMe_renumber_15
  · have hw := hw.2 h2
    refine lv_aload_n hx hb dMe_renumber_8 rfl (lv_at hl 0 rfl) ?_
    refine va_get (D := D) (v := .ref (a (25 + 3 * k0))) (ci := 4) (C := "CodeJudge$Method") (T := T_Me) (N := 9) hx hb hts in_Me hown hK hP (23 + 3 * k0) (cw_M hk0) rfl 8 (by decide) (hts (.fieldLink "CodeJudge$Method" 15 "CodeJudge$Method" "numbers" "[I") tw_1_54) (fun _ h9 => h9) rfl dMe_renumber_9 ?_
    refine lv_iload_n hx hb dMe_renumber_12 rfl (lv_at hl 1 rfl) ?_
    refine lv_iload_n hx hb dMe_renumber_13 rfl (lv_at hl 2 rfl) ?_
    obtain ⟨h3, hw⟩ := hw
    refine va_iast hx hb hK hP (cD hJ) hS (25 + 3 * k0) 0 (cw_MN hk0) rfl h3 dMe_renumber_14 (fun H locs hP _ hS => ?_)
    have hP := cwa_MN hk0 hP
    exact W.vret hx hb hr (fun t ht hW => ⟨⟨(I1, (va_up F1 (25 + 3 * k0) (upd (F1 (25 + 3 * k0)) p1.toNatClampNeg p2))), rfl, hw, by subst ht; exact hP⟩, hS.F ht⟩) hS.2.2 dMe_renumber_15
def wp_Me_vanish (k0 : Nat) (I : SI) (F : SF) (Post : SI → SF → Prop) : Prop := Post (va_up (va_up I (20 + 10 * k0) 0) (26 + 10 * k0) 0) F
set_option maxHeartbeats 4000000 in
set_option maxRecDepth 100000 in
theorem c_Me_vanish (l : Launch) (D : va_G) (a : Nat → Nat) (cI cZ cQ : ClassId) (hJ : xJ 47 a) (I : SI) (F : SF) (k0 : Nat) (hk0 : k0 < 8) (sz : Nat) (Post : SI → SF → Prop) (hw : wp_Me_vanish k0 I F Post) : Met l y_Me_vanish (Cond.code y_Me_vanish b_Me_vanish 1 none :: TB) { frames := 0, cells := 0, slots := 0, locals := 0 } (va_Pc [.ref (a (23 + 3 * k0))] (cP D a cI cZ cQ I F sz)) (va_Qv (fun (u : SI × SF) => Post u.1 u.2) (fun u t => va_P D vwCl (cw a cI cZ cQ u.1 u.2) t.heap) (xA 47 a sz)) 0 0 (xA 47 a sz) := by
  refine Met.ofW (cc := b_Me_vanish) (maxL := 1) (ret := none) (by decide) rfl ?_
  intro p e s m args below meth c s₁ B hml hv
  obtain ⟨rfl, rfl, hP, hK, hN⟩ := hv
  have hx := B.exec
  have hb := B.bytes
  have hr := B.returns
  have hts : ∀ w ∈ TB, w.before _ s = true := fun w h => atoms_spec (ws := Cond.code y_Me_vanish b_Me_vanish 1 none :: TB) B.pre w (List.mem_cons_of_mem _ h)
  have hown : s.vm.findClass "CodeJudge$Method" = some m.cls := findClass_of_methodNamed B.named
  have hlocks := B.notSynchronized
  have hl := lv_entry ([.ref (a (23 + 3 * k0))]) (n := 1) (Nat.le_of_ble_eq_true rfl)
  rw [lg_entry_eq]
  generalize (lg_sl ([.ref (a (23 + 3 * k0))]) ++ List.replicate (1 - (lg_sl ([.ref (a (23 + 3 * k0))])).length) Slot.unset).toArray = ls at hl ⊢
  have hl : lv_has ls 1 [(0, .ref (a (23 + 3 * k0)))] := hl
  suffices hM : ∀ (H : Heap) (locs : List Loc), va_P D vwCl (cw a cI cZ cQ I F) H → va_S (xA 47 a s.heap.size) s.heap H locs → W p l e (headSpec (Cond.code y_Me_vanish b_Me_vanish 1 none :: TB) { frames := 0, cells := 0, slots := 0, locals := 0 }).room s m ([.ref (a (23 + 3 * k0))]).toArray below meth c H locs 0 0 (MQ below (va_Qv (fun (u : SI × SF) => Post u.1 u.2) (fun u t => va_P D vwCl (cw a cI cZ cQ u.1 u.2) t.heap) (xA 47 a s.heap.size)) ([.ref (a (23 + 3 * k0))]).toArray s 0 0 (xA 47 a s.heap.size)) (F0 m 0 ls []) from hM s.heap [] hP va_S.rf
  clear hP
  intro H locs hP hS
  dsimp only [wp_Me_vanish] at hw
  refine lv_aload_n hx hb dMe_vanish_0 rfl (lv_at hl 0 rfl) ?_
  refine lv_iconst (v := 0) hx hb dMe_vanish_1 (by decide) ?_
  refine va_put (D := D) (ci := 4) (v := .int 0) (ty := .boolean) (C := "CodeJudge$Method") (T := T_Me) (N := 9) hx hb hts in_Me ty_Me ok_Me nm_Me hown hK hP (cD hJ) hS (23 + 3 * k0) (cw_M hk0) rfl 0 (by decide) (hts (.fieldLink "CodeJudge$Method" 18 "CodeJudge$Method" "there" "Z") tw_1_34) (fun _ h9 => h9) rfl (by decide +kernel) rfl rfl (Nat.le_of_ble_eq_true rfl) dMe_vanish_2 (fun H locs hP _ hS => ?_)
  have hP := cwp_Mthere hk0 hP
  refine lv_aload_n hx hb dMe_vanish_5 rfl (lv_at hl 0 rfl) ?_
  refine lv_iconst (v := 0) hx hb dMe_vanish_6 (by decide) ?_
  refine va_put (D := D) (ci := 4) (v := .int 0) (ty := .int) (C := "CodeJudge$Method") (T := T_Me) (N := 9) hx hb hts in_Me ty_Me ok_Me nm_Me hown hK hP (cD hJ) hS (23 + 3 * k0) (cw_M hk0) rfl 6 (by decide) (hts (.fieldLink "CodeJudge$Method" 38 "CodeJudge$Method" "size" "I") tw_1_50) (fun _ h9 => h9) rfl (by decide +kernel) rfl rfl (Nat.le_of_ble_eq_true rfl) dMe_vanish_7 (fun H locs hP _ hS => ?_)
  have hP := cwp_Msize hk0 hP
  exact W.vret hx hb hr (fun t ht hW => ⟨⟨((va_up (va_up I (20 + 10 * k0) 0) (26 + 10 * k0) 0), F), rfl, hw, by subst ht; exact hP⟩, hS.F ht⟩) hS.2.2 dMe_vanish_10
def wp_Ou_keeps (p1 : Int32) (I : SI) (F : SF) (Post : Int32 → SI → SF → Prop) : Prop := ∃ P1 : Int32 → SI → SF → Prop, wp_CJ_isBelow p1 (I 12) I F P1 ∧ ∀ r1 I1 F1, P1 r1 I1 F1 → ((r1 = 0 → (Post 0 I1 F1)) ∧ (¬ r1 = 0 → ((p1 < ((I1 12) - 100) → (Post 0 I1 F1)) ∧ (¬ p1 < ((I1 12) - 100) → (Post 1 I1 F1)))))
set_option maxHeartbeats 4000000 in
set_option maxRecDepth 100000 in
theorem c_Ou_keeps (l : Launch) (D : va_G) (a : Nat → Nat) (cI cZ cQ : ClassId) (hJ : xJ 47 a) (I : SI) (F : SF) (p1 : Int32) (sz : Nat) (Post : Int32 → SI → SF → Prop) (hw : wp_Ou_keeps p1 I F Post) : Met l y_Ou_keeps (Cond.code y_Ou_keeps b_Ou_keeps 2 (some .boolean) :: TB) { frames := 1, cells := 0, slots := 0, locals := 21 } (va_Pc [.ref (a 13), .int p1] (cP D a cI cZ cQ I F sz)) (va_Qi (fun r (u : SI × SF) => Post r u.1 u.2) (fun u t => va_P D vwCl (cw a cI cZ cQ u.1 u.2) t.heap) (xA 47 a sz)) 0 0 (xA 47 a sz) := by
  refine Met.ofW (cc := b_Ou_keeps) (maxL := 2) (ret := (some .boolean)) (by decide) rfl ?_
  intro p e s m args below meth c s₁ B hml hv
  obtain ⟨rfl, rfl, hP, hK, hN⟩ := hv
  have hx := B.exec
  have hb := B.bytes
  have hr := B.returns
  have hts : ∀ w ∈ TB, w.before _ s = true := fun w h => atoms_spec (ws := Cond.code y_Ou_keeps b_Ou_keeps 2 (some .boolean) :: TB) B.pre w (List.mem_cons_of_mem _ h)
  have hown : s.vm.findClass "CodeJudge$Outputs" = some m.cls := findClass_of_methodNamed B.named
  have hlocks := B.notSynchronized
  have hl := lv_entry ([.ref (a 13), .int p1]) (n := 2) (Nat.le_of_ble_eq_true rfl)
  rw [lg_entry_eq]
  generalize (lg_sl ([.ref (a 13), .int p1]) ++ List.replicate (2 - (lg_sl ([.ref (a 13), .int p1])).length) Slot.unset).toArray = ls at hl ⊢
  have hl : lv_has ls 2 [(0, .ref (a 13)), (1, .int p1)] := hl
  suffices hM : ∀ (H : Heap) (locs : List Loc), va_P D vwCl (cw a cI cZ cQ I F) H → va_S (xA 47 a s.heap.size) s.heap H locs → W p l e (headSpec (Cond.code y_Ou_keeps b_Ou_keeps 2 (some .boolean) :: TB) { frames := 1, cells := 0, slots := 0, locals := 21 }).room s m ([.ref (a 13), .int p1]).toArray below meth c H locs 0 0 (MQ below (va_Qi (fun r (u : SI × SF) => Post r u.1 u.2) (fun u t => va_P D vwCl (cw a cI cZ cQ u.1 u.2) t.heap) (xA 47 a s.heap.size)) ([.ref (a 13), .int p1]).toArray s 0 0 (xA 47 a s.heap.size)) (F0 m 0 ls []) from hM s.heap [] hP va_S.rf
  clear hP
  intro H locs hP hS
  dsimp only [wp_Ou_keeps] at hw
  refine lv_iload_n hx hb dOu_keeps_0 rfl (lv_at hl 1 rfl) ?_
  refine lv_aload_n hx hb dOu_keeps_1 rfl (lv_at hl 0 rfl) ?_
  refine va_get (D := D) (v := .int (I 12)) (ci := 5) (C := "CodeJudge$Outputs") (T := T_Ou) (N := 2) hx hb hts in_Ou hown hK hP 13 cw_13 rfl 0 (by decide) (hts (.fieldLink "CodeJudge$Outputs" 13 "CodeJudge$Outputs" "total" "I") tw_1_193) (fun _ h9 => h9) rfl dOu_keeps_2 ?_
  obtain ⟨P1, hc1, hw⟩ := hw
  refine cc_i (va_runSN (As := [.int p1, .int (I 12)]) (rest := []) ⟨hx, hb, hml, hown, hts⟩ (c_CJ_isBelow l D a cI cZ cQ hJ I F p1 (I 12) H.size P1 hc1) (⟨va_cnB 2 hts (tb_self wc_CJ_isBelow) rfl rfl rfl (hN ("CodeJudge$Outputs", 23, ⟨"CodeJudge", "isBelow", "(II)Z"⟩, "CodeJudge") (by decide +kernel)) (hts (.initialized "CodeJudge") tw_1_1) (by decide +kernel) ⟨Nat.le_of_ble_eq_true rfl, Nat.le_of_ble_eq_true rfl⟩, hts (.static ⟨"CodeJudge", "isBelow", "(II)Z"⟩) tw_2_7, trivial⟩) ⟨cP_bl, cP_at hP hK hN⟩ rfl rfl hl.1 rfl (lv_room (Nat.le_of_ble_eq_true rfl)) dOu_keeps_5 ⟨Nat.le_of_ble_eq_true rfl, Nat.le_of_ble_eq_true rfl⟩) hS (fun r1 I1 F1 H locs hP hp1 hS => ?_)
  have hw := hw r1 I1 F1 hp1
  refine lv_if_eq (tgt := 26) hx hb dOu_keeps_8 (by decide) (fun h2 => ?_) (fun h2 => ?_)
  · have hw := hw.1 h2
    refine lv_iconst (v := 0) hx hb dOu_keeps_26 (by decide) ?_
    exact W.zret (v := 0) hx hb hr rfl (fun t ht hW => ⟨⟨0, (I1, F1), rfl, hw, by subst ht; exact hP⟩, hS.F ht⟩) hS.2.2 dOu_keeps_27
  · have hw := hw.2 h2
    refine lv_iload_n hx hb dOu_keeps_11 rfl (lv_at hl 1 rfl) ?_
    refine lv_aload_n hx hb dOu_keeps_12 rfl (lv_at hl 0 rfl) ?_
    refine va_get (D := D) (v := .int (I1 12)) (ci := 5) (C := "CodeJudge$Outputs") (T := T_Ou) (N := 2) hx hb hts in_Ou hown hK hP 13 cw_13 rfl 0 (by decide) (hts (.fieldLink "CodeJudge$Outputs" 13 "CodeJudge$Outputs" "total" "I") tw_1_193) (fun _ h9 => h9) rfl dOu_keeps_13 ?_
    refine lv_bipush (v := 100) hx hb dOu_keeps_16 (by decide) ?_
    refine lv_isub hx hb dOu_keeps_18 ?_
    refine lv_icmp_lt (tgt := 26) hx hb dOu_keeps_19 (by decide) (fun h3 => ?_) (fun h3 => ?_)
    · have hw := hw.1 h3
      refine lv_iconst (v := 0) hx hb dOu_keeps_26 (by decide) ?_
      exact W.zret (v := 0) hx hb hr rfl (fun t ht hW => ⟨⟨0, (I1, F1), rfl, hw, by subst ht; exact hP⟩, hS.F ht⟩) hS.2.2 dOu_keeps_27
    · have hw := hw.2 h3
      refine lv_iconst (v := 1) hx hb dOu_keeps_22 (by decide) ?_
      refine lv_goto (tgt := 27) hx hb dOu_keeps_23 (by decide) ?_
      exact W.zret (v := 1) hx hb hr rfl (fun t ht hW => ⟨⟨1, (I1, F1), rfl, hw, by subst ht; exact hP⟩, hS.F ht⟩) hS.2.2 dOu_keeps_27
def wp_Ou_read (p1 : Int32) (I : SI) (F : SF) (Post : Int32 → SI → SF → Prop) : Prop := ∃ P1 : Int32 → SI → SF → Prop, wp_Ou_keeps p1 I F P1 ∧ ∀ r1 I1 F1, P1 r1 I1 F1 → ((r1 = 0 → (Post 0 I1 F1)) ∧ (¬ r1 = 0 → (∃ P3 : Int32 → SI → SF → Prop, wp_MT_floorMod p1 100 I1 F1 P3 ∧ ∀ r3 I3 F3, P3 r3 I3 F3 → (vp_in r3 100 ∧ (Post ((F3 22) r3.toNatClampNeg) I3 F3)))))
set_option maxHeartbeats 4000000 in
set_option maxRecDepth 100000 in
theorem c_Ou_read (l : Launch) (D : va_G) (a : Nat → Nat) (cI cZ cQ : ClassId) (hJ : xJ 47 a) (I : SI) (F : SF) (p1 : Int32) (sz : Nat) (Post : Int32 → SI → SF → Prop) (hw : wp_Ou_read p1 I F Post) : Met l y_Ou_read (Cond.code y_Ou_read b_Ou_read 2 (some .int) :: TB) { frames := 2, cells := 0, slots := 0, locals := 42 } (va_Pc [.ref (a 13), .int p1] (cP D a cI cZ cQ I F sz)) (va_Qi (fun r (u : SI × SF) => Post r u.1 u.2) (fun u t => va_P D vwCl (cw a cI cZ cQ u.1 u.2) t.heap) (xA 47 a sz)) 0 0 (xA 47 a sz) := by
  refine Met.ofW (cc := b_Ou_read) (maxL := 2) (ret := (some .int)) (by decide) rfl ?_
  intro p e s m args below meth c s₁ B hml hv
  obtain ⟨rfl, rfl, hP, hK, hN⟩ := hv
  have hx := B.exec
  have hb := B.bytes
  have hr := B.returns
  have hts : ∀ w ∈ TB, w.before _ s = true := fun w h => atoms_spec (ws := Cond.code y_Ou_read b_Ou_read 2 (some .int) :: TB) B.pre w (List.mem_cons_of_mem _ h)
  have hown : s.vm.findClass "CodeJudge$Outputs" = some m.cls := findClass_of_methodNamed B.named
  have hlocks := B.notSynchronized
  have hl := lv_entry ([.ref (a 13), .int p1]) (n := 2) (Nat.le_of_ble_eq_true rfl)
  rw [lg_entry_eq]
  generalize (lg_sl ([.ref (a 13), .int p1]) ++ List.replicate (2 - (lg_sl ([.ref (a 13), .int p1])).length) Slot.unset).toArray = ls at hl ⊢
  have hl : lv_has ls 2 [(0, .ref (a 13)), (1, .int p1)] := hl
  suffices hM : ∀ (H : Heap) (locs : List Loc), va_P D vwCl (cw a cI cZ cQ I F) H → va_S (xA 47 a s.heap.size) s.heap H locs → W p l e (headSpec (Cond.code y_Ou_read b_Ou_read 2 (some .int) :: TB) { frames := 2, cells := 0, slots := 0, locals := 42 }).room s m ([.ref (a 13), .int p1]).toArray below meth c H locs 0 0 (MQ below (va_Qi (fun r (u : SI × SF) => Post r u.1 u.2) (fun u t => va_P D vwCl (cw a cI cZ cQ u.1 u.2) t.heap) (xA 47 a s.heap.size)) ([.ref (a 13), .int p1]).toArray s 0 0 (xA 47 a s.heap.size)) (F0 m 0 ls []) from hM s.heap [] hP va_S.rf
  clear hP
  intro H locs hP hS
  dsimp only [wp_Ou_read] at hw
  refine lv_aload_n hx hb dOu_read_0 rfl (lv_at hl 0 rfl) ?_
  refine lv_iload_n hx hb dOu_read_1 rfl (lv_at hl 1 rfl) ?_
  obtain ⟨P1, hc1, hw⟩ := hw
  refine cc_i (va_runV (As := [.int p1]) (rest := []) ⟨hx, hb, hml, hown, hts⟩ (c_Ou_keeps l D a cI cZ cQ hJ I F p1 H.size P1 hc1) (cwV 1 hts (tb_V (C := "CodeJudge$Outputs") wc_Ou_keeps tw_4_48 tw_4_40 tw_4_41 tw_1_8) rfl rfl rfl (by decide +kernel) ⟨Nat.le_of_ble_eq_true rfl, Nat.le_of_ble_eq_true rfl⟩) ⟨cP_bl, va_recv hK hP rfl cw_13, cP_at hP hK hN⟩ rfl rfl hl.1 rfl (lv_room (Nat.le_of_ble_eq_true rfl)) dOu_read_2 ⟨Nat.le_of_ble_eq_true rfl, Nat.le_of_ble_eq_true rfl⟩) hS (fun r1 I1 F1 H locs hP hp1 hS => ?_)
  have hw := hw r1 I1 F1 hp1
  refine lv_if_eq (tgt := 22) hx hb dOu_read_5 (by decide) (fun h2 => ?_) (fun h2 => ?_)
  · have hw := hw.1 h2
    refine lv_iconst (v := 0) hx hb dOu_read_22 (by decide) ?_
    exact W.iret (v := 0) hx hb hr (fun t ht hW => ⟨⟨0, (I1, F1), rfl, hw, by subst ht; exact hP⟩, hS.F ht⟩) hS.2.2 dOu_read_23
  · have hw := hw.2 h2
    refine lv_aload_n hx hb dOu_read_8 rfl (lv_at hl 0 rfl) ?_
    refine va_get (D := D) (v := .ref (a 22)) (ci := 5) (C := "CodeJudge$Outputs") (T := T_Ou) (N := 2) hx hb hts in_Ou hown hK hP 13 cw_13 rfl 1 (by decide) (hts (.fieldLink "CodeJudge$Outputs" 9 "CodeJudge$Outputs" "latest" "[I") tw_1_195) (fun _ h9 => h9) rfl dOu_read_9 ?_
    refine lv_iload_n hx hb dOu_read_12 rfl (lv_at hl 1 rfl) ?_
    refine lv_bipush (v := 100) hx hb dOu_read_13 (by decide) ?_
    obtain ⟨P3, hc3, hw⟩ := hw
    refine cc_i (va_runS (As := [.int p1, .int 100]) (rest := [.ref (a 22)]) ⟨hx, hb, hml, hown, hts⟩ (c_MT_floorMod l D a cI cZ cQ hJ I1 F1 p1 100 H.size P3 hc3) (va_cwS 2 hts (tb_S wc_MT_floorMod tw_3_232 tw_3_233 tw_1_18) rfl rfl rfl (by decide +kernel) ⟨Nat.le_of_ble_eq_true rfl, Nat.le_of_ble_eq_true rfl⟩) ⟨cP_bl, cP_at hP hK hN⟩ rfl rfl hl.1 rfl (lv_room (Nat.le_of_ble_eq_true rfl)) dOu_read_15 ⟨Nat.le_of_ble_eq_true rfl, Nat.le_of_ble_eq_true rfl⟩) hS (fun r3 I3 F3 H locs hP hp3 hS => ?_)
    have hw := hw r3 I3 F3 hp3
    obtain ⟨h4, hw⟩ := hw
    refine va_iald hx hb hK hP 22 0 cw_22 rfl h4 dOu_read_18 ?_
    refine lv_goto (tgt := 23) hx hb dOu_read_19 (by decide) ?_
    exact W.iret (v := ((F3 22) r3.toNatClampNeg)) hx hb hr (fun t ht hW => ⟨⟨((F3 22) r3.toNatClampNeg), (I3, F3), rfl, hw, by subst ht; exact hP⟩, hS.F ht⟩) hS.2.2 dOu_read_23
