def wp_Fr_inLocal (p1 : Int32) (I : SI) (F : SF) (Post : Int32 → SI → SF → Prop) : Prop := ((I 9) ≤ 0 → (Post 0 I F)) ∧ (¬ (I 9) ≤ 0 → (∃ P2 : Int32 → SI → SF → Prop, wp_CJ_isBelow p1 10 I F P2 ∧ ∀ r2 I2 F2, P2 r2 I2 F2 → ((r2 = 0 → (Post 0 I2 F2)) ∧ (¬ r2 = 0 → (vp_in ((((I2 9) - 1) * 10) + p1) 500 ∧ (Post ((F2 17) ((((I2 9) - 1) * 10) + p1 : Int32).toNatClampNeg) I2 F2))))))
set_option maxHeartbeats 4000000 in
set_option maxRecDepth 100000 in
theorem c_Fr_inLocal (l : Launch) (D : va_G) (a : Nat → Nat) (cI cZ cQ : ClassId) (hJ : xJ 47 a) (I : SI) (F : SF) (p1 : Int32) (sz : Nat) (Post : Int32 → SI → SF → Prop) (hw : wp_Fr_inLocal p1 I F Post) : Met l y_Fr_inLocal (Cond.code y_Fr_inLocal b_Fr_inLocal 2 (some .int) :: TB) { frames := 1, cells := 0, slots := 0, locals := 21 } (va_Pc [.ref (a 11), .int p1] (cP D a cI cZ cQ I F sz)) (va_Qi (fun r (u : SI × SF) => Post r u.1 u.2) (fun u t => va_P D vwCl (cw a cI cZ cQ u.1 u.2) t.heap) (xA 47 a sz)) 0 0 (xA 47 a sz) := by
  refine Met.ofW (cc := b_Fr_inLocal) (maxL := 2) (ret := (some .int)) (by decide) rfl ?_
  intro p e s m args below meth c s₁ B hml hv
  obtain ⟨rfl, rfl, hP, hK, hN⟩ := hv
  have hx := B.exec
  have hb := B.bytes
  have hr := B.returns
  have hts : ∀ w ∈ TB, w.before _ s = true := fun w h => atoms_spec (ws := Cond.code y_Fr_inLocal b_Fr_inLocal 2 (some .int) :: TB) B.pre w (List.mem_cons_of_mem _ h)
  have hown : s.vm.findClass "CodeJudge$Frames" = some m.cls := findClass_of_methodNamed B.named
  have hlocks := B.notSynchronized
  have hl := lv_entry ([.ref (a 11), .int p1]) (n := 2) (Nat.le_of_ble_eq_true rfl)
  rw [lg_entry_eq]
  generalize (lg_sl ([.ref (a 11), .int p1]) ++ List.replicate (2 - (lg_sl ([.ref (a 11), .int p1])).length) Slot.unset).toArray = ls at hl ⊢
  have hl : lv_has ls 2 [(0, .ref (a 11)), (1, .int p1)] := hl
  suffices hM : ∀ (H : Heap) (locs : List Loc), va_P D vwCl (cw a cI cZ cQ I F) H → va_S (xA 47 a s.heap.size) s.heap H locs → W p l e (headSpec (Cond.code y_Fr_inLocal b_Fr_inLocal 2 (some .int) :: TB) { frames := 1, cells := 0, slots := 0, locals := 21 }).room s m ([.ref (a 11), .int p1]).toArray below meth c H locs 0 0 (MQ below (va_Qi (fun r (u : SI × SF) => Post r u.1 u.2) (fun u t => va_P D vwCl (cw a cI cZ cQ u.1 u.2) t.heap) (xA 47 a s.heap.size)) ([.ref (a 11), .int p1]).toArray s 0 0 (xA 47 a s.heap.size)) (F0 m 0 ls []) from hM s.heap [] hP va_S.rf
  clear hP
  intro H locs hP hS
  dsimp only [wp_Fr_inLocal] at hw
  refine lv_aload_n hx hb dFr_inLocal_0 rfl (lv_at hl 0 rfl) ?_
  refine va_get (D := D) (v := .int (I 9)) (ci := 0) (C := "CodeJudge$Frames") (T := T_Fr) (N := 6) hx hb hts in_Fr hown hK hP 11 cw_11 rfl 0 (by decide) (hts (.fieldLink "CodeJudge$Frames" 27 "CodeJudge$Frames" "open" "I") tw_1_142) (fun _ h9 => h9) rfl dFr_inLocal_1 ?_
  refine lv_if_le (tgt := 35) hx hb dFr_inLocal_4 (by decide) (fun h1 => ?_) (fun h1 => ?_)
  · have hw := hw.1 h1
    refine lv_iconst (v := 0) hx hb dFr_inLocal_35 (by decide) ?_
    exact W.iret (v := 0) hx hb hr (fun t ht hW => ⟨⟨0, (I, F), rfl, hw, by subst ht; exact hP⟩, hS.F ht⟩) hS.2.2 dFr_inLocal_36
  · have hw := hw.2 h1
    refine lv_iload_n hx hb dFr_inLocal_7 rfl (lv_at hl 1 rfl) ?_
    refine lv_bipush (v := 10) hx hb dFr_inLocal_8 (by decide) ?_
    obtain ⟨P2, hc2, hw⟩ := hw
    refine cc_i (va_runSN (As := [.int p1, .int 10]) (rest := []) ⟨hx, hb, hml, hown, hts⟩ (c_CJ_isBelow l D a cI cZ cQ hJ I F p1 10 H.size P2 hc2) (⟨va_cnB 2 hts (tb_self wc_CJ_isBelow) rfl rfl rfl (hN ("CodeJudge$Frames", 39, ⟨"CodeJudge", "isBelow", "(II)Z"⟩, "CodeJudge") (by decide +kernel)) (hts (.initialized "CodeJudge") tw_1_1) (by decide +kernel) ⟨Nat.le_of_ble_eq_true rfl, Nat.le_of_ble_eq_true rfl⟩, hts (.static ⟨"CodeJudge", "isBelow", "(II)Z"⟩) tw_2_7, trivial⟩) ⟨cP_bl, cP_at hP hK hN⟩ rfl rfl hl.1 rfl (lv_room (Nat.le_of_ble_eq_true rfl)) dFr_inLocal_10 ⟨Nat.le_of_ble_eq_true rfl, Nat.le_of_ble_eq_true rfl⟩) hS (fun r2 I2 F2 H locs hP hp2 hS => ?_)
    have hw := hw r2 I2 F2 hp2
    refine lv_if_eq (tgt := 35) hx hb dFr_inLocal_13 (by decide) (fun h3 => ?_) (fun h3 => ?_)
    · have hw := hw.1 h3
      refine lv_iconst (v := 0) hx hb dFr_inLocal_35 (by decide) ?_
      exact W.iret (v := 0) hx hb hr (fun t ht hW => ⟨⟨0, (I2, F2), rfl, hw, by subst ht; exact hP⟩, hS.F ht⟩) hS.2.2 dFr_inLocal_36
    · have hw := hw.2 h3
      refine lv_aload_n hx hb dFr_inLocal_16 rfl (lv_at hl 0 rfl) ?_
      refine va_get (D := D) (v := .ref (a 17)) (ci := 0) (C := "CodeJudge$Frames") (T := T_Fr) (N := 6) hx hb hts in_Fr hown hK hP 11 cw_11 rfl 4 (by decide) (hts (.fieldLink "CodeJudge$Frames" 21 "CodeJudge$Frames" "locals" "[I") tw_1_148) (fun _ h9 => h9) rfl dFr_inLocal_17 ?_
      refine lv_aload_n hx hb dFr_inLocal_20 rfl (lv_at hl 0 rfl) ?_
      refine va_get (D := D) (v := .int (I2 9)) (ci := 0) (C := "CodeJudge$Frames") (T := T_Fr) (N := 6) hx hb hts in_Fr hown hK hP 11 cw_11 rfl 0 (by decide) (hts (.fieldLink "CodeJudge$Frames" 27 "CodeJudge$Frames" "open" "I") tw_1_142) (fun _ h9 => h9) rfl dFr_inLocal_21 ?_
      refine lv_iconst (v := 1) hx hb dFr_inLocal_24 (by decide) ?_
      refine lv_isub hx hb dFr_inLocal_25 ?_
      refine lv_bipush (v := 10) hx hb dFr_inLocal_26 (by decide) ?_
      refine lv_imul hx hb dFr_inLocal_28 ?_
      refine lv_iload_n hx hb dFr_inLocal_29 rfl (lv_at hl 1 rfl) ?_
      refine lv_iadd hx hb dFr_inLocal_30 ?_
      obtain ⟨h4, hw⟩ := hw
      refine va_iald hx hb hK hP 17 0 cw_17 rfl h4 dFr_inLocal_31 ?_
      refine lv_goto (tgt := 36) hx hb dFr_inLocal_32 (by decide) ?_
      exact W.iret (v := ((F2 17) ((((I2 9) - 1) * 10) + p1 : Int32).toNatClampNeg)) hx hb hr (fun t ht hW => ⟨⟨((F2 17) ((((I2 9) - 1) * 10) + p1 : Int32).toNatClampNeg), (I2, F2), rfl, hw, by subst ht; exact hP⟩, hS.F ht⟩) hS.2.2 dFr_inLocal_36
def wp_Fr_leave (I : SI) (F : SF) (Post : SI → SF → Prop) : Prop := ((I 9) ≤ 0 → (Post I F)) ∧ (¬ (I 9) ≤ 0 → (Post (va_up I 9 ((I 9) - 1)) F))
set_option maxHeartbeats 4000000 in
set_option maxRecDepth 100000 in
theorem c_Fr_leave (l : Launch) (D : va_G) (a : Nat → Nat) (cI cZ cQ : ClassId) (hJ : xJ 47 a) (I : SI) (F : SF) (sz : Nat) (Post : SI → SF → Prop) (hw : wp_Fr_leave I F Post) : Met l y_Fr_leave (Cond.code y_Fr_leave b_Fr_leave 1 none :: TB) { frames := 0, cells := 0, slots := 0, locals := 0 } (va_Pc [.ref (a 11)] (cP D a cI cZ cQ I F sz)) (va_Qv (fun (u : SI × SF) => Post u.1 u.2) (fun u t => va_P D vwCl (cw a cI cZ cQ u.1 u.2) t.heap) (xA 47 a sz)) 0 0 (xA 47 a sz) := by
  refine Met.ofW (cc := b_Fr_leave) (maxL := 1) (ret := none) (by decide) rfl ?_
  intro p e s m args below meth c s₁ B hml hv
  obtain ⟨rfl, rfl, hP, hK, hN⟩ := hv
  have hx := B.exec
  have hb := B.bytes
  have hr := B.returns
  have hts : ∀ w ∈ TB, w.before _ s = true := fun w h => atoms_spec (ws := Cond.code y_Fr_leave b_Fr_leave 1 none :: TB) B.pre w (List.mem_cons_of_mem _ h)
  have hown : s.vm.findClass "CodeJudge$Frames" = some m.cls := findClass_of_methodNamed B.named
  have hlocks := B.notSynchronized
  have hl := lv_entry ([.ref (a 11)]) (n := 1) (Nat.le_of_ble_eq_true rfl)
  rw [lg_entry_eq]
  generalize (lg_sl ([.ref (a 11)]) ++ List.replicate (1 - (lg_sl ([.ref (a 11)])).length) Slot.unset).toArray = ls at hl ⊢
  have hl : lv_has ls 1 [(0, .ref (a 11))] := hl
  suffices hM : ∀ (H : Heap) (locs : List Loc), va_P D vwCl (cw a cI cZ cQ I F) H → va_S (xA 47 a s.heap.size) s.heap H locs → W p l e (headSpec (Cond.code y_Fr_leave b_Fr_leave 1 none :: TB) { frames := 0, cells := 0, slots := 0, locals := 0 }).room s m ([.ref (a 11)]).toArray below meth c H locs 0 0 (MQ below (va_Qv (fun (u : SI × SF) => Post u.1 u.2) (fun u t => va_P D vwCl (cw a cI cZ cQ u.1 u.2) t.heap) (xA 47 a s.heap.size)) ([.ref (a 11)]).toArray s 0 0 (xA 47 a s.heap.size)) (F0 m 0 ls []) from hM s.heap [] hP va_S.rf
  clear hP
  intro H locs hP hS
  dsimp only [wp_Fr_leave] at hw
  refine lv_aload_n hx hb dFr_leave_0 rfl (lv_at hl 0 rfl) ?_
  refine va_get (D := D) (v := .int (I 9)) (ci := 0) (C := "CodeJudge$Frames") (T := T_Fr) (N := 6) hx hb hts in_Fr hown hK hP 11 cw_11 rfl 0 (by decide) (hts (.fieldLink "CodeJudge$Frames" 27 "CodeJudge$Frames" "open" "I") tw_1_142) (fun _ h9 => h9) rfl dFr_leave_1 ?_
  refine lv_if_le (tgt := 17) hx hb dFr_leave_4 (by decide) (fun h1 => ?_) (fun h1 => ?_)
  · have hw := hw.1 h1
    exact W.vret hx hb hr (fun t ht hW => ⟨⟨(I, F), rfl, hw, by subst ht; exact hP⟩, hS.F ht⟩) hS.2.2 dFr_leave_17
  · have hw := hw.2 h1
    refine lv_aload_n hx hb dFr_leave_7 rfl (lv_at hl 0 rfl) ?_
    refine lv_dup hx hb dFr_leave_8 rfl ?_
    refine va_get (D := D) (v := .int (I 9)) (ci := 0) (C := "CodeJudge$Frames") (T := T_Fr) (N := 6) hx hb hts in_Fr hown hK hP 11 cw_11 rfl 0 (by decide) (hts (.fieldLink "CodeJudge$Frames" 27 "CodeJudge$Frames" "open" "I") tw_1_142) (fun _ h9 => h9) rfl dFr_leave_9 ?_
    refine lv_iconst (v := 1) hx hb dFr_leave_12 (by decide) ?_
    refine lv_isub hx hb dFr_leave_13 ?_
    refine va_put (D := D) (ci := 0) (v := .int ((I 9) - 1)) (ty := .int) (C := "CodeJudge$Frames") (T := T_Fr) (N := 6) hx hb hts in_Fr ty_Fr ok_Fr nm_Fr hown hK hP (cD hJ) hS 11 cw_11 rfl 0 (by decide) (hts (.fieldLink "CodeJudge$Frames" 27 "CodeJudge$Frames" "open" "I") tw_1_142) (fun _ h9 => h9) rfl (by decide +kernel) rfl rfl (Nat.le_of_ble_eq_true rfl) dFr_leave_14 (fun H locs hP _ hS => ?_)
    have hP := cwp_9 hP
    exact W.vret hx hb hr (fun t ht hW => ⟨⟨((va_up I 9 ((I 9) - 1)), F), rfl, hw, by subst ht; exact hP⟩, hS.F ht⟩) hS.2.2 dFr_leave_17
def wp_Fr_pop (I : SI) (F : SF) (Post : Int32 → SI → SF → Prop) : Prop := ((I 9) = 0 → (Post 0 I F)) ∧ (¬ (I 9) = 0 → (vp_in ((I 9) - 1) 50 ∧ ((¬ ((F 16) ((I 9) - 1 : Int32).toNatClampNeg) = 0 → (vp_in ((I 9) - 1) 50 ∧ (vp_in ((I 9) - 1) 50 ∧ (vp_in ((I 9) - 1) 50 ∧ (vp_in ((((I 9) - 1) * 15) + (upd (F 16) ((I 9) - 1 : Int32).toNatClampNeg (((F 16) ((I 9) - 1 : Int32).toNatClampNeg) - 1) ((I 9) - 1 : Int32).toNatClampNeg)) 750 ∧ (Post ((F 18) ((((I 9) - 1) * 15) + (upd (F 16) ((I 9) - 1 : Int32).toNatClampNeg (((F 16) ((I 9) - 1 : Int32).toNatClampNeg) - 1) ((I 9) - 1 : Int32).toNatClampNeg) : Int32).toNatClampNeg) I (va_up F 16 (upd (F 16) ((I 9) - 1 : Int32).toNatClampNeg (((F 16) ((I 9) - 1 : Int32).toNatClampNeg) - 1))))))))) ∧ (((F 16) ((I 9) - 1 : Int32).toNatClampNeg) = 0 → (Post 0 I F)))))
set_option maxHeartbeats 4000000 in
set_option maxRecDepth 100000 in
theorem c_Fr_pop (l : Launch) (D : va_G) (a : Nat → Nat) (cI cZ cQ : ClassId) (hJ : xJ 47 a) (I : SI) (F : SF) (sz : Nat) (Post : Int32 → SI → SF → Prop) (hw : wp_Fr_pop I F Post) : Met l y_Fr_pop (Cond.code y_Fr_pop b_Fr_pop 1 (some .int) :: TB) { frames := 0, cells := 0, slots := 0, locals := 0 } (va_Pc [.ref (a 11)] (cP D a cI cZ cQ I F sz)) (va_Qi (fun r (u : SI × SF) => Post r u.1 u.2) (fun u t => va_P D vwCl (cw a cI cZ cQ u.1 u.2) t.heap) (xA 47 a sz)) 0 0 (xA 47 a sz) := by
  refine Met.ofW (cc := b_Fr_pop) (maxL := 1) (ret := (some .int)) (by decide) rfl ?_
  intro p e s m args below meth c s₁ B hml hv
  obtain ⟨rfl, rfl, hP, hK, hN⟩ := hv
  have hx := B.exec
  have hb := B.bytes
  have hr := B.returns
  have hts : ∀ w ∈ TB, w.before _ s = true := fun w h => atoms_spec (ws := Cond.code y_Fr_pop b_Fr_pop 1 (some .int) :: TB) B.pre w (List.mem_cons_of_mem _ h)
  have hown : s.vm.findClass "CodeJudge$Frames" = some m.cls := findClass_of_methodNamed B.named
  have hlocks := B.notSynchronized
  have hl := lv_entry ([.ref (a 11)]) (n := 1) (Nat.le_of_ble_eq_true rfl)
  rw [lg_entry_eq]
  generalize (lg_sl ([.ref (a 11)]) ++ List.replicate (1 - (lg_sl ([.ref (a 11)])).length) Slot.unset).toArray = ls at hl ⊢
  have hl : lv_has ls 1 [(0, .ref (a 11))] := hl
  suffices hM : ∀ (H : Heap) (locs : List Loc), va_P D vwCl (cw a cI cZ cQ I F) H → va_S (xA 47 a s.heap.size) s.heap H locs → W p l e (headSpec (Cond.code y_Fr_pop b_Fr_pop 1 (some .int) :: TB) { frames := 0, cells := 0, slots := 0, locals := 0 }).room s m ([.ref (a 11)]).toArray below meth c H locs 0 0 (MQ below (va_Qi (fun r (u : SI × SF) => Post r u.1 u.2) (fun u t => va_P D vwCl (cw a cI cZ cQ u.1 u.2) t.heap) (xA 47 a s.heap.size)) ([.ref (a 11)]).toArray s 0 0 (xA 47 a s.heap.size)) (F0 m 0 ls []) from hM s.heap [] hP va_S.rf
  clear hP
  intro H locs hP hS
  dsimp only [wp_Fr_pop] at hw
  refine lv_aload_n hx hb dFr_pop_0 rfl (lv_at hl 0 rfl) ?_
  refine va_get (D := D) (v := .int (I 9)) (ci := 0) (C := "CodeJudge$Frames") (T := T_Fr) (N := 6) hx hb hts in_Fr hown hK hP 11 cw_11 rfl 0 (by decide) (hts (.fieldLink "CodeJudge$Frames" 27 "CodeJudge$Frames" "open" "I") tw_1_142) (fun _ h9 => h9) rfl dFr_pop_1 ?_
  refine lv_if_eq (tgt := 21) hx hb dFr_pop_4 (by decide) (fun h1 => ?_) (fun h1 => ?_)
  · have hw := hw.1 h1
    refine lv_iconst (v := 0) hx hb dFr_pop_21 (by decide) ?_
    exact W.iret (v := 0) hx hb hr (fun t ht hW => ⟨⟨0, (I, F), rfl, hw, by subst ht; exact hP⟩, hS.F ht⟩) hS.2.2 dFr_pop_22
  · have hw := hw.2 h1
    refine lv_aload_n hx hb dFr_pop_7 rfl (lv_at hl 0 rfl) ?_
    refine va_get (D := D) (v := .ref (a 16)) (ci := 0) (C := "CodeJudge$Frames") (T := T_Fr) (N := 6) hx hb hts in_Fr hown hK hP 11 cw_11 rfl 3 (by decide) (hts (.fieldLink "CodeJudge$Frames" 18 "CodeJudge$Frames" "heights" "[I") tw_1_147) (fun _ h9 => h9) rfl dFr_pop_8 ?_
    refine lv_aload_n hx hb dFr_pop_11 rfl (lv_at hl 0 rfl) ?_
    refine va_get (D := D) (v := .int (I 9)) (ci := 0) (C := "CodeJudge$Frames") (T := T_Fr) (N := 6) hx hb hts in_Fr hown hK hP 11 cw_11 rfl 0 (by decide) (hts (.fieldLink "CodeJudge$Frames" 27 "CodeJudge$Frames" "open" "I") tw_1_142) (fun _ h9 => h9) rfl dFr_pop_12 ?_
    refine lv_iconst (v := 1) hx hb dFr_pop_15 (by decide) ?_
    refine lv_isub hx hb dFr_pop_16 ?_
    obtain ⟨h2, hw⟩ := hw
    refine va_iald hx hb hK hP 16 0 cw_16 rfl h2 dFr_pop_17 ?_
    refine lv_if_ne (tgt := 23) hx hb dFr_pop_18 (by decide) (fun h3 => ?_) (fun h3 => ?_)
    · have hw := hw.1 h3
      refine lv_aload_n hx hb dFr_pop_23 rfl (lv_at hl 0 rfl) ?_
      refine va_get (D := D) (v := .ref (a 16)) (ci := 0) (C := "CodeJudge$Frames") (T := T_Fr) (N := 6) hx hb hts in_Fr hown hK hP 11 cw_11 rfl 3 (by decide) (hts (.fieldLink "CodeJudge$Frames" 18 "CodeJudge$Frames" "heights" "[I") tw_1_147) (fun _ h9 => h9) rfl dFr_pop_24 ?_
      refine lv_aload_n hx hb dFr_pop_27 rfl (lv_at hl 0 rfl) ?_
      refine va_get (D := D) (v := .int (I 9)) (ci := 0) (C := "CodeJudge$Frames") (T := T_Fr) (N := 6) hx hb hts in_Fr hown hK hP 11 cw_11 rfl 0 (by decide) (hts (.fieldLink "CodeJudge$Frames" 27 "CodeJudge$Frames" "open" "I") tw_1_142) (fun _ h9 => h9) rfl dFr_pop_28 ?_
      refine lv_iconst (v := 1) hx hb dFr_pop_31 (by decide) ?_
      refine lv_isub hx hb dFr_pop_32 ?_
      refine lv_dup2_11 hx hb dFr_pop_33 rfl rfl ?_
      obtain ⟨h4, hw⟩ := hw
      refine va_iald hx hb hK hP 16 0 cw_16 rfl h4 dFr_pop_34 ?_
      refine lv_iconst (v := 1) hx hb dFr_pop_35 (by decide) ?_
      refine lv_isub hx hb dFr_pop_36 ?_
      obtain ⟨h5, hw⟩ := hw
      refine va_iast hx hb hK hP (cD hJ) hS 16 0 cw_16 rfl h5 dFr_pop_37 (fun H locs hP _ hS => ?_)
      have hP := cwa_16 hP
      refine lv_aload_n hx hb dFr_pop_38 rfl (lv_at hl 0 rfl) ?_
      refine va_get (D := D) (v := .ref (a 18)) (ci := 0) (C := "CodeJudge$Frames") (T := T_Fr) (N := 6) hx hb hts in_Fr hown hK hP 11 cw_11 rfl 5 (by decide) (hts (.fieldLink "CodeJudge$Frames" 24 "CodeJudge$Frames" "stacks" "[I") tw_1_149) (fun _ h9 => h9) rfl dFr_pop_39 ?_
      refine lv_aload_n hx hb dFr_pop_42 rfl (lv_at hl 0 rfl) ?_
      refine va_get (D := D) (v := .int (I 9)) (ci := 0) (C := "CodeJudge$Frames") (T := T_Fr) (N := 6) hx hb hts in_Fr hown hK hP 11 cw_11 rfl 0 (by decide) (hts (.fieldLink "CodeJudge$Frames" 27 "CodeJudge$Frames" "open" "I") tw_1_142) (fun _ h9 => h9) rfl dFr_pop_43 ?_
      refine lv_iconst (v := 1) hx hb dFr_pop_46 (by decide) ?_
      refine lv_isub hx hb dFr_pop_47 ?_
      refine lv_bipush (v := 15) hx hb dFr_pop_48 (by decide) ?_
      refine lv_imul hx hb dFr_pop_50 ?_
      refine lv_aload_n hx hb dFr_pop_51 rfl (lv_at hl 0 rfl) ?_
      refine va_get (D := D) (v := .ref (a 16)) (ci := 0) (C := "CodeJudge$Frames") (T := T_Fr) (N := 6) hx hb hts in_Fr hown hK hP 11 cw_11 rfl 3 (by decide) (hts (.fieldLink "CodeJudge$Frames" 18 "CodeJudge$Frames" "heights" "[I") tw_1_147) (fun _ h9 => h9) rfl dFr_pop_52 ?_
      refine lv_aload_n hx hb dFr_pop_55 rfl (lv_at hl 0 rfl) ?_
      refine va_get (D := D) (v := .int (I 9)) (ci := 0) (C := "CodeJudge$Frames") (T := T_Fr) (N := 6) hx hb hts in_Fr hown hK hP 11 cw_11 rfl 0 (by decide) (hts (.fieldLink "CodeJudge$Frames" 27 "CodeJudge$Frames" "open" "I") tw_1_142) (fun _ h9 => h9) rfl dFr_pop_56 ?_
      refine lv_iconst (v := 1) hx hb dFr_pop_59 (by decide) ?_
      refine lv_isub hx hb dFr_pop_60 ?_
      obtain ⟨h6, hw⟩ := hw
      refine va_iald hx hb hK hP 16 0 cw_16 rfl h6 dFr_pop_61 ?_
      refine lv_iadd hx hb dFr_pop_62 ?_
      obtain ⟨h7, hw⟩ := hw
      refine va_iald hx hb hK hP 18 0 cw_18 rfl h7 dFr_pop_63 ?_
      exact W.iret (v := ((F 18) ((((I 9) - 1) * 15) + (upd (F 16) ((I 9) - 1 : Int32).toNatClampNeg (((F 16) ((I 9) - 1 : Int32).toNatClampNeg) - 1) ((I 9) - 1 : Int32).toNatClampNeg) : Int32).toNatClampNeg)) hx hb hr (fun t ht hW => ⟨⟨((F 18) ((((I 9) - 1) * 15) + (upd (F 16) ((I 9) - 1 : Int32).toNatClampNeg (((F 16) ((I 9) - 1 : Int32).toNatClampNeg) - 1) ((I 9) - 1 : Int32).toNatClampNeg) : Int32).toNatClampNeg), (I, (va_up F 16 (upd (F 16) ((I 9) - 1 : Int32).toNatClampNeg (((F 16) ((I 9) - 1 : Int32).toNatClampNeg) - 1)))), rfl, hw, by subst ht; exact hP⟩, hS.F ht⟩) hS.2.2 dFr_pop_64
    · have hw := hw.2 h3
      refine lv_iconst (v := 0) hx hb dFr_pop_21 (by decide) ?_
      exact W.iret (v := 0) hx hb hr (fun t ht hW => ⟨⟨0, (I, F), rfl, hw, by subst ht; exact hP⟩, hS.F ht⟩) hS.2.2 dFr_pop_22
def wp_Fr_push (p1 : Int32) (I : SI) (F : SF) (Post : SI → SF → Prop) : Prop := ∃ P1 : Int32 → SI → SF → Prop, wp_Fr_upperHeight I F P1 ∧ ∀ r1 I1 F1, P1 r1 I1 F1 → (((I1 9) ≤ 0 → (Post I1 F1)) ∧ (¬ (I1 9) ≤ 0 → ((15 ≤ r1 → (Post I1 F1)) ∧ (¬ 15 ≤ r1 → (vp_in ((((I1 9) - 1) * 15) + r1) 750 ∧ (vp_in ((I1 9) - 1) 50 ∧ (Post I1 (va_up (va_up F1 18 (upd (F1 18) ((((I1 9) - 1) * 15) + r1 : Int32).toNatClampNeg p1)) 16 (upd (F1 16) ((I1 9) - 1 : Int32).toNatClampNeg (r1 + 1))))))))))
set_option maxHeartbeats 4000000 in
set_option maxRecDepth 100000 in
theorem c_Fr_push (l : Launch) (D : va_G) (a : Nat → Nat) (cI cZ cQ : ClassId) (hJ : xJ 47 a) (I : SI) (F : SF) (p1 : Int32) (sz : Nat) (Post : SI → SF → Prop) (hw : wp_Fr_push p1 I F Post) : Met l y_Fr_push (Cond.code y_Fr_push b_Fr_push 3 none :: TB) { frames := 1, cells := 0, slots := 0, locals := 20 } (va_Pc [.ref (a 11), .int p1] (cP D a cI cZ cQ I F sz)) (va_Qv (fun (u : SI × SF) => Post u.1 u.2) (fun u t => va_P D vwCl (cw a cI cZ cQ u.1 u.2) t.heap) (xA 47 a sz)) 0 0 (xA 47 a sz) := by
  refine Met.ofW (cc := b_Fr_push) (maxL := 3) (ret := none) (by decide) rfl ?_
  intro p e s m args below meth c s₁ B hml hv
  obtain ⟨rfl, rfl, hP, hK, hN⟩ := hv
  have hx := B.exec
  have hb := B.bytes
  have hr := B.returns
  have hts : ∀ w ∈ TB, w.before _ s = true := fun w h => atoms_spec (ws := Cond.code y_Fr_push b_Fr_push 3 none :: TB) B.pre w (List.mem_cons_of_mem _ h)
  have hown : s.vm.findClass "CodeJudge$Frames" = some m.cls := findClass_of_methodNamed B.named
  have hlocks := B.notSynchronized
  have hl := lv_entry ([.ref (a 11), .int p1]) (n := 3) (Nat.le_of_ble_eq_true rfl)
  rw [lg_entry_eq]
  generalize (lg_sl ([.ref (a 11), .int p1]) ++ List.replicate (3 - (lg_sl ([.ref (a 11), .int p1])).length) Slot.unset).toArray = ls at hl ⊢
  have hl : lv_has ls 3 [(0, .ref (a 11)), (1, .int p1)] := hl
  suffices hM : ∀ (H : Heap) (locs : List Loc), va_P D vwCl (cw a cI cZ cQ I F) H → va_S (xA 47 a s.heap.size) s.heap H locs → W p l e (headSpec (Cond.code y_Fr_push b_Fr_push 3 none :: TB) { frames := 1, cells := 0, slots := 0, locals := 20 }).room s m ([.ref (a 11), .int p1]).toArray below meth c H locs 0 0 (MQ below (va_Qv (fun (u : SI × SF) => Post u.1 u.2) (fun u t => va_P D vwCl (cw a cI cZ cQ u.1 u.2) t.heap) (xA 47 a s.heap.size)) ([.ref (a 11), .int p1]).toArray s 0 0 (xA 47 a s.heap.size)) (F0 m 0 ls []) from hM s.heap [] hP va_S.rf
  clear hP
  intro H locs hP hS
  dsimp only [wp_Fr_push] at hw
  refine lv_aload_n hx hb dFr_push_0 rfl (lv_at hl 0 rfl) ?_
  obtain ⟨P1, hc1, hw⟩ := hw
  refine cc_i (va_runV (As := []) (rest := []) ⟨hx, hb, hml, hown, hts⟩ (c_Fr_upperHeight l D a cI cZ cQ hJ I F H.size P1 hc1) (cwV 0 hts (tb_V (C := "CodeJudge$Frames") wc_Fr_upperHeight tw_3_139 tw_3_140 tw_3_141 tw_1_6) rfl rfl rfl (by decide +kernel) ⟨Nat.le_of_ble_eq_true rfl, Nat.le_of_ble_eq_true rfl⟩) ⟨cP_bl, va_recv hK hP rfl cw_11, cP_at hP hK hN⟩ rfl rfl hl.1 rfl (lv_room (Nat.le_of_ble_eq_true rfl)) dFr_push_1 ⟨Nat.le_of_ble_eq_true rfl, Nat.le_of_ble_eq_true rfl⟩) hS (fun r1 I1 F1 H locs hP hp1 hS => ?_)
  have hw := hw r1 I1 F1 hp1
  refine lv_istore_n (lv' := [(2, .int r1), (0, .ref (a 11)), (1, .int p1)]) hx hb dFr_push_4 rfl hl (by decide) rfl (fun ls hl => ?_)
  refine lv_aload_n hx hb dFr_push_5 rfl (lv_at hl 1 rfl) ?_
  refine va_get (D := D) (v := .int (I1 9)) (ci := 0) (C := "CodeJudge$Frames") (T := T_Fr) (N := 6) hx hb hts in_Fr hown hK hP 11 cw_11 rfl 0 (by decide) (hts (.fieldLink "CodeJudge$Frames" 27 "CodeJudge$Frames" "open" "I") tw_1_142) (fun _ h9 => h9) rfl dFr_push_6 ?_
  refine lv_if_le (tgt := 49) hx hb dFr_push_9 (by decide) (fun h2 => ?_) (fun h2 => ?_)
  · have hw := hw.1 h2
    exact W.vret hx hb hr (fun t ht hW => ⟨⟨(I1, F1), rfl, hw, by subst ht; exact hP⟩, hS.F ht⟩) hS.2.2 dFr_push_49
  · have hw := hw.2 h2
    refine lv_iload_n hx hb dFr_push_12 rfl (lv_at hl 0 rfl) ?_
    refine lv_bipush (v := 15) hx hb dFr_push_13 (by decide) ?_
    refine lv_icmp_ge (tgt := 49) hx hb dFr_push_15 (by decide) (fun h3 => ?_) (fun h3 => ?_)
    · have hw := hw.1 h3
      exact W.vret hx hb hr (fun t ht hW => ⟨⟨(I1, F1), rfl, hw, by subst ht; exact hP⟩, hS.F ht⟩) hS.2.2 dFr_push_49
    · have hw := hw.2 h3
      refine lv_aload_n hx hb dFr_push_18 rfl (lv_at hl 1 rfl) ?_
      refine va_get (D := D) (v := .ref (a 18)) (ci := 0) (C := "CodeJudge$Frames") (T := T_Fr) (N := 6) hx hb hts in_Fr hown hK hP 11 cw_11 rfl 5 (by decide) (hts (.fieldLink "CodeJudge$Frames" 24 "CodeJudge$Frames" "stacks" "[I") tw_1_149) (fun _ h9 => h9) rfl dFr_push_19 ?_
      refine lv_aload_n hx hb dFr_push_22 rfl (lv_at hl 1 rfl) ?_
      refine va_get (D := D) (v := .int (I1 9)) (ci := 0) (C := "CodeJudge$Frames") (T := T_Fr) (N := 6) hx hb hts in_Fr hown hK hP 11 cw_11 rfl 0 (by decide) (hts (.fieldLink "CodeJudge$Frames" 27 "CodeJudge$Frames" "open" "I") tw_1_142) (fun _ h9 => h9) rfl dFr_push_23 ?_
      refine lv_iconst (v := 1) hx hb dFr_push_26 (by decide) ?_
      refine lv_isub hx hb dFr_push_27 ?_
      refine lv_bipush (v := 15) hx hb dFr_push_28 (by decide) ?_
      refine lv_imul hx hb dFr_push_30 ?_
      refine lv_iload_n hx hb dFr_push_31 rfl (lv_at hl 0 rfl) ?_
      refine lv_iadd hx hb dFr_push_32 ?_
      refine lv_iload_n hx hb dFr_push_33 rfl (lv_at hl 2 rfl) ?_
      obtain ⟨h4, hw⟩ := hw
      refine va_iast hx hb hK hP (cD hJ) hS 18 0 cw_18 rfl h4 dFr_push_34 (fun H locs hP _ hS => ?_)
      have hP := cwa_18 hP
      refine lv_aload_n hx hb dFr_push_35 rfl (lv_at hl 1 rfl) ?_
      refine va_get (D := D) (v := .ref (a 16)) (ci := 0) (C := "CodeJudge$Frames") (T := T_Fr) (N := 6) hx hb hts in_Fr hown hK hP 11 cw_11 rfl 3 (by decide) (hts (.fieldLink "CodeJudge$Frames" 18 "CodeJudge$Frames" "heights" "[I") tw_1_147) (fun _ h9 => h9) rfl dFr_push_36 ?_
      refine lv_aload_n hx hb dFr_push_39 rfl (lv_at hl 1 rfl) ?_
      refine va_get (D := D) (v := .int (I1 9)) (ci := 0) (C := "CodeJudge$Frames") (T := T_Fr) (N := 6) hx hb hts in_Fr hown hK hP 11 cw_11 rfl 0 (by decide) (hts (.fieldLink "CodeJudge$Frames" 27 "CodeJudge$Frames" "open" "I") tw_1_142) (fun _ h9 => h9) rfl dFr_push_40 ?_
      refine lv_iconst (v := 1) hx hb dFr_push_43 (by decide) ?_
      refine lv_isub hx hb dFr_push_44 ?_
      refine lv_iload_n hx hb dFr_push_45 rfl (lv_at hl 0 rfl) ?_
      refine lv_iconst (v := 1) hx hb dFr_push_46 (by decide) ?_
      refine lv_iadd hx hb dFr_push_47 ?_
      obtain ⟨h5, hw⟩ := hw
      refine va_iast hx hb hK hP (cD hJ) hS 16 0 cw_16 rfl h5 dFr_push_48 (fun H locs hP _ hS => ?_)
      have hP := cwa_16 hP
      exact W.vret hx hb hr (fun t ht hW => ⟨⟨(I1, (va_up (va_up F1 18 (upd (F1 18) ((((I1 9) - 1) * 15) + r1 : Int32).toNatClampNeg p1)) 16 (upd (F1 16) ((I1 9) - 1 : Int32).toNatClampNeg (r1 + 1)))), rfl, hw, by subst ht; exact hP⟩, hS.F ht⟩) hS.2.2 dFr_push_49
def wp_Fr_upperMethod (I : SI) (F : SF) (Post : Int32 → SI → SF → Prop) : Prop := ((I 9) ≤ 0 → (Post (-1) I F)) ∧ (¬ (I 9) ≤ 0 → (vp_in ((I 9) - 1) 50 ∧ (Post ((F 14) ((I 9) - 1 : Int32).toNatClampNeg) I F)))
set_option maxHeartbeats 4000000 in
set_option maxRecDepth 100000 in
theorem c_Fr_upperMethod (l : Launch) (D : va_G) (a : Nat → Nat) (cI cZ cQ : ClassId) (hJ : xJ 47 a) (I : SI) (F : SF) (sz : Nat) (Post : Int32 → SI → SF → Prop) (hw : wp_Fr_upperMethod I F Post) : Met l y_Fr_upperMethod (Cond.code y_Fr_upperMethod b_Fr_upperMethod 1 (some .int) :: TB) { frames := 0, cells := 0, slots := 0, locals := 0 } (va_Pc [.ref (a 11)] (cP D a cI cZ cQ I F sz)) (va_Qi (fun r (u : SI × SF) => Post r u.1 u.2) (fun u t => va_P D vwCl (cw a cI cZ cQ u.1 u.2) t.heap) (xA 47 a sz)) 0 0 (xA 47 a sz) := by
  refine Met.ofW (cc := b_Fr_upperMethod) (maxL := 1) (ret := (some .int)) (by decide) rfl ?_
  intro p e s m args below meth c s₁ B hml hv
  obtain ⟨rfl, rfl, hP, hK, hN⟩ := hv
  have hx := B.exec
  have hb := B.bytes
  have hr := B.returns
  have hts : ∀ w ∈ TB, w.before _ s = true := fun w h => atoms_spec (ws := Cond.code y_Fr_upperMethod b_Fr_upperMethod 1 (some .int) :: TB) B.pre w (List.mem_cons_of_mem _ h)
  have hown : s.vm.findClass "CodeJudge$Frames" = some m.cls := findClass_of_methodNamed B.named
  have hlocks := B.notSynchronized
  have hl := lv_entry ([.ref (a 11)]) (n := 1) (Nat.le_of_ble_eq_true rfl)
  rw [lg_entry_eq]
  generalize (lg_sl ([.ref (a 11)]) ++ List.replicate (1 - (lg_sl ([.ref (a 11)])).length) Slot.unset).toArray = ls at hl ⊢
  have hl : lv_has ls 1 [(0, .ref (a 11))] := hl
  suffices hM : ∀ (H : Heap) (locs : List Loc), va_P D vwCl (cw a cI cZ cQ I F) H → va_S (xA 47 a s.heap.size) s.heap H locs → W p l e (headSpec (Cond.code y_Fr_upperMethod b_Fr_upperMethod 1 (some .int) :: TB) { frames := 0, cells := 0, slots := 0, locals := 0 }).room s m ([.ref (a 11)]).toArray below meth c H locs 0 0 (MQ below (va_Qi (fun r (u : SI × SF) => Post r u.1 u.2) (fun u t => va_P D vwCl (cw a cI cZ cQ u.1 u.2) t.heap) (xA 47 a s.heap.size)) ([.ref (a 11)]).toArray s 0 0 (xA 47 a s.heap.size)) (F0 m 0 ls []) from hM s.heap [] hP va_S.rf
  clear hP
  intro H locs hP hS
  dsimp only [wp_Fr_upperMethod] at hw
  refine lv_aload_n hx hb dFr_upperMethod_0 rfl (lv_at hl 0 rfl) ?_
  refine va_get (D := D) (v := .int (I 9)) (ci := 0) (C := "CodeJudge$Frames") (T := T_Fr) (N := 6) hx hb hts in_Fr hown hK hP 11 cw_11 rfl 0 (by decide) (hts (.fieldLink "CodeJudge$Frames" 27 "CodeJudge$Frames" "open" "I") tw_1_142) (fun _ h9 => h9) rfl dFr_upperMethod_1 ?_
  refine lv_if_le (tgt := 21) hx hb dFr_upperMethod_4 (by decide) (fun h1 => ?_) (fun h1 => ?_)
  · have hw := hw.1 h1
    refine lv_iconst (v := (-1)) hx hb dFr_upperMethod_21 (by decide) ?_
    exact W.iret (v := (-1)) hx hb hr (fun t ht hW => ⟨⟨(-1), (I, F), rfl, hw, by subst ht; exact hP⟩, hS.F ht⟩) hS.2.2 dFr_upperMethod_22
  · have hw := hw.2 h1
    refine lv_aload_n hx hb dFr_upperMethod_7 rfl (lv_at hl 0 rfl) ?_
    refine va_get (D := D) (v := .ref (a 14)) (ci := 0) (C := "CodeJudge$Frames") (T := T_Fr) (N := 6) hx hb hts in_Fr hown hK hP 11 cw_11 rfl 1 (by decide) (hts (.fieldLink "CodeJudge$Frames" 11 "CodeJudge$Frames" "numbers" "[I") tw_1_145) (fun _ h9 => h9) rfl dFr_upperMethod_8 ?_
    refine lv_aload_n hx hb dFr_upperMethod_11 rfl (lv_at hl 0 rfl) ?_
    refine va_get (D := D) (v := .int (I 9)) (ci := 0) (C := "CodeJudge$Frames") (T := T_Fr) (N := 6) hx hb hts in_Fr hown hK hP 11 cw_11 rfl 0 (by decide) (hts (.fieldLink "CodeJudge$Frames" 27 "CodeJudge$Frames" "open" "I") tw_1_142) (fun _ h9 => h9) rfl dFr_upperMethod_12 ?_
    refine lv_iconst (v := 1) hx hb dFr_upperMethod_15 (by decide) ?_
    refine lv_isub hx hb dFr_upperMethod_16 ?_
    obtain ⟨h2, hw⟩ := hw
    refine va_iald hx hb hK hP 14 0 cw_14 rfl h2 dFr_upperMethod_17 ?_
    refine lv_goto (tgt := 22) hx hb dFr_upperMethod_18 (by decide) ?_
    exact W.iret (v := ((F 14) ((I 9) - 1 : Int32).toNatClampNeg)) hx hb hr (fun t ht hW => ⟨⟨((F 14) ((I 9) - 1 : Int32).toNatClampNeg), (I, F), rfl, hw, by subst ht; exact hP⟩, hS.F ht⟩) hS.2.2 dFr_upperMethod_22
def wp_Fr_upperPlace (I : SI) (F : SF) (Post : Int32 → SI → SF → Prop) : Prop := ((I 9) ≤ 0 → (Post (-1) I F)) ∧ (¬ (I 9) ≤ 0 → (vp_in ((I 9) - 1) 50 ∧ (Post ((F 15) ((I 9) - 1 : Int32).toNatClampNeg) I F)))
set_option maxHeartbeats 4000000 in
set_option maxRecDepth 100000 in
theorem c_Fr_upperPlace (l : Launch) (D : va_G) (a : Nat → Nat) (cI cZ cQ : ClassId) (hJ : xJ 47 a) (I : SI) (F : SF) (sz : Nat) (Post : Int32 → SI → SF → Prop) (hw : wp_Fr_upperPlace I F Post) : Met l y_Fr_upperPlace (Cond.code y_Fr_upperPlace b_Fr_upperPlace 1 (some .int) :: TB) { frames := 0, cells := 0, slots := 0, locals := 0 } (va_Pc [.ref (a 11)] (cP D a cI cZ cQ I F sz)) (va_Qi (fun r (u : SI × SF) => Post r u.1 u.2) (fun u t => va_P D vwCl (cw a cI cZ cQ u.1 u.2) t.heap) (xA 47 a sz)) 0 0 (xA 47 a sz) := by
  refine Met.ofW (cc := b_Fr_upperPlace) (maxL := 1) (ret := (some .int)) (by decide) rfl ?_
  intro p e s m args below meth c s₁ B hml hv
  obtain ⟨rfl, rfl, hP, hK, hN⟩ := hv
  have hx := B.exec
  have hb := B.bytes
  have hr := B.returns
  have hts : ∀ w ∈ TB, w.before _ s = true := fun w h => atoms_spec (ws := Cond.code y_Fr_upperPlace b_Fr_upperPlace 1 (some .int) :: TB) B.pre w (List.mem_cons_of_mem _ h)
  have hown : s.vm.findClass "CodeJudge$Frames" = some m.cls := findClass_of_methodNamed B.named
  have hlocks := B.notSynchronized
  have hl := lv_entry ([.ref (a 11)]) (n := 1) (Nat.le_of_ble_eq_true rfl)
  rw [lg_entry_eq]
  generalize (lg_sl ([.ref (a 11)]) ++ List.replicate (1 - (lg_sl ([.ref (a 11)])).length) Slot.unset).toArray = ls at hl ⊢
  have hl : lv_has ls 1 [(0, .ref (a 11))] := hl
  suffices hM : ∀ (H : Heap) (locs : List Loc), va_P D vwCl (cw a cI cZ cQ I F) H → va_S (xA 47 a s.heap.size) s.heap H locs → W p l e (headSpec (Cond.code y_Fr_upperPlace b_Fr_upperPlace 1 (some .int) :: TB) { frames := 0, cells := 0, slots := 0, locals := 0 }).room s m ([.ref (a 11)]).toArray below meth c H locs 0 0 (MQ below (va_Qi (fun r (u : SI × SF) => Post r u.1 u.2) (fun u t => va_P D vwCl (cw a cI cZ cQ u.1 u.2) t.heap) (xA 47 a s.heap.size)) ([.ref (a 11)]).toArray s 0 0 (xA 47 a s.heap.size)) (F0 m 0 ls []) from hM s.heap [] hP va_S.rf
  clear hP
  intro H locs hP hS
  dsimp only [wp_Fr_upperPlace] at hw
  refine lv_aload_n hx hb dFr_upperPlace_0 rfl (lv_at hl 0 rfl) ?_
  refine va_get (D := D) (v := .int (I 9)) (ci := 0) (C := "CodeJudge$Frames") (T := T_Fr) (N := 6) hx hb hts in_Fr hown hK hP 11 cw_11 rfl 0 (by decide) (hts (.fieldLink "CodeJudge$Frames" 27 "CodeJudge$Frames" "open" "I") tw_1_142) (fun _ h9 => h9) rfl dFr_upperPlace_1 ?_
  refine lv_if_le (tgt := 21) hx hb dFr_upperPlace_4 (by decide) (fun h1 => ?_) (fun h1 => ?_)
  · have hw := hw.1 h1
    refine lv_iconst (v := (-1)) hx hb dFr_upperPlace_21 (by decide) ?_
    exact W.iret (v := (-1)) hx hb hr (fun t ht hW => ⟨⟨(-1), (I, F), rfl, hw, by subst ht; exact hP⟩, hS.F ht⟩) hS.2.2 dFr_upperPlace_22
  · have hw := hw.2 h1
    refine lv_aload_n hx hb dFr_upperPlace_7 rfl (lv_at hl 0 rfl) ?_
    refine va_get (D := D) (v := .ref (a 15)) (ci := 0) (C := "CodeJudge$Frames") (T := T_Fr) (N := 6) hx hb hts in_Fr hown hK hP 11 cw_11 rfl 2 (by decide) (hts (.fieldLink "CodeJudge$Frames" 15 "CodeJudge$Frames" "places" "[I") tw_1_146) (fun _ h9 => h9) rfl dFr_upperPlace_8 ?_
    refine lv_aload_n hx hb dFr_upperPlace_11 rfl (lv_at hl 0 rfl) ?_
    refine va_get (D := D) (v := .int (I 9)) (ci := 0) (C := "CodeJudge$Frames") (T := T_Fr) (N := 6) hx hb hts in_Fr hown hK hP 11 cw_11 rfl 0 (by decide) (hts (.fieldLink "CodeJudge$Frames" 27 "CodeJudge$Frames" "open" "I") tw_1_142) (fun _ h9 => h9) rfl dFr_upperPlace_12 ?_
    refine lv_iconst (v := 1) hx hb dFr_upperPlace_15 (by decide) ?_
    refine lv_isub hx hb dFr_upperPlace_16 ?_
    obtain ⟨h2, hw⟩ := hw
    refine va_iald hx hb hK hP 15 0 cw_15 rfl h2 dFr_upperPlace_17 ?_
    refine lv_goto (tgt := 22) hx hb dFr_upperPlace_18 (by decide) ?_
    exact W.iret (v := ((F 15) ((I 9) - 1 : Int32).toNatClampNeg)) hx hb hr (fun t ht hW => ⟨⟨((F 15) ((I 9) - 1 : Int32).toNatClampNeg), (I, F), rfl, hw, by subst ht; exact hP⟩, hS.F ht⟩) hS.2.2 dFr_upperPlace_22
def wp_He_clear (I : SI) (F : SF) (Post : SI → SF → Prop) : Prop := Post (va_up (va_up I 10 0) 11 0) F
set_option maxHeartbeats 4000000 in
set_option maxRecDepth 100000 in
theorem c_He_clear (l : Launch) (D : va_G) (a : Nat → Nat) (cI cZ cQ : ClassId) (hJ : xJ 47 a) (I : SI) (F : SF) (sz : Nat) (Post : SI → SF → Prop) (hw : wp_He_clear I F Post) : Met l y_He_clear (Cond.code y_He_clear b_He_clear 1 none :: TB) { frames := 0, cells := 0, slots := 0, locals := 0 } (va_Pc [.ref (a 12)] (cP D a cI cZ cQ I F sz)) (va_Qv (fun (u : SI × SF) => Post u.1 u.2) (fun u t => va_P D vwCl (cw a cI cZ cQ u.1 u.2) t.heap) (xA 47 a sz)) 0 0 (xA 47 a sz) := by
  refine Met.ofW (cc := b_He_clear) (maxL := 1) (ret := none) (by decide) rfl ?_
  intro p e s m args below meth c s₁ B hml hv
  obtain ⟨rfl, rfl, hP, hK, hN⟩ := hv
  have hx := B.exec
  have hb := B.bytes
  have hr := B.returns
  have hts : ∀ w ∈ TB, w.before _ s = true := fun w h => atoms_spec (ws := Cond.code y_He_clear b_He_clear 1 none :: TB) B.pre w (List.mem_cons_of_mem _ h)
  have hown : s.vm.findClass "CodeJudge$Heap" = some m.cls := findClass_of_methodNamed B.named
  have hlocks := B.notSynchronized
  have hl := lv_entry ([.ref (a 12)]) (n := 1) (Nat.le_of_ble_eq_true rfl)
  rw [lg_entry_eq]
  generalize (lg_sl ([.ref (a 12)]) ++ List.replicate (1 - (lg_sl ([.ref (a 12)])).length) Slot.unset).toArray = ls at hl ⊢
  have hl : lv_has ls 1 [(0, .ref (a 12))] := hl
  suffices hM : ∀ (H : Heap) (locs : List Loc), va_P D vwCl (cw a cI cZ cQ I F) H → va_S (xA 47 a s.heap.size) s.heap H locs → W p l e (headSpec (Cond.code y_He_clear b_He_clear 1 none :: TB) { frames := 0, cells := 0, slots := 0, locals := 0 }).room s m ([.ref (a 12)]).toArray below meth c H locs 0 0 (MQ below (va_Qv (fun (u : SI × SF) => Post u.1 u.2) (fun u t => va_P D vwCl (cw a cI cZ cQ u.1 u.2) t.heap) (xA 47 a s.heap.size)) ([.ref (a 12)]).toArray s 0 0 (xA 47 a s.heap.size)) (F0 m 0 ls []) from hM s.heap [] hP va_S.rf
  clear hP
  intro H locs hP hS
  dsimp only [wp_He_clear] at hw
  refine lv_aload_n hx hb dHe_clear_0 rfl (lv_at hl 0 rfl) ?_
  refine lv_iconst (v := 0) hx hb dHe_clear_1 (by decide) ?_
  refine va_put (D := D) (ci := 1) (v := .int 0) (ty := .int) (C := "CodeJudge$Heap") (T := T_He) (N := 5) hx hb hts in_He ty_He ok_He nm_He hown hK hP (cD hJ) hS 12 cw_12 rfl 0 (by decide) (hts (.fieldLink "CodeJudge$Heap" 21 "CodeJudge$Heap" "arrays" "I") tw_1_169) (fun _ h9 => h9) rfl (by decide +kernel) rfl rfl (Nat.le_of_ble_eq_true rfl) dHe_clear_2 (fun H locs hP _ hS => ?_)
  have hP := cwp_10 hP
  refine lv_aload_n hx hb dHe_clear_5 rfl (lv_at hl 0 rfl) ?_
  refine lv_iconst (v := 0) hx hb dHe_clear_6 (by decide) ?_
  refine va_put (D := D) (ci := 1) (v := .int 0) (ty := .int) (C := "CodeJudge$Heap") (T := T_He) (N := 5) hx hb hts in_He ty_He ok_He nm_He hown hK hP (cD hJ) hS 12 cw_12 rfl 1 (by decide) (hts (.fieldLink "CodeJudge$Heap" 25 "CodeJudge$Heap" "used" "I") tw_1_171) (fun _ h9 => h9) rfl (by decide +kernel) rfl rfl (Nat.le_of_ble_eq_true rfl) dHe_clear_7 (fun H locs hP _ hS => ?_)
  have hP := cwp_11 hP
  exact W.vret hx hb hr (fun t ht hW => ⟨⟨((va_up (va_up I 10 0) 11 0), F), rfl, hw, by subst ht; exact hP⟩, hS.F ht⟩) hS.2.2 dHe_clear_10
def wp_He_has (p1 : Int32) (I : SI) (F : SF) (Post : Int32 → SI → SF → Prop) : Prop := ∃ P1 : Int32 → SI → SF → Prop, wp_CJ_isBelow p1 (I 10) I F P1 ∧ ∀ r1 I1 F1, P1 r1 I1 F1 → (bo r1 ∧ Post r1 I1 F1)
set_option maxHeartbeats 4000000 in
set_option maxRecDepth 100000 in
theorem c_He_has (l : Launch) (D : va_G) (a : Nat → Nat) (cI cZ cQ : ClassId) (hJ : xJ 47 a) (I : SI) (F : SF) (p1 : Int32) (sz : Nat) (Post : Int32 → SI → SF → Prop) (hw : wp_He_has p1 I F Post) : Met l y_He_has (Cond.code y_He_has b_He_has 2 (some .boolean) :: TB) { frames := 1, cells := 0, slots := 0, locals := 21 } (va_Pc [.ref (a 12), .int p1] (cP D a cI cZ cQ I F sz)) (va_Qi (fun r (u : SI × SF) => Post r u.1 u.2) (fun u t => va_P D vwCl (cw a cI cZ cQ u.1 u.2) t.heap) (xA 47 a sz)) 0 0 (xA 47 a sz) := by
  refine Met.ofW (cc := b_He_has) (maxL := 2) (ret := (some .boolean)) (by decide) rfl ?_
  intro p e s m args below meth c s₁ B hml hv
  obtain ⟨rfl, rfl, hP, hK, hN⟩ := hv
  have hx := B.exec
  have hb := B.bytes
  have hr := B.returns
  have hts : ∀ w ∈ TB, w.before _ s = true := fun w h => atoms_spec (ws := Cond.code y_He_has b_He_has 2 (some .boolean) :: TB) B.pre w (List.mem_cons_of_mem _ h)
  have hown : s.vm.findClass "CodeJudge$Heap" = some m.cls := findClass_of_methodNamed B.named
  have hlocks := B.notSynchronized
  have hl := lv_entry ([.ref (a 12), .int p1]) (n := 2) (Nat.le_of_ble_eq_true rfl)
  rw [lg_entry_eq]
  generalize (lg_sl ([.ref (a 12), .int p1]) ++ List.replicate (2 - (lg_sl ([.ref (a 12), .int p1])).length) Slot.unset).toArray = ls at hl ⊢
  have hl : lv_has ls 2 [(0, .ref (a 12)), (1, .int p1)] := hl
  suffices hM : ∀ (H : Heap) (locs : List Loc), va_P D vwCl (cw a cI cZ cQ I F) H → va_S (xA 47 a s.heap.size) s.heap H locs → W p l e (headSpec (Cond.code y_He_has b_He_has 2 (some .boolean) :: TB) { frames := 1, cells := 0, slots := 0, locals := 21 }).room s m ([.ref (a 12), .int p1]).toArray below meth c H locs 0 0 (MQ below (va_Qi (fun r (u : SI × SF) => Post r u.1 u.2) (fun u t => va_P D vwCl (cw a cI cZ cQ u.1 u.2) t.heap) (xA 47 a s.heap.size)) ([.ref (a 12), .int p1]).toArray s 0 0 (xA 47 a s.heap.size)) (F0 m 0 ls []) from hM s.heap [] hP va_S.rf
  clear hP
  intro H locs hP hS
  dsimp only [wp_He_has] at hw
  refine lv_iload_n hx hb dHe_has_0 rfl (lv_at hl 1 rfl) ?_
  refine lv_aload_n hx hb dHe_has_1 rfl (lv_at hl 0 rfl) ?_
  refine va_get (D := D) (v := .int (I 10)) (ci := 1) (C := "CodeJudge$Heap") (T := T_He) (N := 5) hx hb hts in_He hown hK hP 12 cw_12 rfl 0 (by decide) (hts (.fieldLink "CodeJudge$Heap" 21 "CodeJudge$Heap" "arrays" "I") tw_1_169) (fun _ h9 => h9) rfl dHe_has_2 ?_
  obtain ⟨P1, hc1, hw⟩ := hw
  refine cc_i (va_runSN (As := [.int p1, .int (I 10)]) (rest := []) ⟨hx, hb, hml, hown, hts⟩ (c_CJ_isBelow l D a cI cZ cQ hJ I F p1 (I 10) H.size P1 hc1) (⟨va_cnB 2 hts (tb_self wc_CJ_isBelow) rfl rfl rfl (hN ("CodeJudge$Heap", 32, ⟨"CodeJudge", "isBelow", "(II)Z"⟩, "CodeJudge") (by decide +kernel)) (hts (.initialized "CodeJudge") tw_1_1) (by decide +kernel) ⟨Nat.le_of_ble_eq_true rfl, Nat.le_of_ble_eq_true rfl⟩, hts (.static ⟨"CodeJudge", "isBelow", "(II)Z"⟩) tw_2_7, trivial⟩) ⟨cP_bl, cP_at hP hK hN⟩ rfl rfl hl.1 rfl (lv_room (Nat.le_of_ble_eq_true rfl)) dHe_has_5 ⟨Nat.le_of_ble_eq_true rfl, Nat.le_of_ble_eq_true rfl⟩) hS (fun r1 I1 F1 H locs hP hp1 hS => ?_)
  have hw := hw r1 I1 F1 hp1
  obtain ⟨h2, hw⟩ := hw
  exact W.zret (v := r1) hx hb hr (bo_n h2) (fun t ht hW => ⟨⟨r1, (I1, F1), rfl, hw, by subst ht; exact hP⟩, hS.F ht⟩) hS.2.2 dHe_has_8
def wp_He_hasCell (p1 : Int32) (p2 : Int32) (I : SI) (F : SF) (Post : Int32 → SI → SF → Prop) : Prop := ∃ P1 : Int32 → SI → SF → Prop, wp_He_has p1 I F P1 ∧ ∀ r1 I1 F1, P1 r1 I1 F1 → ((r1 = 0 → (Post 0 I1 F1)) ∧ (¬ r1 = 0 → (vp_in p1 200 ∧ (∃ P4 : Int32 → SI → SF → Prop, wp_CJ_isBelow p2 ((F1 20) p1.toNatClampNeg) I1 F1 P4 ∧ ∀ r4 I4 F4, P4 r4 I4 F4 → ((r4 = 0 → (Post 0 I4 F4)) ∧ (¬ r4 = 0 → (Post 1 I4 F4)))))))
set_option maxHeartbeats 4000000 in
set_option maxRecDepth 100000 in
theorem c_He_hasCell (l : Launch) (D : va_G) (a : Nat → Nat) (cI cZ cQ : ClassId) (hJ : xJ 47 a) (I : SI) (F : SF) (p1 : Int32) (p2 : Int32) (sz : Nat) (Post : Int32 → SI → SF → Prop) (hw : wp_He_hasCell p1 p2 I F Post) : Met l y_He_hasCell (Cond.code y_He_hasCell b_He_hasCell 3 (some .boolean) :: TB) { frames := 2, cells := 0, slots := 0, locals := 42 } (va_Pc [.ref (a 12), .int p1, .int p2] (cP D a cI cZ cQ I F sz)) (va_Qi (fun r (u : SI × SF) => Post r u.1 u.2) (fun u t => va_P D vwCl (cw a cI cZ cQ u.1 u.2) t.heap) (xA 47 a sz)) 0 0 (xA 47 a sz) := by
  refine Met.ofW (cc := b_He_hasCell) (maxL := 3) (ret := (some .boolean)) (by decide) rfl ?_
  intro p e s m args below meth c s₁ B hml hv
  obtain ⟨rfl, rfl, hP, hK, hN⟩ := hv
  have hx := B.exec
  have hb := B.bytes
  have hr := B.returns
  have hts : ∀ w ∈ TB, w.before _ s = true := fun w h => atoms_spec (ws := Cond.code y_He_hasCell b_He_hasCell 3 (some .boolean) :: TB) B.pre w (List.mem_cons_of_mem _ h)
  have hown : s.vm.findClass "CodeJudge$Heap" = some m.cls := findClass_of_methodNamed B.named
  have hlocks := B.notSynchronized
  have hl := lv_entry ([.ref (a 12), .int p1, .int p2]) (n := 3) (Nat.le_of_ble_eq_true rfl)
  rw [lg_entry_eq]
  generalize (lg_sl ([.ref (a 12), .int p1, .int p2]) ++ List.replicate (3 - (lg_sl ([.ref (a 12), .int p1, .int p2])).length) Slot.unset).toArray = ls at hl ⊢
  have hl : lv_has ls 3 [(0, .ref (a 12)), (1, .int p1), (2, .int p2)] := hl
  suffices hM : ∀ (H : Heap) (locs : List Loc), va_P D vwCl (cw a cI cZ cQ I F) H → va_S (xA 47 a s.heap.size) s.heap H locs → W p l e (headSpec (Cond.code y_He_hasCell b_He_hasCell 3 (some .boolean) :: TB) { frames := 2, cells := 0, slots := 0, locals := 42 }).room s m ([.ref (a 12), .int p1, .int p2]).toArray below meth c H locs 0 0 (MQ below (va_Qi (fun r (u : SI × SF) => Post r u.1 u.2) (fun u t => va_P D vwCl (cw a cI cZ cQ u.1 u.2) t.heap) (xA 47 a s.heap.size)) ([.ref (a 12), .int p1, .int p2]).toArray s 0 0 (xA 47 a s.heap.size)) (F0 m 0 ls []) from hM s.heap [] hP va_S.rf
  clear hP
  intro H locs hP hS
  dsimp only [wp_He_hasCell] at hw
  refine lv_aload_n hx hb dHe_hasCell_0 rfl (lv_at hl 0 rfl) ?_
  refine lv_iload_n hx hb dHe_hasCell_1 rfl (lv_at hl 1 rfl) ?_
  obtain ⟨P1, hc1, hw⟩ := hw
  refine cc_i (va_runV (As := [.int p1]) (rest := []) ⟨hx, hb, hml, hown, hts⟩ (c_He_has l D a cI cZ cQ hJ I F p1 H.size P1 hc1) (cwV 1 hts (tb_V (C := "CodeJudge$Heap") wc_He_has tw_3_165 tw_3_153 tw_3_154 tw_1_7) rfl rfl rfl (by decide +kernel) ⟨Nat.le_of_ble_eq_true rfl, Nat.le_of_ble_eq_true rfl⟩) ⟨cP_bl, va_recv hK hP rfl cw_12, cP_at hP hK hN⟩ rfl rfl hl.1 rfl (lv_room (Nat.le_of_ble_eq_true rfl)) dHe_hasCell_2 ⟨Nat.le_of_ble_eq_true rfl, Nat.le_of_ble_eq_true rfl⟩) hS (fun r1 I1 F1 H locs hP hp1 hS => ?_)
  have hw := hw r1 I1 F1 hp1
  refine lv_if_eq (tgt := 25) hx hb dHe_hasCell_5 (by decide) (fun h2 => ?_) (fun h2 => ?_)
  · have hw := hw.1 h2
    refine lv_iconst (v := 0) hx hb dHe_hasCell_25 (by decide) ?_
    exact W.zret (v := 0) hx hb hr rfl (fun t ht hW => ⟨⟨0, (I1, F1), rfl, hw, by subst ht; exact hP⟩, hS.F ht⟩) hS.2.2 dHe_hasCell_26
  · have hw := hw.2 h2
    refine lv_iload_n hx hb dHe_hasCell_8 rfl (lv_at hl 2 rfl) ?_
    refine lv_aload_n hx hb dHe_hasCell_9 rfl (lv_at hl 0 rfl) ?_
    refine va_get (D := D) (v := .ref (a 20)) (ci := 1) (C := "CodeJudge$Heap") (T := T_He) (N := 5) hx hb hts in_He hown hK hP 12 cw_12 rfl 3 (by decide) (hts (.fieldLink "CodeJudge$Heap" 15 "CodeJudge$Heap" "lengths" "[I") tw_1_174) (fun _ h9 => h9) rfl dHe_hasCell_10 ?_
    refine lv_iload_n hx hb dHe_hasCell_13 rfl (lv_at hl 1 rfl) ?_
    obtain ⟨h3, hw⟩ := hw
    refine va_iald hx hb hK hP 20 0 cw_20 rfl h3 dHe_hasCell_14 ?_
    obtain ⟨P4, hc4, hw⟩ := hw
    refine cc_i (va_runSN (As := [.int p2, .int ((F1 20) p1.toNatClampNeg)]) (rest := []) ⟨hx, hb, hml, hown, hts⟩ (c_CJ_isBelow l D a cI cZ cQ hJ I1 F1 p2 ((F1 20) p1.toNatClampNeg) H.size P4 hc4) (⟨va_cnB 2 hts (tb_self wc_CJ_isBelow) rfl rfl rfl (hN ("CodeJudge$Heap", 32, ⟨"CodeJudge", "isBelow", "(II)Z"⟩, "CodeJudge") (by decide +kernel)) (hts (.initialized "CodeJudge") tw_1_1) (by decide +kernel) ⟨Nat.le_of_ble_eq_true rfl, Nat.le_of_ble_eq_true rfl⟩, hts (.static ⟨"CodeJudge", "isBelow", "(II)Z"⟩) tw_2_7, trivial⟩) ⟨cP_bl, cP_at hP hK hN⟩ rfl rfl hl.1 rfl (lv_room (Nat.le_of_ble_eq_true rfl)) dHe_hasCell_15 ⟨Nat.le_of_ble_eq_true rfl, Nat.le_of_ble_eq_true rfl⟩) hS (fun r4 I4 F4 H locs hP hp4 hS => ?_)
    have hw := hw r4 I4 F4 hp4
    refine lv_if_eq (tgt := 25) hx hb dHe_hasCell_18 (by decide) (fun h5 => ?_) (fun h5 => ?_)
    · have hw := hw.1 h5
      refine lv_iconst (v := 0) hx hb dHe_hasCell_25 (by decide) ?_
      exact W.zret (v := 0) hx hb hr rfl (fun t ht hW => ⟨⟨0, (I4, F4), rfl, hw, by subst ht; exact hP⟩, hS.F ht⟩) hS.2.2 dHe_hasCell_26
    · have hw := hw.2 h5
      refine lv_iconst (v := 1) hx hb dHe_hasCell_21 (by decide) ?_
      refine lv_goto (tgt := 26) hx hb dHe_hasCell_22 (by decide) ?_
      exact W.zret (v := 1) hx hb hr rfl (fun t ht hW => ⟨⟨1, (I4, F4), rfl, hw, by subst ht; exact hP⟩, hS.F ht⟩) hS.2.2 dHe_hasCell_26
def wp_He_hasRoom (p1 : Int32) (I : SI) (F : SF) (Post : Int32 → SI → SF → Prop) : Prop := (200 ≤ (I 10) → (Post 0 I F)) ∧ (¬ 200 ≤ (I 10) → ((((2000 : Int32) - (I 11)) < p1 → (Post 0 I F)) ∧ (¬ ((2000 : Int32) - (I 11)) < p1 → (Post 1 I F))))
set_option maxHeartbeats 4000000 in
set_option maxRecDepth 100000 in
theorem c_He_hasRoom (l : Launch) (D : va_G) (a : Nat → Nat) (cI cZ cQ : ClassId) (hJ : xJ 47 a) (I : SI) (F : SF) (p1 : Int32) (sz : Nat) (Post : Int32 → SI → SF → Prop) (hw : wp_He_hasRoom p1 I F Post) : Met l y_He_hasRoom (Cond.code y_He_hasRoom b_He_hasRoom 2 (some .boolean) :: TB) { frames := 0, cells := 0, slots := 0, locals := 0 } (va_Pc [.ref (a 12), .int p1] (cP D a cI cZ cQ I F sz)) (va_Qi (fun r (u : SI × SF) => Post r u.1 u.2) (fun u t => va_P D vwCl (cw a cI cZ cQ u.1 u.2) t.heap) (xA 47 a sz)) 0 0 (xA 47 a sz) := by
  refine Met.ofW (cc := b_He_hasRoom) (maxL := 2) (ret := (some .boolean)) (by decide) rfl ?_
  intro p e s m args below meth c s₁ B hml hv
  obtain ⟨rfl, rfl, hP, hK, hN⟩ := hv
  have hx := B.exec
  have hb := B.bytes
  have hr := B.returns
  have hts : ∀ w ∈ TB, w.before _ s = true := fun w h => atoms_spec (ws := Cond.code y_He_hasRoom b_He_hasRoom 2 (some .boolean) :: TB) B.pre w (List.mem_cons_of_mem _ h)
  have hown : s.vm.findClass "CodeJudge$Heap" = some m.cls := findClass_of_methodNamed B.named
  have hlocks := B.notSynchronized
  have hl := lv_entry ([.ref (a 12), .int p1]) (n := 2) (Nat.le_of_ble_eq_true rfl)
  rw [lg_entry_eq]
  generalize (lg_sl ([.ref (a 12), .int p1]) ++ List.replicate (2 - (lg_sl ([.ref (a 12), .int p1])).length) Slot.unset).toArray = ls at hl ⊢
  have hl : lv_has ls 2 [(0, .ref (a 12)), (1, .int p1)] := hl
  suffices hM : ∀ (H : Heap) (locs : List Loc), va_P D vwCl (cw a cI cZ cQ I F) H → va_S (xA 47 a s.heap.size) s.heap H locs → W p l e (headSpec (Cond.code y_He_hasRoom b_He_hasRoom 2 (some .boolean) :: TB) { frames := 0, cells := 0, slots := 0, locals := 0 }).room s m ([.ref (a 12), .int p1]).toArray below meth c H locs 0 0 (MQ below (va_Qi (fun r (u : SI × SF) => Post r u.1 u.2) (fun u t => va_P D vwCl (cw a cI cZ cQ u.1 u.2) t.heap) (xA 47 a s.heap.size)) ([.ref (a 12), .int p1]).toArray s 0 0 (xA 47 a s.heap.size)) (F0 m 0 ls []) from hM s.heap [] hP va_S.rf
  clear hP
  intro H locs hP hS
  dsimp only [wp_He_hasRoom] at hw
  refine lv_aload_n hx hb dHe_hasRoom_0 rfl (lv_at hl 0 rfl) ?_
  refine va_get (D := D) (v := .int (I 10)) (ci := 1) (C := "CodeJudge$Heap") (T := T_He) (N := 5) hx hb hts in_He hown hK hP 12 cw_12 rfl 0 (by decide) (hts (.fieldLink "CodeJudge$Heap" 21 "CodeJudge$Heap" "arrays" "I") tw_1_169) (fun _ h9 => h9) rfl dHe_hasRoom_1 ?_
  refine lv_sipush (v := 200) hx hb dHe_hasRoom_4 (by decide) ?_
  refine lv_icmp_ge (tgt := 26) hx hb dHe_hasRoom_7 (by decide) (fun h1 => ?_) (fun h1 => ?_)
  · have hw := hw.1 h1
    refine lv_iconst (v := 0) hx hb dHe_hasRoom_26 (by decide) ?_
    exact W.zret (v := 0) hx hb hr rfl (fun t ht hW => ⟨⟨0, (I, F), rfl, hw, by subst ht; exact hP⟩, hS.F ht⟩) hS.2.2 dHe_hasRoom_27
  · have hw := hw.2 h1
    refine lv_iload_n hx hb dHe_hasRoom_10 rfl (lv_at hl 1 rfl) ?_
    refine lv_sipush (v := 2000) hx hb dHe_hasRoom_11 (by decide) ?_
    refine lv_aload_n hx hb dHe_hasRoom_14 rfl (lv_at hl 0 rfl) ?_
    refine va_get (D := D) (v := .int (I 11)) (ci := 1) (C := "CodeJudge$Heap") (T := T_He) (N := 5) hx hb hts in_He hown hK hP 12 cw_12 rfl 1 (by decide) (hts (.fieldLink "CodeJudge$Heap" 25 "CodeJudge$Heap" "used" "I") tw_1_171) (fun _ h9 => h9) rfl dHe_hasRoom_15 ?_
    refine lv_isub hx hb dHe_hasRoom_18 ?_
    refine lv_icmp_gt (tgt := 26) hx hb dHe_hasRoom_19 (by decide) (fun h2 => ?_) (fun h2 => ?_)
    · have hw := hw.1 h2
      refine lv_iconst (v := 0) hx hb dHe_hasRoom_26 (by decide) ?_
      exact W.zret (v := 0) hx hb hr rfl (fun t ht hW => ⟨⟨0, (I, F), rfl, hw, by subst ht; exact hP⟩, hS.F ht⟩) hS.2.2 dHe_hasRoom_27
    · have hw := hw.2 h2
      refine lv_iconst (v := 1) hx hb dHe_hasRoom_22 (by decide) ?_
      refine lv_goto (tgt := 27) hx hb dHe_hasRoom_23 (by decide) ?_
      exact W.zret (v := 1) hx hb hr rfl (fun t ht hW => ⟨⟨1, (I, F), rfl, hw, by subst ht; exact hP⟩, hS.F ht⟩) hS.2.2 dHe_hasRoom_27
def wp_He_lengthOf (p1 : Int32) (I : SI) (F : SF) (Post : Int32 → SI → SF → Prop) : Prop := ∃ P1 : Int32 → SI → SF → Prop, wp_He_has p1 I F P1 ∧ ∀ r1 I1 F1, P1 r1 I1 F1 → ((r1 = 0 → (Post 0 I1 F1)) ∧ (¬ r1 = 0 → (vp_in p1 200 ∧ (Post ((F1 20) p1.toNatClampNeg) I1 F1))))
set_option maxHeartbeats 4000000 in
set_option maxRecDepth 100000 in
theorem c_He_lengthOf (l : Launch) (D : va_G) (a : Nat → Nat) (cI cZ cQ : ClassId) (hJ : xJ 47 a) (I : SI) (F : SF) (p1 : Int32) (sz : Nat) (Post : Int32 → SI → SF → Prop) (hw : wp_He_lengthOf p1 I F Post) : Met l y_He_lengthOf (Cond.code y_He_lengthOf b_He_lengthOf 2 (some .int) :: TB) { frames := 2, cells := 0, slots := 0, locals := 42 } (va_Pc [.ref (a 12), .int p1] (cP D a cI cZ cQ I F sz)) (va_Qi (fun r (u : SI × SF) => Post r u.1 u.2) (fun u t => va_P D vwCl (cw a cI cZ cQ u.1 u.2) t.heap) (xA 47 a sz)) 0 0 (xA 47 a sz) := by
  refine Met.ofW (cc := b_He_lengthOf) (maxL := 2) (ret := (some .int)) (by decide) rfl ?_
  intro p e s m args below meth c s₁ B hml hv
  obtain ⟨rfl, rfl, hP, hK, hN⟩ := hv
  have hx := B.exec
  have hb := B.bytes
  have hr := B.returns
  have hts : ∀ w ∈ TB, w.before _ s = true := fun w h => atoms_spec (ws := Cond.code y_He_lengthOf b_He_lengthOf 2 (some .int) :: TB) B.pre w (List.mem_cons_of_mem _ h)
  have hown : s.vm.findClass "CodeJudge$Heap" = some m.cls := findClass_of_methodNamed B.named
  have hlocks := B.notSynchronized
  have hl := lv_entry ([.ref (a 12), .int p1]) (n := 2) (Nat.le_of_ble_eq_true rfl)
  rw [lg_entry_eq]
  generalize (lg_sl ([.ref (a 12), .int p1]) ++ List.replicate (2 - (lg_sl ([.ref (a 12), .int p1])).length) Slot.unset).toArray = ls at hl ⊢
  have hl : lv_has ls 2 [(0, .ref (a 12)), (1, .int p1)] := hl
  suffices hM : ∀ (H : Heap) (locs : List Loc), va_P D vwCl (cw a cI cZ cQ I F) H → va_S (xA 47 a s.heap.size) s.heap H locs → W p l e (headSpec (Cond.code y_He_lengthOf b_He_lengthOf 2 (some .int) :: TB) { frames := 2, cells := 0, slots := 0, locals := 42 }).room s m ([.ref (a 12), .int p1]).toArray below meth c H locs 0 0 (MQ below (va_Qi (fun r (u : SI × SF) => Post r u.1 u.2) (fun u t => va_P D vwCl (cw a cI cZ cQ u.1 u.2) t.heap) (xA 47 a s.heap.size)) ([.ref (a 12), .int p1]).toArray s 0 0 (xA 47 a s.heap.size)) (F0 m 0 ls []) from hM s.heap [] hP va_S.rf
  clear hP
  intro H locs hP hS
  dsimp only [wp_He_lengthOf] at hw
  refine lv_aload_n hx hb dHe_lengthOf_0 rfl (lv_at hl 0 rfl) ?_
  refine lv_iload_n hx hb dHe_lengthOf_1 rfl (lv_at hl 1 rfl) ?_
  obtain ⟨P1, hc1, hw⟩ := hw
  refine cc_i (va_runV (As := [.int p1]) (rest := []) ⟨hx, hb, hml, hown, hts⟩ (c_He_has l D a cI cZ cQ hJ I F p1 H.size P1 hc1) (cwV 1 hts (tb_V (C := "CodeJudge$Heap") wc_He_has tw_3_165 tw_3_153 tw_3_154 tw_1_7) rfl rfl rfl (by decide +kernel) ⟨Nat.le_of_ble_eq_true rfl, Nat.le_of_ble_eq_true rfl⟩) ⟨cP_bl, va_recv hK hP rfl cw_12, cP_at hP hK hN⟩ rfl rfl hl.1 rfl (lv_room (Nat.le_of_ble_eq_true rfl)) dHe_lengthOf_2 ⟨Nat.le_of_ble_eq_true rfl, Nat.le_of_ble_eq_true rfl⟩) hS (fun r1 I1 F1 H locs hP hp1 hS => ?_)
  have hw := hw r1 I1 F1 hp1
  refine lv_if_eq (tgt := 17) hx hb dHe_lengthOf_5 (by decide) (fun h2 => ?_) (fun h2 => ?_)
  · have hw := hw.1 h2
    refine lv_iconst (v := 0) hx hb dHe_lengthOf_17 (by decide) ?_
    exact W.iret (v := 0) hx hb hr (fun t ht hW => ⟨⟨0, (I1, F1), rfl, hw, by subst ht; exact hP⟩, hS.F ht⟩) hS.2.2 dHe_lengthOf_18
  · have hw := hw.2 h2
    refine lv_aload_n hx hb dHe_lengthOf_8 rfl (lv_at hl 0 rfl) ?_
    refine va_get (D := D) (v := .ref (a 20)) (ci := 1) (C := "CodeJudge$Heap") (T := T_He) (N := 5) hx hb hts in_He hown hK hP 12 cw_12 rfl 3 (by decide) (hts (.fieldLink "CodeJudge$Heap" 15 "CodeJudge$Heap" "lengths" "[I") tw_1_174) (fun _ h9 => h9) rfl dHe_lengthOf_9 ?_
    refine lv_iload_n hx hb dHe_lengthOf_12 rfl (lv_at hl 1 rfl) ?_
    obtain ⟨h3, hw⟩ := hw
    refine va_iald hx hb hK hP 20 0 cw_20 rfl h3 dHe_lengthOf_13 ?_
    refine lv_goto (tgt := 18) hx hb dHe_lengthOf_14 (by decide) ?_
    exact W.iret (v := ((F1 20) p1.toNatClampNeg)) hx hb hr (fun t ht hW => ⟨⟨((F1 20) p1.toNatClampNeg), (I1, F1), rfl, hw, by subst ht; exact hP⟩, hS.F ht⟩) hS.2.2 dHe_lengthOf_18
def wp_He_make_39 (Post : Int32 → SI → SF → Prop) : Nat → Int32 → Int32 → SI → SF → Prop
  | 0 => fun _ _ _ _ => False
  | n + 1 => fun x1 x2 I F => (x1 ≤ x2 → (Post (((I 10) + 1) - 1) (va_up (va_up I 11 ((I 11) + x1)) 10 ((I 10) + 1)) F)) ∧ (¬ x1 ≤ x2 → (vp_in ((I 11) + x2) 2000 ∧ (∀ x8 : Int32, x8 = x2 + 1 → ((wp_He_make_39 Post n) x1 x8 I (va_up F 21 (upd (F 21) ((I 11) + x2 : Int32).toNatClampNeg 0))))))
def wp_He_make (p1 : Int32) (I : SI) (F : SF) (Post : Int32 → SI → SF → Prop) : Prop := (p1 < 0 → (Post (-1) I F)) ∧ (¬ p1 < 0 → (∃ P2 : Int32 → SI → SF → Prop, wp_He_hasRoom p1 I F P2 ∧ ∀ r2 I2 F2, P2 r2 I2 F2 → ((¬ r2 = 0 → (vp_in (I2 10) 200 ∧ (vp_in (I2 10) 200 ∧ (∃ q39, wp_He_make_39 Post q39 p1 0 I2 (va_up (va_up F2 19 (upd (F2 19) (I2 10 : Int32).toNatClampNeg (I2 11))) 20 (upd (F2 20) (I2 10 : Int32).toNatClampNeg p1)))))) ∧ (r2 = 0 → (Post (-1) I2 F2)))))
set_option maxHeartbeats 4000000 in
set_option maxRecDepth 100000 in
theorem c_He_make (l : Launch) (D : va_G) (a : Nat → Nat) (cI cZ cQ : ClassId) (hJ : xJ 47 a) (I : SI) (F : SF) (p1 : Int32) (sz : Nat) (Post : Int32 → SI → SF → Prop) (hw : wp_He_make p1 I F Post) : Met l y_He_make (Cond.code y_He_make b_He_make 3 (some .int) :: TB) { frames := 1, cells := 0, slots := 0, locals := 21 } (va_Pc [.ref (a 12), .int p1] (cP D a cI cZ cQ I F sz)) (va_Qi (fun r (u : SI × SF) => Post r u.1 u.2) (fun u t => va_P D vwCl (cw a cI cZ cQ u.1 u.2) t.heap) (xA 47 a sz)) 0 0 (xA 47 a sz) := by
  refine Met.ofW (cc := b_He_make) (maxL := 3) (ret := (some .int)) (by decide) rfl ?_
  intro p e s m args below meth c s₁ B hml hv
  obtain ⟨rfl, rfl, hP, hK, hN⟩ := hv
  have hx := B.exec
  have hb := B.bytes
  have hr := B.returns
  have hts : ∀ w ∈ TB, w.before _ s = true := fun w h => atoms_spec (ws := Cond.code y_He_make b_He_make 3 (some .int) :: TB) B.pre w (List.mem_cons_of_mem _ h)
  have hown : s.vm.findClass "CodeJudge$Heap" = some m.cls := findClass_of_methodNamed B.named
  have hlocks := B.notSynchronized
  have hl := lv_entry ([.ref (a 12), .int p1]) (n := 3) (Nat.le_of_ble_eq_true rfl)
  rw [lg_entry_eq]
  generalize (lg_sl ([.ref (a 12), .int p1]) ++ List.replicate (3 - (lg_sl ([.ref (a 12), .int p1])).length) Slot.unset).toArray = ls at hl ⊢
  have hl : lv_has ls 3 [(0, .ref (a 12)), (1, .int p1)] := hl
  obtain ⟨Q, hQ⟩ : ∃ Q, Q = MQ below (va_Qi (fun r (u : SI × SF) => Post r u.1 u.2) (fun u t => va_P D vwCl (cw a cI cZ cQ u.1 u.2) t.heap) (xA 47 a s.heap.size)) ([.ref (a 12), .int p1]).toArray s 0 0 (xA 47 a s.heap.size) := ⟨_, rfl⟩
  rw [← hQ]
  have J39 : ∀ n : Nat, ∀ (x1 : Int32) (x2 : Int32) (I : SI) (F : SF) (H : Heap) (locs : List Loc) (ls : Array Slot), lv_has ls 3 [(0, .ref (a 12)), (1, .int x1), (2, .int x2)] → va_P D vwCl (cw a cI cZ cQ I F) H → va_S (xA 47 a s.heap.size) s.heap H locs → wp_He_make_39 Post n x1 x2 I F → W p l e (headSpec (Cond.code y_He_make b_He_make 3 (some .int) :: TB) { frames := 1, cells := 0, slots := 0, locals := 21 }).room s m ([.ref (a 12), .int p1]).toArray below meth c H locs 0 0 Q (F0 m 39 ls []) := by
    intro n39
    induction n39 with
    | zero =>
      intro x1 x2 I F H locs ls hl hP hS hw
      exact False.elim hw
    | succ n39 ih39 =>
      intro x1 x2 I F H locs ls hl hP hS hw
      dsimp only [wp_He_make_39] at hw
      refine lv_iload_n hx hb dHe_make_39 rfl (lv_at hl 2 rfl) ?_
      refine lv_iload_n hx hb dHe_make_40 rfl (lv_at hl 1 rfl) ?_
      refine lv_icmp_ge (tgt := 62) hx hb dHe_make_41 (by decide) (fun h6 => ?_) (fun h6 => ?_)
      · have hw := hw.1 h6
        refine lv_aload_n hx hb dHe_make_62 rfl (lv_at hl 0 rfl) ?_
        refine lv_dup hx hb dHe_make_63 rfl ?_
        refine va_get (D := D) (v := .int (I 11)) (ci := 1) (C := "CodeJudge$Heap") (T := T_He) (N := 5) hx hb hts in_He hown hK hP 12 cw_12 rfl 1 (by decide) (hts (.fieldLink "CodeJudge$Heap" 25 "CodeJudge$Heap" "used" "I") tw_1_171) (fun _ h9 => h9) rfl dHe_make_64 ?_
        refine lv_iload_n hx hb dHe_make_67 rfl (lv_at hl 1 rfl) ?_
        refine lv_iadd hx hb dHe_make_68 ?_
        refine va_put (D := D) (ci := 1) (v := .int ((I 11) + x1)) (ty := .int) (C := "CodeJudge$Heap") (T := T_He) (N := 5) hx hb hts in_He ty_He ok_He nm_He hown hK hP (cD hJ) hS 12 cw_12 rfl 1 (by decide) (hts (.fieldLink "CodeJudge$Heap" 25 "CodeJudge$Heap" "used" "I") tw_1_171) (fun _ h9 => h9) rfl (by decide +kernel) rfl rfl (Nat.le_of_ble_eq_true rfl) dHe_make_69 (fun H locs hP _ hS => ?_)
        have hP := cwp_11 hP
        refine lv_aload_n hx hb dHe_make_72 rfl (lv_at hl 0 rfl) ?_
        refine lv_dup hx hb dHe_make_73 rfl ?_
        refine va_get (D := D) (v := .int (I 10)) (ci := 1) (C := "CodeJudge$Heap") (T := T_He) (N := 5) hx hb hts in_He hown hK hP 12 cw_12 rfl 0 (by decide) (hts (.fieldLink "CodeJudge$Heap" 21 "CodeJudge$Heap" "arrays" "I") tw_1_169) (fun _ h9 => h9) rfl dHe_make_74 ?_
        refine lv_iconst (v := 1) hx hb dHe_make_77 (by decide) ?_
        refine lv_iadd hx hb dHe_make_78 ?_
        refine va_put (D := D) (ci := 1) (v := .int ((I 10) + 1)) (ty := .int) (C := "CodeJudge$Heap") (T := T_He) (N := 5) hx hb hts in_He ty_He ok_He nm_He hown hK hP (cD hJ) hS 12 cw_12 rfl 0 (by decide) (hts (.fieldLink "CodeJudge$Heap" 21 "CodeJudge$Heap" "arrays" "I") tw_1_169) (fun _ h9 => h9) rfl (by decide +kernel) rfl rfl (Nat.le_of_ble_eq_true rfl) dHe_make_79 (fun H locs hP _ hS => ?_)
        have hP := cwp_10 hP
        refine lv_aload_n hx hb dHe_make_82 rfl (lv_at hl 0 rfl) ?_
        refine va_get (D := D) (v := .int ((I 10) + 1)) (ci := 1) (C := "CodeJudge$Heap") (T := T_He) (N := 5) hx hb hts in_He hown hK hP 12 cw_12 rfl 0 (by decide) (hts (.fieldLink "CodeJudge$Heap" 21 "CodeJudge$Heap" "arrays" "I") tw_1_169) (fun _ h9 => h9) rfl dHe_make_83 ?_
        refine lv_iconst (v := 1) hx hb dHe_make_86 (by decide) ?_
        refine lv_isub hx hb dHe_make_87 ?_
        rw [hQ]
        exact W.iret (v := (((I 10) + 1) - 1)) hx hb hr (fun t ht hW => ⟨⟨(((I 10) + 1) - 1), ((va_up (va_up I 11 ((I 11) + x1)) 10 ((I 10) + 1)), F), rfl, hw, by subst ht; exact hP⟩, hS.F ht⟩) hS.2.2 dHe_make_88
      · have hw := hw.2 h6
        refine lv_aload_n hx hb dHe_make_44 rfl (lv_at hl 0 rfl) ?_
        refine va_get (D := D) (v := .ref (a 21)) (ci := 1) (C := "CodeJudge$Heap") (T := T_He) (N := 5) hx hb hts in_He hown hK hP 12 cw_12 rfl 4 (by decide) (hts (.fieldLink "CodeJudge$Heap" 18 "CodeJudge$Heap" "cells" "[I") tw_1_175) (fun _ h9 => h9) rfl dHe_make_45 ?_
        refine lv_aload_n hx hb dHe_make_48 rfl (lv_at hl 0 rfl) ?_
        refine va_get (D := D) (v := .int (I 11)) (ci := 1) (C := "CodeJudge$Heap") (T := T_He) (N := 5) hx hb hts in_He hown hK hP 12 cw_12 rfl 1 (by decide) (hts (.fieldLink "CodeJudge$Heap" 25 "CodeJudge$Heap" "used" "I") tw_1_171) (fun _ h9 => h9) rfl dHe_make_49 ?_
        refine lv_iload_n hx hb dHe_make_52 rfl (lv_at hl 2 rfl) ?_
        refine lv_iadd hx hb dHe_make_53 ?_
        refine lv_iconst (v := 0) hx hb dHe_make_54 (by decide) ?_
        obtain ⟨h7, hw⟩ := hw
        refine va_iast hx hb hK hP (cD hJ) hS 21 0 cw_21 rfl h7 dHe_make_55 (fun H locs hP _ hS => ?_)
        have hP := cwa_21 hP
        obtain ⟨x8, e_x8⟩ : ∃ z : Int32, z = x2 + 1 := ⟨_, rfl⟩
        have hw := hw x8 e_x8
        refine lv_iinc (k := 2) (v := x8) (lv' := [(2, .int x8), (0, .ref (a 12)), (1, .int x1)]) hx hb dHe_make_56 hl rfl (e_x8 ▸ (by first | rfl | decide)) (by decide) rfl (fun ls hl => ?_)
        refine lv_goto (tgt := 39) hx hb dHe_make_59 (by decide) ?_
        exact ih39 x1 x8 I (va_up F 21 (upd (F 21) ((I 11) + x2 : Int32).toNatClampNeg 0)) H locs ls (lv_sub hl [1, 2, 0] rfl) hP hS hw
  suffices hM : ∀ (H : Heap) (locs : List Loc), va_P D vwCl (cw a cI cZ cQ I F) H → va_S (xA 47 a s.heap.size) s.heap H locs → W p l e (headSpec (Cond.code y_He_make b_He_make 3 (some .int) :: TB) { frames := 1, cells := 0, slots := 0, locals := 21 }).room s m ([.ref (a 12), .int p1]).toArray below meth c H locs 0 0 (Q) (F0 m 0 ls []) from hM s.heap [] hP va_S.rf
  clear hP
  intro H locs hP hS
  dsimp only [wp_He_make] at hw
  refine lv_iload_n hx hb dHe_make_0 rfl (lv_at hl 1 rfl) ?_
  refine lv_if_lt (tgt := 12) hx hb dHe_make_1 (by decide) (fun h1 => ?_) (fun h1 => ?_)
  · have hw := hw.1 h1
    refine lv_iconst (v := (-1)) hx hb dHe_make_12 (by decide) ?_
    rw [hQ]
    exact W.iret (v := (-1)) hx hb hr (fun t ht hW => ⟨⟨(-1), (I, F), rfl, hw, by subst ht; exact hP⟩, hS.F ht⟩) hS.2.2 dHe_make_13
  · have hw := hw.2 h1
    refine lv_aload_n hx hb dHe_make_4 rfl (lv_at hl 0 rfl) ?_
    refine lv_iload_n hx hb dHe_make_5 rfl (lv_at hl 1 rfl) ?_
    obtain ⟨P2, hc2, hw⟩ := hw
    refine cc_i (va_runV (As := [.int p1]) (rest := []) ⟨hx, hb, hml, hown, hts⟩ (c_He_hasRoom l D a cI cZ cQ hJ I F p1 H.size P2 hc2) (cwV 1 hts (tb_V (C := "CodeJudge$Heap") wc_He_hasRoom tw_3_92 tw_3_93 tw_3_94 tw_1_7) rfl rfl rfl (by decide +kernel) ⟨Nat.le_of_ble_eq_true rfl, Nat.le_of_ble_eq_true rfl⟩) ⟨cP_bl, va_recv hK hP rfl cw_12, cP_at hP hK hN⟩ rfl rfl hl.1 rfl (lv_room (Nat.le_of_ble_eq_true rfl)) dHe_make_6 ⟨Nat.le_of_ble_eq_true rfl, Nat.le_of_ble_eq_true rfl⟩) hS (fun r2 I2 F2 H locs hP hp2 hS => ?_)
    have hw := hw r2 I2 F2 hp2
    refine lv_if_ne (tgt := 14) hx hb dHe_make_9 (by decide) (fun h3 => ?_) (fun h3 => ?_)
    · have hw := hw.1 h3
      refine lv_aload_n hx hb dHe_make_14 rfl (lv_at hl 0 rfl) ?_
      refine va_get (D := D) (v := .ref (a 19)) (ci := 1) (C := "CodeJudge$Heap") (T := T_He) (N := 5) hx hb hts in_He hown hK hP 12 cw_12 rfl 2 (by decide) (hts (.fieldLink "CodeJudge$Heap" 11 "CodeJudge$Heap" "begins" "[I") tw_1_173) (fun _ h9 => h9) rfl dHe_make_15 ?_
      refine lv_aload_n hx hb dHe_make_18 rfl (lv_at hl 0 rfl) ?_
      refine va_get (D := D) (v := .int (I2 10)) (ci := 1) (C := "CodeJudge$Heap") (T := T_He) (N := 5) hx hb hts in_He hown hK hP 12 cw_12 rfl 0 (by decide) (hts (.fieldLink "CodeJudge$Heap" 21 "CodeJudge$Heap" "arrays" "I") tw_1_169) (fun _ h9 => h9) rfl dHe_make_19 ?_
      refine lv_aload_n hx hb dHe_make_22 rfl (lv_at hl 0 rfl) ?_
      refine va_get (D := D) (v := .int (I2 11)) (ci := 1) (C := "CodeJudge$Heap") (T := T_He) (N := 5) hx hb hts in_He hown hK hP 12 cw_12 rfl 1 (by decide) (hts (.fieldLink "CodeJudge$Heap" 25 "CodeJudge$Heap" "used" "I") tw_1_171) (fun _ h9 => h9) rfl dHe_make_23 ?_
      obtain ⟨h4, hw⟩ := hw
      refine va_iast hx hb hK hP (cD hJ) hS 19 0 cw_19 rfl h4 dHe_make_26 (fun H locs hP _ hS => ?_)
      have hP := cwa_19 hP
      refine lv_aload_n hx hb dHe_make_27 rfl (lv_at hl 0 rfl) ?_
      refine va_get (D := D) (v := .ref (a 20)) (ci := 1) (C := "CodeJudge$Heap") (T := T_He) (N := 5) hx hb hts in_He hown hK hP 12 cw_12 rfl 3 (by decide) (hts (.fieldLink "CodeJudge$Heap" 15 "CodeJudge$Heap" "lengths" "[I") tw_1_174) (fun _ h9 => h9) rfl dHe_make_28 ?_
      refine lv_aload_n hx hb dHe_make_31 rfl (lv_at hl 0 rfl) ?_
      refine va_get (D := D) (v := .int (I2 10)) (ci := 1) (C := "CodeJudge$Heap") (T := T_He) (N := 5) hx hb hts in_He hown hK hP 12 cw_12 rfl 0 (by decide) (hts (.fieldLink "CodeJudge$Heap" 21 "CodeJudge$Heap" "arrays" "I") tw_1_169) (fun _ h9 => h9) rfl dHe_make_32 ?_
      refine lv_iload_n hx hb dHe_make_35 rfl (lv_at hl 1 rfl) ?_
      obtain ⟨h5, hw⟩ := hw
      refine va_iast hx hb hK hP (cD hJ) hS 20 0 cw_20 rfl h5 dHe_make_36 (fun H locs hP _ hS => ?_)
      have hP := cwa_20 hP
      refine lv_iconst (v := 0) hx hb dHe_make_37 (by decide) ?_
      refine lv_istore_n (lv' := [(2, .int 0), (0, .ref (a 12)), (1, .int p1)]) hx hb dHe_make_38 rfl hl (by decide) rfl (fun ls hl => ?_)
      obtain ⟨n39, hw⟩ := hw
      exact J39 n39 p1 0 I2 (va_up (va_up F2 19 (upd (F2 19) (I2 10 : Int32).toNatClampNeg (I2 11))) 20 (upd (F2 20) (I2 10 : Int32).toNatClampNeg p1)) H locs ls (lv_sub hl [1, 2, 0] rfl) hP hS hw
    · have hw := hw.2 h3
      refine lv_iconst (v := (-1)) hx hb dHe_make_12 (by decide) ?_
      rw [hQ]
      exact W.iret (v := (-1)) hx hb hr (fun t ht hW => ⟨⟨(-1), (I2, F2), rfl, hw, by subst ht; exact hP⟩, hS.F ht⟩) hS.2.2 dHe_make_13
