def wp_MM_popValue (I : SI) (F : SF) (Post : Int32 → SI → SF → Prop) : Prop := vp_in ((I 5) - 1) 50 ∧ (vp_in ((I 5) - 1) 50 ∧ (vp_in ((I 5) - 1) 50 ∧ (vp_in ((((16 : Int32) * (I 5)) - 16) + (upd (F 19) ((I 5) - 1 : Int32).toNatClampNeg (((F 19) ((I 5) - 1 : Int32).toNatClampNeg) - 1) ((I 5) - 1 : Int32).toNatClampNeg)) 800 ∧ (Post ((F 20) ((((16 : Int32) * (I 5)) - 16) + (upd (F 19) ((I 5) - 1 : Int32).toNatClampNeg (((F 19) ((I 5) - 1 : Int32).toNatClampNeg) - 1) ((I 5) - 1 : Int32).toNatClampNeg) : Int32).toNatClampNeg) I (va_up F 19 (upd (F 19) ((I 5) - 1 : Int32).toNatClampNeg (((F 19) ((I 5) - 1 : Int32).toNatClampNeg) - 1)))))))
set_option maxHeartbeats 4000000 in
set_option maxRecDepth 100000 in
theorem c_MM_popValue (l : Launch) (D : va_G) (a : Nat → Nat) (cI cZ : ClassId) (hJ : xJ 26 a) (I : SI) (F : SF) (sz : Nat) (Post : Int32 → SI → SF → Prop) (hw : wp_MM_popValue I F Post) : Met l y_MM_popValue (Cond.code y_MM_popValue b_MM_popValue 1 (some .int) :: TB) { frames := 0, cells := 0, slots := 0, locals := 0 } (va_Pc [.ref (a 0)] (mP D a cI cZ I F sz)) (va_Qi (fun r (u : SI × SF) => Post r u.1 u.2) (fun u t => va_P D vwCl (mw a cI cZ u.1 u.2) t.heap) (xA 26 a sz)) 0 0 (xA 26 a sz) := by
  refine Met.ofW (cc := b_MM_popValue) (maxL := 1) (ret := (some .int)) (by decide) rfl ?_
  intro p e s m args below meth c s₁ B hml hv
  obtain ⟨rfl, rfl, hP, hK⟩ := hv
  have hx := B.exec
  have hb := B.bytes
  have hr := B.returns
  have hts : ∀ w ∈ TB, w.before _ s = true := fun w h => atoms_spec (ws := Cond.code y_MM_popValue b_MM_popValue 1 (some .int) :: TB) B.pre w (List.mem_cons_of_mem _ h)
  have hown : s.vm.findClass "CodeJudgeModel" = some m.cls := findClass_of_methodNamed B.named
  have hlocks := B.notSynchronized
  have hl := lv_entry ([.ref (a 0)]) (n := 1) (Nat.le_of_ble_eq_true rfl)
  rw [lg_entry_eq]
  generalize (lg_sl ([.ref (a 0)]) ++ List.replicate (1 - (lg_sl ([.ref (a 0)])).length) Slot.unset).toArray = ls at hl ⊢
  have hl : lv_has ls 1 [(0, .ref (a 0))] := hl
  suffices hM : ∀ (H : Heap) (locs : List Loc), va_P D vwCl (mw a cI cZ I F) H → va_S (xA 26 a s.heap.size) s.heap H locs → W p l e (headSpec (Cond.code y_MM_popValue b_MM_popValue 1 (some .int) :: TB) { frames := 0, cells := 0, slots := 0, locals := 0 }).room s m ([.ref (a 0)]).toArray below meth c H locs 0 0 (MQ below (va_Qi (fun r (u : SI × SF) => Post r u.1 u.2) (fun u t => va_P D vwCl (mw a cI cZ u.1 u.2) t.heap) (xA 26 a s.heap.size)) ([.ref (a 0)]).toArray s 0 0 (xA 26 a s.heap.size)) (F0 m 0 ls []) from hM s.heap [] hP va_S.rf
  clear hP
  intro H locs hP hS
  dsimp only [wp_MM_popValue] at hw
  refine lv_aload_n hx hb dMM_popValue_0 rfl (lv_at hl 0 rfl) ?_
  refine va_get (D := D) (v := .ref (a 19)) (ci := 8) (C := "CodeJudgeModel") (T := T_MM) (N := 37) hx hb hts in_MM hown hK hP 0 mw_0 rfl 24 (by decide) (hts (.fieldLink "CodeJudgeModel" 65 "CodeJudgeModel" "tops" "[I") tw_4_89) (fun _ h9 => h9) rfl dMM_popValue_1 ?_
  refine lv_aload_n hx hb dMM_popValue_4 rfl (lv_at hl 0 rfl) ?_
  refine va_get (D := D) (v := .int (I 5)) (ci := 8) (C := "CodeJudgeModel") (T := T_MM) (N := 37) hx hb hts in_MM hown hK hP 0 mw_0 rfl 21 (by decide) (hts (.fieldLink "CodeJudgeModel" 154 "CodeJudgeModel" "frames" "I") tw_4_86) (fun _ h9 => h9) rfl dMM_popValue_5 ?_
  refine lv_iconst (v := 1) hx hb dMM_popValue_8 (by decide) ?_
  refine lv_isub hx hb dMM_popValue_9 ?_
  refine lv_dup2_11 hx hb dMM_popValue_10 rfl rfl ?_
  obtain ⟨h1, hw⟩ := hw
  refine va_iald hx hb hK hP 19 0 mw_19 rfl h1 dMM_popValue_11 ?_
  refine lv_iconst (v := 1) hx hb dMM_popValue_12 (by decide) ?_
  refine lv_isub hx hb dMM_popValue_13 ?_
  obtain ⟨h2, hw⟩ := hw
  refine va_iast hx hb hK hP (mD hJ) hS 19 0 mw_19 rfl h2 dMM_popValue_14 (fun H locs hP _ hS => ?_)
  have hP := mwa_19 hP
  refine lv_aload_n hx hb dMM_popValue_15 rfl (lv_at hl 0 rfl) ?_
  refine va_get (D := D) (v := .ref (a 20)) (ci := 8) (C := "CodeJudgeModel") (T := T_MM) (N := 37) hx hb hts in_MM hown hK hP 0 mw_0 rfl 25 (by decide) (hts (.fieldLink "CodeJudgeModel" 68 "CodeJudgeModel" "values" "[I") tw_4_90) (fun _ h9 => h9) rfl dMM_popValue_16 ?_
  refine lv_bipush (v := 16) hx hb dMM_popValue_19 (by decide) ?_
  refine lv_aload_n hx hb dMM_popValue_21 rfl (lv_at hl 0 rfl) ?_
  refine va_get (D := D) (v := .int (I 5)) (ci := 8) (C := "CodeJudgeModel") (T := T_MM) (N := 37) hx hb hts in_MM hown hK hP 0 mw_0 rfl 21 (by decide) (hts (.fieldLink "CodeJudgeModel" 154 "CodeJudgeModel" "frames" "I") tw_4_86) (fun _ h9 => h9) rfl dMM_popValue_22 ?_
  refine lv_imul hx hb dMM_popValue_25 ?_
  refine lv_bipush (v := 16) hx hb dMM_popValue_26 (by decide) ?_
  refine lv_isub hx hb dMM_popValue_28 ?_
  refine lv_aload_n hx hb dMM_popValue_29 rfl (lv_at hl 0 rfl) ?_
  refine va_get (D := D) (v := .ref (a 19)) (ci := 8) (C := "CodeJudgeModel") (T := T_MM) (N := 37) hx hb hts in_MM hown hK hP 0 mw_0 rfl 24 (by decide) (hts (.fieldLink "CodeJudgeModel" 65 "CodeJudgeModel" "tops" "[I") tw_4_89) (fun _ h9 => h9) rfl dMM_popValue_30 ?_
  refine lv_aload_n hx hb dMM_popValue_33 rfl (lv_at hl 0 rfl) ?_
  refine va_get (D := D) (v := .int (I 5)) (ci := 8) (C := "CodeJudgeModel") (T := T_MM) (N := 37) hx hb hts in_MM hown hK hP 0 mw_0 rfl 21 (by decide) (hts (.fieldLink "CodeJudgeModel" 154 "CodeJudgeModel" "frames" "I") tw_4_86) (fun _ h9 => h9) rfl dMM_popValue_34 ?_
  refine lv_iconst (v := 1) hx hb dMM_popValue_37 (by decide) ?_
  refine lv_isub hx hb dMM_popValue_38 ?_
  obtain ⟨h3, hw⟩ := hw
  refine va_iald hx hb hK hP 19 0 mw_19 rfl h3 dMM_popValue_39 ?_
  refine lv_iadd hx hb dMM_popValue_40 ?_
  obtain ⟨h4, hw⟩ := hw
  refine va_iald hx hb hK hP 20 0 mw_20 rfl h4 dMM_popValue_41 ?_
  exact W.iret (v := ((F 20) ((((16 : Int32) * (I 5)) - 16) + (upd (F 19) ((I 5) - 1 : Int32).toNatClampNeg (((F 19) ((I 5) - 1 : Int32).toNatClampNeg) - 1) ((I 5) - 1 : Int32).toNatClampNeg) : Int32).toNatClampNeg)) hx hb hr (fun t ht hW => ⟨⟨((F 20) ((((16 : Int32) * (I 5)) - 16) + (upd (F 19) ((I 5) - 1 : Int32).toNatClampNeg (((F 19) ((I 5) - 1 : Int32).toNatClampNeg) - 1) ((I 5) - 1 : Int32).toNatClampNeg) : Int32).toNatClampNeg), (I, (va_up F 19 (upd (F 19) ((I 5) - 1 : Int32).toNatClampNeg (((F 19) ((I 5) - 1 : Int32).toNatClampNeg) - 1)))), rfl, hw, by subst ht; exact hP⟩, hS.F ht⟩) hS.2.2 dMM_popValue_42
def wp_MM_pushValue (p1 : Int32) (I : SI) (F : SF) (Post : SI → SF → Prop) : Prop := vp_in ((I 5) - 1) 50 ∧ (vp_in ((((16 : Int32) * (I 5)) - 16) + ((F 19) ((I 5) - 1 : Int32).toNatClampNeg)) 800 ∧ (vp_in ((I 5) - 1) 50 ∧ (vp_in ((I 5) - 1) 50 ∧ (Post I (va_up (va_up F 20 (upd (F 20) ((((16 : Int32) * (I 5)) - 16) + ((F 19) ((I 5) - 1 : Int32).toNatClampNeg) : Int32).toNatClampNeg p1)) 19 (upd (F 19) ((I 5) - 1 : Int32).toNatClampNeg (((F 19) ((I 5) - 1 : Int32).toNatClampNeg) + 1)))))))
set_option maxHeartbeats 4000000 in
set_option maxRecDepth 100000 in
theorem c_MM_pushValue (l : Launch) (D : va_G) (a : Nat → Nat) (cI cZ : ClassId) (hJ : xJ 26 a) (I : SI) (F : SF) (p1 : Int32) (sz : Nat) (Post : SI → SF → Prop) (hw : wp_MM_pushValue p1 I F Post) : Met l y_MM_pushValue (Cond.code y_MM_pushValue b_MM_pushValue 2 none :: TB) { frames := 0, cells := 0, slots := 0, locals := 0 } (va_Pc [.ref (a 0), .int p1] (mP D a cI cZ I F sz)) (va_Qv (fun (u : SI × SF) => Post u.1 u.2) (fun u t => va_P D vwCl (mw a cI cZ u.1 u.2) t.heap) (xA 26 a sz)) 0 0 (xA 26 a sz) := by
  refine Met.ofW (cc := b_MM_pushValue) (maxL := 2) (ret := none) (by decide) rfl ?_
  intro p e s m args below meth c s₁ B hml hv
  obtain ⟨rfl, rfl, hP, hK⟩ := hv
  have hx := B.exec
  have hb := B.bytes
  have hr := B.returns
  have hts : ∀ w ∈ TB, w.before _ s = true := fun w h => atoms_spec (ws := Cond.code y_MM_pushValue b_MM_pushValue 2 none :: TB) B.pre w (List.mem_cons_of_mem _ h)
  have hown : s.vm.findClass "CodeJudgeModel" = some m.cls := findClass_of_methodNamed B.named
  have hlocks := B.notSynchronized
  have hl := lv_entry ([.ref (a 0), .int p1]) (n := 2) (Nat.le_of_ble_eq_true rfl)
  rw [lg_entry_eq]
  generalize (lg_sl ([.ref (a 0), .int p1]) ++ List.replicate (2 - (lg_sl ([.ref (a 0), .int p1])).length) Slot.unset).toArray = ls at hl ⊢
  have hl : lv_has ls 2 [(0, .ref (a 0)), (1, .int p1)] := hl
  suffices hM : ∀ (H : Heap) (locs : List Loc), va_P D vwCl (mw a cI cZ I F) H → va_S (xA 26 a s.heap.size) s.heap H locs → W p l e (headSpec (Cond.code y_MM_pushValue b_MM_pushValue 2 none :: TB) { frames := 0, cells := 0, slots := 0, locals := 0 }).room s m ([.ref (a 0), .int p1]).toArray below meth c H locs 0 0 (MQ below (va_Qv (fun (u : SI × SF) => Post u.1 u.2) (fun u t => va_P D vwCl (mw a cI cZ u.1 u.2) t.heap) (xA 26 a s.heap.size)) ([.ref (a 0), .int p1]).toArray s 0 0 (xA 26 a s.heap.size)) (F0 m 0 ls []) from hM s.heap [] hP va_S.rf
  clear hP
  intro H locs hP hS
  dsimp only [wp_MM_pushValue] at hw
  refine lv_aload_n hx hb dMM_pushValue_0 rfl (lv_at hl 0 rfl) ?_
  refine va_get (D := D) (v := .ref (a 20)) (ci := 8) (C := "CodeJudgeModel") (T := T_MM) (N := 37) hx hb hts in_MM hown hK hP 0 mw_0 rfl 25 (by decide) (hts (.fieldLink "CodeJudgeModel" 68 "CodeJudgeModel" "values" "[I") tw_4_90) (fun _ h9 => h9) rfl dMM_pushValue_1 ?_
  refine lv_bipush (v := 16) hx hb dMM_pushValue_4 (by decide) ?_
  refine lv_aload_n hx hb dMM_pushValue_6 rfl (lv_at hl 0 rfl) ?_
  refine va_get (D := D) (v := .int (I 5)) (ci := 8) (C := "CodeJudgeModel") (T := T_MM) (N := 37) hx hb hts in_MM hown hK hP 0 mw_0 rfl 21 (by decide) (hts (.fieldLink "CodeJudgeModel" 154 "CodeJudgeModel" "frames" "I") tw_4_86) (fun _ h9 => h9) rfl dMM_pushValue_7 ?_
  refine lv_imul hx hb dMM_pushValue_10 ?_
  refine lv_bipush (v := 16) hx hb dMM_pushValue_11 (by decide) ?_
  refine lv_isub hx hb dMM_pushValue_13 ?_
  refine lv_aload_n hx hb dMM_pushValue_14 rfl (lv_at hl 0 rfl) ?_
  refine va_get (D := D) (v := .ref (a 19)) (ci := 8) (C := "CodeJudgeModel") (T := T_MM) (N := 37) hx hb hts in_MM hown hK hP 0 mw_0 rfl 24 (by decide) (hts (.fieldLink "CodeJudgeModel" 65 "CodeJudgeModel" "tops" "[I") tw_4_89) (fun _ h9 => h9) rfl dMM_pushValue_15 ?_
  refine lv_aload_n hx hb dMM_pushValue_18 rfl (lv_at hl 0 rfl) ?_
  refine va_get (D := D) (v := .int (I 5)) (ci := 8) (C := "CodeJudgeModel") (T := T_MM) (N := 37) hx hb hts in_MM hown hK hP 0 mw_0 rfl 21 (by decide) (hts (.fieldLink "CodeJudgeModel" 154 "CodeJudgeModel" "frames" "I") tw_4_86) (fun _ h9 => h9) rfl dMM_pushValue_19 ?_
  refine lv_iconst (v := 1) hx hb dMM_pushValue_22 (by decide) ?_
  refine lv_isub hx hb dMM_pushValue_23 ?_
  obtain ⟨h1, hw⟩ := hw
  refine va_iald hx hb hK hP 19 0 mw_19 rfl h1 dMM_pushValue_24 ?_
  refine lv_iadd hx hb dMM_pushValue_25 ?_
  refine lv_iload_n hx hb dMM_pushValue_26 rfl (lv_at hl 1 rfl) ?_
  obtain ⟨h2, hw⟩ := hw
  refine va_iast hx hb hK hP (mD hJ) hS 20 0 mw_20 rfl h2 dMM_pushValue_27 (fun H locs hP _ hS => ?_)
  have hP := mwa_20 hP
  refine lv_aload_n hx hb dMM_pushValue_28 rfl (lv_at hl 0 rfl) ?_
  refine va_get (D := D) (v := .ref (a 19)) (ci := 8) (C := "CodeJudgeModel") (T := T_MM) (N := 37) hx hb hts in_MM hown hK hP 0 mw_0 rfl 24 (by decide) (hts (.fieldLink "CodeJudgeModel" 65 "CodeJudgeModel" "tops" "[I") tw_4_89) (fun _ h9 => h9) rfl dMM_pushValue_29 ?_
  refine lv_aload_n hx hb dMM_pushValue_32 rfl (lv_at hl 0 rfl) ?_
  refine va_get (D := D) (v := .int (I 5)) (ci := 8) (C := "CodeJudgeModel") (T := T_MM) (N := 37) hx hb hts in_MM hown hK hP 0 mw_0 rfl 21 (by decide) (hts (.fieldLink "CodeJudgeModel" 154 "CodeJudgeModel" "frames" "I") tw_4_86) (fun _ h9 => h9) rfl dMM_pushValue_33 ?_
  refine lv_iconst (v := 1) hx hb dMM_pushValue_36 (by decide) ?_
  refine lv_isub hx hb dMM_pushValue_37 ?_
  refine lv_dup2_11 hx hb dMM_pushValue_38 rfl rfl ?_
  obtain ⟨h3, hw⟩ := hw
  refine va_iald hx hb hK hP 19 0 mw_19 rfl h3 dMM_pushValue_39 ?_
  refine lv_iconst (v := 1) hx hb dMM_pushValue_40 (by decide) ?_
  refine lv_iadd hx hb dMM_pushValue_41 ?_
  obtain ⟨h4, hw⟩ := hw
  refine va_iast hx hb hK hP (mD hJ) hS 19 0 mw_19 rfl h4 dMM_pushValue_42 (fun H locs hP _ hS => ?_)
  have hP := mwa_19 hP
  exact W.vret hx hb hr (fun t ht hW => ⟨⟨(I, (va_up (va_up F 20 (upd (F 20) ((((16 : Int32) * (I 5)) - 16) + ((F 19) ((I 5) - 1 : Int32).toNatClampNeg) : Int32).toNatClampNeg p1)) 19 (upd (F 19) ((I 5) - 1 : Int32).toNatClampNeg (((F 19) ((I 5) - 1 : Int32).toNatClampNeg) + 1)))), rfl, hw, by subst ht; exact hP⟩, hS.F ht⟩) hS.2.2 dMM_pushValue_43
def wp_MM_back_29 (Post : SI → SF → Prop) (x1 : Int32) (s0 : Int32) (I : SI) (F : SF) : Prop := (¬ ((I 5) - 1) = 0 → (vp_in x1 8 ∧ ((((F 4) x1.toNatClampNeg) ≤ 0 → (Post (va_up I 5 ((I 5) - 1)) F)) ∧ (¬ ((F 4) x1.toNatClampNeg) ≤ 0 → (∃ P8 : SI → SF → Prop, wp_MM_pushValue s0 (va_up I 5 ((I 5) - 1)) F P8 ∧ ∀ I8 F8, P8 I8 F8 → (Post I8 F8)))))) ∧ (((I 5) - 1) = 0 → (Post (va_up (va_up I 5 ((I 5) - 1)) 8 s0) F))
def wp_MM_back (I : SI) (F : SF) (Post : SI → SF → Prop) : Prop := vp_in ((I 5) - 1) 50 ∧ (∀ x2 : Int32, x2 = ((F 17) ((I 5) - 1 : Int32).toNatClampNeg) → (vp_in x2 8 ∧ ((((F 4) x2.toNatClampNeg) ≤ 0 → (wp_MM_back_29 Post x2 0 I F)) ∧ (¬ ((F 4) x2.toNatClampNeg) ≤ 0 → (∃ P9 : Int32 → SI → SF → Prop, wp_MM_popValue I F P9 ∧ ∀ r9 I9 F9, P9 r9 I9 F9 → (wp_MM_back_29 Post x2 r9 I9 F9))))))
set_option maxHeartbeats 4000000 in
set_option maxRecDepth 100000 in
theorem c_MM_back (l : Launch) (D : va_G) (a : Nat → Nat) (cI cZ : ClassId) (hJ : xJ 26 a) (I : SI) (F : SF) (sz : Nat) (Post : SI → SF → Prop) (hw : wp_MM_back I F Post) : Met l y_MM_back (Cond.code y_MM_back b_MM_back 3 none :: TB) { frames := 1, cells := 0, slots := 0, locals := 21 } (va_Pc [.ref (a 0)] (mP D a cI cZ I F sz)) (va_Qv (fun (u : SI × SF) => Post u.1 u.2) (fun u t => va_P D vwCl (mw a cI cZ u.1 u.2) t.heap) (xA 26 a sz)) 0 0 (xA 26 a sz) := by
  refine Met.ofW (cc := b_MM_back) (maxL := 3) (ret := none) (by decide) rfl ?_
  intro p e s m args below meth c s₁ B hml hv
  obtain ⟨rfl, rfl, hP, hK⟩ := hv
  have hx := B.exec
  have hb := B.bytes
  have hr := B.returns
  have hts : ∀ w ∈ TB, w.before _ s = true := fun w h => atoms_spec (ws := Cond.code y_MM_back b_MM_back 3 none :: TB) B.pre w (List.mem_cons_of_mem _ h)
  have hown : s.vm.findClass "CodeJudgeModel" = some m.cls := findClass_of_methodNamed B.named
  have hlocks := B.notSynchronized
  have hl := lv_entry ([.ref (a 0)]) (n := 3) (Nat.le_of_ble_eq_true rfl)
  rw [lg_entry_eq]
  generalize (lg_sl ([.ref (a 0)]) ++ List.replicate (3 - (lg_sl ([.ref (a 0)])).length) Slot.unset).toArray = ls at hl ⊢
  have hl : lv_has ls 3 [(0, .ref (a 0))] := hl
  obtain ⟨Q, hQ⟩ : ∃ Q, Q = MQ below (va_Qv (fun (u : SI × SF) => Post u.1 u.2) (fun u t => va_P D vwCl (mw a cI cZ u.1 u.2) t.heap) (xA 26 a s.heap.size)) ([.ref (a 0)]).toArray s 0 0 (xA 26 a s.heap.size) := ⟨_, rfl⟩
  rw [← hQ]
  have J29 : ∀ (x1 : Int32) (s0 : Int32) (I : SI) (F : SF) (H : Heap) (locs : List Loc) (ls : Array Slot), lv_has ls 3 [(0, .ref (a 0)), (1, .int x1)] → va_P D vwCl (mw a cI cZ I F) H → va_S (xA 26 a s.heap.size) s.heap H locs → wp_MM_back_29 Post x1 s0 I F → W p l e (headSpec (Cond.code y_MM_back b_MM_back 3 none :: TB) { frames := 1, cells := 0, slots := 0, locals := 21 }).room s m ([.ref (a 0)]).toArray below meth c H locs 0 0 Q (F0 m 29 ls [.int s0]) := by
    intro x1 s0 I F H locs ls hl hP hS hw
    dsimp only [wp_MM_back_29] at hw
    refine lv_istore_n (lv' := [(2, .int s0), (0, .ref (a 0)), (1, .int x1)]) hx hb dMM_back_29 rfl hl (by decide) rfl (fun ls hl => ?_)
    refine lv_aload_n hx hb dMM_back_30 rfl (lv_at hl 1 rfl) ?_
    refine lv_dup hx hb dMM_back_31 rfl ?_
    refine va_get (D := D) (v := .int (I 5)) (ci := 8) (C := "CodeJudgeModel") (T := T_MM) (N := 37) hx hb hts in_MM hown hK hP 0 mw_0 rfl 21 (by decide) (hts (.fieldLink "CodeJudgeModel" 154 "CodeJudgeModel" "frames" "I") tw_4_86) (fun _ h9 => h9) rfl dMM_back_32 ?_
    refine lv_iconst (v := 1) hx hb dMM_back_35 (by decide) ?_
    refine lv_isub hx hb dMM_back_36 ?_
    refine va_put (D := D) (ci := 8) (v := .int ((I 5) - 1)) (ty := .int) (C := "CodeJudgeModel") (T := T_MM) (N := 37) hx hb hts in_MM ty_MM ok_MM nm_MM hown hK hP (mD hJ) hS 0 mw_0 rfl 21 (by decide) (hts (.fieldLink "CodeJudgeModel" 154 "CodeJudgeModel" "frames" "I") tw_4_86) (fun _ h9 => h9) rfl (by decide +kernel) rfl rfl (Nat.le_of_ble_eq_true rfl) dMM_back_37 (fun H locs hP _ hS => ?_)
    have hP := mwp_5 hP
    refine lv_aload_n hx hb dMM_back_40 rfl (lv_at hl 1 rfl) ?_
    refine va_get (D := D) (v := .int ((I 5) - 1)) (ci := 8) (C := "CodeJudgeModel") (T := T_MM) (N := 37) hx hb hts in_MM hown hK hP 0 mw_0 rfl 21 (by decide) (hts (.fieldLink "CodeJudgeModel" 154 "CodeJudgeModel" "frames" "I") tw_4_86) (fun _ h9 => h9) rfl dMM_back_41 ?_
    refine lv_if_ne (tgt := 55) hx hb dMM_back_44 (by decide) (fun h5 => ?_) (fun h5 => ?_)
    · have hw := hw.1 h5
      refine lv_aload_n hx hb dMM_back_55 rfl (lv_at hl 1 rfl) ?_
      refine va_get (D := D) (v := .ref (a 4)) (ci := 8) (C := "CodeJudgeModel") (T := T_MM) (N := 37) hx hb hts in_MM hown hK hP 0 mw_0 rfl 4 (by decide) (hts (.fieldLink "CodeJudgeModel" 20 "CodeJudgeModel" "returns" "[I") tw_4_70) (fun _ h9 => h9) rfl dMM_back_56 ?_
      refine lv_iload_n hx hb dMM_back_59 rfl (lv_at hl 2 rfl) ?_
      obtain ⟨h6, hw⟩ := hw
      refine va_iald hx hb hK hP 4 0 mw_4 rfl h6 dMM_back_60 ?_
      refine lv_if_le (tgt := 69) hx hb dMM_back_61 (by decide) (fun h7 => ?_) (fun h7 => ?_)
      · have hw := hw.1 h7
        rw [hQ]
        exact W.vret hx hb hr (fun t ht hW => ⟨⟨((va_up I 5 ((I 5) - 1)), F), rfl, hw, by subst ht; exact hP⟩, hS.F ht⟩) hS.2.2 dMM_back_69
      · have hw := hw.2 h7
        refine lv_aload_n hx hb dMM_back_64 rfl (lv_at hl 1 rfl) ?_
        refine lv_iload_n hx hb dMM_back_65 rfl (lv_at hl 0 rfl) ?_
        obtain ⟨P8, hc8, hw⟩ := hw
        refine mc_v (va_runV (As := [.int s0]) (rest := []) ⟨hx, hb, hml, hown, hts⟩ (c_MM_pushValue l D a cI cZ hJ (va_up I 5 ((I 5) - 1)) F s0 H.size P8 hc8) (cwV 1 hts (tb_V (C := "CodeJudgeModel") wc_MM_pushValue tw_5_55 tw_5_57 tw_0_39 tw_1_9) rfl rfl rfl (by decide +kernel) ⟨Nat.le_of_ble_eq_true rfl, Nat.le_of_ble_eq_true rfl⟩) ⟨mP_bl, va_recv hK hP rfl mw_0, mP_at hP hK⟩ rfl rfl hl.1 rfl (lv_room (Nat.le_of_ble_eq_true rfl)) dMM_back_66 ⟨Nat.le_of_ble_eq_true rfl, Nat.le_of_ble_eq_true rfl⟩) hS (fun I8 F8 H locs hP hp8 hS => ?_)
        have hw := hw I8 F8 hp8
        rw [hQ]
        exact W.vret hx hb hr (fun t ht hW => ⟨⟨(I8, F8), rfl, hw, by subst ht; exact hP⟩, hS.F ht⟩) hS.2.2 dMM_back_69
    · have hw := hw.2 h5
      refine lv_aload_n hx hb dMM_back_47 rfl (lv_at hl 1 rfl) ?_
      refine lv_iload_n hx hb dMM_back_48 rfl (lv_at hl 0 rfl) ?_
      refine va_put (D := D) (ci := 8) (v := .int s0) (ty := .int) (C := "CodeJudgeModel") (T := T_MM) (N := 37) hx hb hts in_MM ty_MM ok_MM nm_MM hown hK hP (mD hJ) hS 0 mw_0 rfl 29 (by decide) (hts (.fieldLink "CodeJudgeModel" 170 "CodeJudgeModel" "answer" "I") tw_4_94) (fun _ h9 => h9) rfl (by decide +kernel) rfl rfl (Nat.le_of_ble_eq_true rfl) dMM_back_49 (fun H locs hP _ hS => ?_)
      have hP := mwp_8 hP
      refine lv_goto (tgt := 69) hx hb dMM_back_52 (by decide) ?_
      rw [hQ]
      exact W.vret hx hb hr (fun t ht hW => ⟨⟨((va_up (va_up I 5 ((I 5) - 1)) 8 s0), F), rfl, hw, by subst ht; exact hP⟩, hS.F ht⟩) hS.2.2 dMM_back_69
  suffices hM : ∀ (H : Heap) (locs : List Loc), va_P D vwCl (mw a cI cZ I F) H → va_S (xA 26 a s.heap.size) s.heap H locs → W p l e (headSpec (Cond.code y_MM_back b_MM_back 3 none :: TB) { frames := 1, cells := 0, slots := 0, locals := 21 }).room s m ([.ref (a 0)]).toArray below meth c H locs 0 0 (Q) (F0 m 0 ls []) from hM s.heap [] hP va_S.rf
  clear hP
  intro H locs hP hS
  dsimp only [wp_MM_back] at hw
  refine lv_aload_n hx hb dMM_back_0 rfl (lv_at hl 0 rfl) ?_
  refine va_get (D := D) (v := .ref (a 17)) (ci := 8) (C := "CodeJudgeModel") (T := T_MM) (N := 37) hx hb hts in_MM hown hK hP 0 mw_0 rfl 22 (by decide) (hts (.fieldLink "CodeJudgeModel" 59 "CodeJudgeModel" "methods" "[I") tw_4_87) (fun _ h9 => h9) rfl dMM_back_1 ?_
  refine lv_aload_n hx hb dMM_back_4 rfl (lv_at hl 0 rfl) ?_
  refine va_get (D := D) (v := .int (I 5)) (ci := 8) (C := "CodeJudgeModel") (T := T_MM) (N := 37) hx hb hts in_MM hown hK hP 0 mw_0 rfl 21 (by decide) (hts (.fieldLink "CodeJudgeModel" 154 "CodeJudgeModel" "frames" "I") tw_4_86) (fun _ h9 => h9) rfl dMM_back_5 ?_
  refine lv_iconst (v := 1) hx hb dMM_back_8 (by decide) ?_
  refine lv_isub hx hb dMM_back_9 ?_
  obtain ⟨h1, hw⟩ := hw
  refine va_iald hx hb hK hP 17 0 mw_17 rfl h1 dMM_back_10 ?_
  refine lv_topi (fun x2 e_x2 => ?_)
  have hw := hw x2 e_x2
  refine lv_istore_n (lv' := [(1, .int x2), (0, .ref (a 0))]) hx hb dMM_back_11 rfl hl (by decide) rfl (fun ls hl => ?_)
  refine lv_aload_n hx hb dMM_back_12 rfl (lv_at hl 1 rfl) ?_
  refine va_get (D := D) (v := .ref (a 4)) (ci := 8) (C := "CodeJudgeModel") (T := T_MM) (N := 37) hx hb hts in_MM hown hK hP 0 mw_0 rfl 4 (by decide) (hts (.fieldLink "CodeJudgeModel" 20 "CodeJudgeModel" "returns" "[I") tw_4_70) (fun _ h9 => h9) rfl dMM_back_13 ?_
  refine lv_iload_n hx hb dMM_back_16 rfl (lv_at hl 0 rfl) ?_
  obtain ⟨h3, hw⟩ := hw
  refine va_iald hx hb hK hP 4 0 mw_4 rfl h3 dMM_back_17 ?_
  refine lv_if_le (tgt := 28) hx hb dMM_back_18 (by decide) (fun h4 => ?_) (fun h4 => ?_)
  · have hw := hw.1 h4
    refine lv_iconst (v := 0) hx hb dMM_back_28 (by decide) ?_
    exact J29 x2 0 I F H locs ls (lv_sub hl [1, 0] rfl) hP hS hw
  · have hw := hw.2 h4
    refine lv_aload_n hx hb dMM_back_21 rfl (lv_at hl 1 rfl) ?_
    obtain ⟨P9, hc9, hw⟩ := hw
    refine mc_i (va_runV (As := []) (rest := []) ⟨hx, hb, hml, hown, hts⟩ (c_MM_popValue l D a cI cZ hJ I F H.size P9 hc9) (cwV 0 hts (tb_V (C := "CodeJudgeModel") wc_MM_popValue tw_5_59 tw_5_61 tw_0_40 tw_1_9) rfl rfl rfl (by decide +kernel) ⟨Nat.le_of_ble_eq_true rfl, Nat.le_of_ble_eq_true rfl⟩) ⟨mP_bl, va_recv hK hP rfl mw_0, mP_at hP hK⟩ rfl rfl hl.1 rfl (lv_room (Nat.le_of_ble_eq_true rfl)) dMM_back_22 ⟨Nat.le_of_ble_eq_true rfl, Nat.le_of_ble_eq_true rfl⟩) hS (fun r9 I9 F9 H locs hP hp9 hS => ?_)
    have hw := hw r9 I9 F9 hp9
    refine lv_goto (tgt := 29) hx hb dMM_back_25 (by decide) ?_
    exact J29 x2 r9 I9 F9 H locs ls (lv_sub hl [1, 0] rfl) hP hS hw
def wp_MM_cell_49 (Post : Int32 → SI → SF → Prop) (x1 : Int32) (x2 : Int32) (s0 : Int32) (I : SI) (F : SF) : Prop := ∃ P3 : Int32 → SI → SF → Prop, wp_MM_goes s0 1 1 I F P3 ∧ ∀ r3 I3 F3, P3 r3 I3 F3 → ((¬ r3 = 0 → ((¬ x2 = (-1) → (vp_in x1 201 ∧ (vp_in (((F3 22) x1.toNatClampNeg) + x2) 2000 ∧ (Post ((F3 24) (((F3 22) x1.toNatClampNeg) + x2 : Int32).toNatClampNeg) I3 F3)))) ∧ (x2 = (-1) → (vp_in x1 201 ∧ (Post ((F3 23) x1.toNatClampNeg) I3 F3))))) ∧ (r3 = 0 → (Post 0 I3 F3)))
def wp_MM_cell_48 (Post : Int32 → SI → SF → Prop) (x1 : Int32) (x2 : Int32) (I : SI) (F : SF) : Prop := wp_MM_cell_49 Post x1 x2 0 I F
def wp_MM_cell_24 (Post : Int32 → SI → SF → Prop) (x1 : Int32) (x2 : Int32) (s0 : Int32) (I : SI) (F : SF) : Prop := (s0 = 0 → (wp_MM_cell_48 Post x1 x2 I F)) ∧ (¬ s0 = 0 → ((x2 < (-1) → (wp_MM_cell_48 Post x1 x2 I F)) ∧ (¬ x2 < (-1) → (vp_in x1 201 ∧ ((((F 23) x1.toNatClampNeg) ≤ x2 → (wp_MM_cell_48 Post x1 x2 I F)) ∧ (¬ ((F 23) x1.toNatClampNeg) ≤ x2 → (wp_MM_cell_49 Post x1 x2 1 I F)))))))
def wp_MM_cell_23 (Post : Int32 → SI → SF → Prop) (x1 : Int32) (x2 : Int32) (I : SI) (F : SF) : Prop := wp_MM_cell_24 Post x1 x2 0 I F
def wp_MM_cell (p1 : Int32) (p2 : Int32) (I : SI) (F : SF) (Post : Int32 → SI → SF → Prop) : Prop := ((I 4) = 0 → (wp_MM_cell_23 Post p1 p2 I F)) ∧ (¬ (I 4) = 0 → ((p1 < 0 → (wp_MM_cell_23 Post p1 p2 I F)) ∧ (¬ p1 < 0 → (((I 9) ≤ p1 → (wp_MM_cell_23 Post p1 p2 I F)) ∧ (¬ (I 9) ≤ p1 → (wp_MM_cell_24 Post p1 p2 1 I F))))))
set_option maxHeartbeats 4000000 in
set_option maxRecDepth 100000 in
theorem c_MM_cell (l : Launch) (D : va_G) (a : Nat → Nat) (cI cZ : ClassId) (hJ : xJ 26 a) (I : SI) (F : SF) (p1 : Int32) (p2 : Int32) (sz : Nat) (Post : Int32 → SI → SF → Prop) (hw : wp_MM_cell p1 p2 I F Post) : Met l y_MM_cell (Cond.code y_MM_cell b_MM_cell 4 (some .int) :: TB) { frames := 1, cells := 0, slots := 0, locals := 23 } (va_Pc [.ref (a 0), .int p1, .int p2] (mP D a cI cZ I F sz)) (va_Qi (fun r (u : SI × SF) => Post r u.1 u.2) (fun u t => va_P D vwCl (mw a cI cZ u.1 u.2) t.heap) (xA 26 a sz)) 0 0 (xA 26 a sz) := by
  refine Met.ofW (cc := b_MM_cell) (maxL := 4) (ret := (some .int)) (by decide) rfl ?_
  intro p e s m args below meth c s₁ B hml hv
  obtain ⟨rfl, rfl, hP, hK⟩ := hv
  have hx := B.exec
  have hb := B.bytes
  have hr := B.returns
  have hts : ∀ w ∈ TB, w.before _ s = true := fun w h => atoms_spec (ws := Cond.code y_MM_cell b_MM_cell 4 (some .int) :: TB) B.pre w (List.mem_cons_of_mem _ h)
  have hown : s.vm.findClass "CodeJudgeModel" = some m.cls := findClass_of_methodNamed B.named
  have hlocks := B.notSynchronized
  have hl := lv_entry ([.ref (a 0), .int p1, .int p2]) (n := 4) (Nat.le_of_ble_eq_true rfl)
  rw [lg_entry_eq]
  generalize (lg_sl ([.ref (a 0), .int p1, .int p2]) ++ List.replicate (4 - (lg_sl ([.ref (a 0), .int p1, .int p2])).length) Slot.unset).toArray = ls at hl ⊢
  have hl : lv_has ls 4 [(0, .ref (a 0)), (1, .int p1), (2, .int p2)] := hl
  obtain ⟨Q, hQ⟩ : ∃ Q, Q = MQ below (va_Qi (fun r (u : SI × SF) => Post r u.1 u.2) (fun u t => va_P D vwCl (mw a cI cZ u.1 u.2) t.heap) (xA 26 a s.heap.size)) ([.ref (a 0), .int p1, .int p2]).toArray s 0 0 (xA 26 a s.heap.size) := ⟨_, rfl⟩
  rw [← hQ]
  have J49 : ∀ (x1 : Int32) (x2 : Int32) (s0 : Int32) (I : SI) (F : SF) (H : Heap) (locs : List Loc) (ls : Array Slot), lv_has ls 4 [(0, .ref (a 0)), (1, .int x1), (2, .int x2)] → va_P D vwCl (mw a cI cZ I F) H → va_S (xA 26 a s.heap.size) s.heap H locs → wp_MM_cell_49 Post x1 x2 s0 I F → W p l e (headSpec (Cond.code y_MM_cell b_MM_cell 4 (some .int) :: TB) { frames := 1, cells := 0, slots := 0, locals := 23 }).room s m ([.ref (a 0), .int p1, .int p2]).toArray below meth c H locs 0 0 Q (F0 m 49 ls [.int s0]) := by
    intro x1 x2 s0 I F H locs ls hl hP hS hw
    dsimp only [wp_MM_cell_49] at hw
    refine lv_istore_n (lv' := [(3, .int s0), (0, .ref (a 0)), (1, .int x1), (2, .int x2)]) hx hb dMM_cell_49 rfl hl (by decide) rfl (fun ls hl => ?_)
    refine lv_aload_n hx hb dMM_cell_50 rfl (lv_at hl 1 rfl) ?_
    refine lv_iload_n hx hb dMM_cell_51 rfl (lv_at hl 0 rfl) ?_
    refine lv_iconst (v := 1) hx hb dMM_cell_52 (by decide) ?_
    refine lv_iconst (v := 1) hx hb dMM_cell_53 (by decide) ?_
    obtain ⟨P3, hc3, hw⟩ := hw
    refine mc_i (va_runV (As := [.int s0, .int 1, .int 1]) (rest := []) ⟨hx, hb, hml, hown, hts⟩ (c_MM_goes l D a cI cZ hJ I F s0 1 1 H.size P3 hc3) (cwV 3 hts (tb_V (C := "CodeJudgeModel") wc_MM_goes tw_4_188 tw_4_190 tw_0_21 tw_1_9) rfl rfl rfl (by decide +kernel) ⟨Nat.le_of_ble_eq_true rfl, Nat.le_of_ble_eq_true rfl⟩) ⟨mP_bl, va_recv hK hP rfl mw_0, mP_at hP hK⟩ rfl rfl hl.1 rfl (lv_room (Nat.le_of_ble_eq_true rfl)) dMM_cell_54 ⟨Nat.le_of_ble_eq_true rfl, Nat.le_of_ble_eq_true rfl⟩) hS (fun r3 I3 F3 H locs hP hp3 hS => ?_)
    have hw := hw r3 I3 F3 hp3
    refine lv_if_ne (tgt := 62) hx hb dMM_cell_57 (by decide) (fun h4 => ?_) (fun h4 => ?_)
    · have hw := hw.1 h4
      refine lv_iload_n hx hb dMM_cell_62 rfl (lv_at hl 3 rfl) ?_
      refine lv_iconst (v := (-1)) hx hb dMM_cell_63 (by decide) ?_
      refine lv_icmp_ne (tgt := 76) hx hb dMM_cell_64 (by decide) (fun h5 => ?_) (fun h5 => ?_)
      · have hw := hw.1 h5
        refine lv_aload_n hx hb dMM_cell_76 rfl (lv_at hl 1 rfl) ?_
        refine va_get (D := D) (v := .ref (a 24)) (ci := 8) (C := "CodeJudgeModel") (T := T_MM) (N := 37) hx hb hts in_MM hown hK hP 0 mw_0 rfl 34 (by decide) (hts (.fieldLink "CodeJudgeModel" 80 "CodeJudgeModel" "memory" "[I") tw_4_99) (fun _ h9 => h9) rfl dMM_cell_77 ?_
        refine lv_aload_n hx hb dMM_cell_80 rfl (lv_at hl 1 rfl) ?_
        refine va_get (D := D) (v := .ref (a 22)) (ci := 8) (C := "CodeJudgeModel") (T := T_MM) (N := 37) hx hb hts in_MM hown hK hP 0 mw_0 rfl 32 (by decide) (hts (.fieldLink "CodeJudgeModel" 74 "CodeJudgeModel" "begins" "[I") tw_4_97) (fun _ h9 => h9) rfl dMM_cell_81 ?_
        refine lv_iload_n hx hb dMM_cell_84 rfl (lv_at hl 2 rfl) ?_
        obtain ⟨h6, hw⟩ := hw
        refine va_iald hx hb hK hP 22 0 mw_22 rfl h6 dMM_cell_85 ?_
        refine lv_iload_n hx hb dMM_cell_86 rfl (lv_at hl 3 rfl) ?_
        refine lv_iadd hx hb dMM_cell_87 ?_
        obtain ⟨h7, hw⟩ := hw
        refine va_iald hx hb hK hP 24 0 mw_24 rfl h7 dMM_cell_88 ?_
        rw [hQ]
        exact W.iret (v := ((F3 24) (((F3 22) x1.toNatClampNeg) + x2 : Int32).toNatClampNeg)) hx hb hr (fun t ht hW => ⟨⟨((F3 24) (((F3 22) x1.toNatClampNeg) + x2 : Int32).toNatClampNeg), (I3, F3), rfl, hw, by subst ht; exact hP⟩, hS.F ht⟩) hS.2.2 dMM_cell_89
      · have hw := hw.2 h5
        refine lv_aload_n hx hb dMM_cell_67 rfl (lv_at hl 1 rfl) ?_
        refine va_get (D := D) (v := .ref (a 23)) (ci := 8) (C := "CodeJudgeModel") (T := T_MM) (N := 37) hx hb hts in_MM hown hK hP 0 mw_0 rfl 33 (by decide) (hts (.fieldLink "CodeJudgeModel" 77 "CodeJudgeModel" "lengths" "[I") tw_4_98) (fun _ h9 => h9) rfl dMM_cell_68 ?_
        refine lv_iload_n hx hb dMM_cell_71 rfl (lv_at hl 2 rfl) ?_
        obtain ⟨h8, hw⟩ := hw
        refine va_iald hx hb hK hP 23 0 mw_23 rfl h8 dMM_cell_72 ?_
        refine lv_goto (tgt := 89) hx hb dMM_cell_73 (by decide) ?_
        rw [hQ]
        exact W.iret (v := ((F3 23) x1.toNatClampNeg)) hx hb hr (fun t ht hW => ⟨⟨((F3 23) x1.toNatClampNeg), (I3, F3), rfl, hw, by subst ht; exact hP⟩, hS.F ht⟩) hS.2.2 dMM_cell_89
    · have hw := hw.2 h4
      refine lv_iconst (v := 0) hx hb dMM_cell_60 (by decide) ?_
      rw [hQ]
      exact W.iret (v := 0) hx hb hr (fun t ht hW => ⟨⟨0, (I3, F3), rfl, hw, by subst ht; exact hP⟩, hS.F ht⟩) hS.2.2 dMM_cell_61
  have J48 : ∀ (x1 : Int32) (x2 : Int32) (I : SI) (F : SF) (H : Heap) (locs : List Loc) (ls : Array Slot), lv_has ls 4 [(0, .ref (a 0)), (1, .int x1), (2, .int x2)] → va_P D vwCl (mw a cI cZ I F) H → va_S (xA 26 a s.heap.size) s.heap H locs → wp_MM_cell_48 Post x1 x2 I F → W p l e (headSpec (Cond.code y_MM_cell b_MM_cell 4 (some .int) :: TB) { frames := 1, cells := 0, slots := 0, locals := 23 }).room s m ([.ref (a 0), .int p1, .int p2]).toArray below meth c H locs 0 0 Q (F0 m 48 ls []) := by
    intro x1 x2 I F H locs ls hl hP hS hw
    dsimp only [wp_MM_cell_48] at hw
    refine lv_iconst (v := 0) hx hb dMM_cell_48 (by decide) ?_
    exact J49 x1 x2 0 I F H locs ls (lv_sub hl [0, 1, 2] rfl) hP hS hw
  have J24 : ∀ (x1 : Int32) (x2 : Int32) (s0 : Int32) (I : SI) (F : SF) (H : Heap) (locs : List Loc) (ls : Array Slot), lv_has ls 4 [(0, .ref (a 0)), (1, .int x1), (2, .int x2)] → va_P D vwCl (mw a cI cZ I F) H → va_S (xA 26 a s.heap.size) s.heap H locs → wp_MM_cell_24 Post x1 x2 s0 I F → W p l e (headSpec (Cond.code y_MM_cell b_MM_cell 4 (some .int) :: TB) { frames := 1, cells := 0, slots := 0, locals := 23 }).room s m ([.ref (a 0), .int p1, .int p2]).toArray below meth c H locs 0 0 Q (F0 m 24 ls [.int s0]) := by
    intro x1 x2 s0 I F H locs ls hl hP hS hw
    dsimp only [wp_MM_cell_24] at hw
    refine lv_istore_n (lv' := [(3, .int s0), (0, .ref (a 0)), (1, .int x1), (2, .int x2)]) hx hb dMM_cell_24 rfl hl (by decide) rfl (fun ls hl => ?_)
    refine lv_iload_n hx hb dMM_cell_25 rfl (lv_at hl 0 rfl) ?_
    refine lv_if_eq (tgt := 48) hx hb dMM_cell_26 (by decide) (fun h2 => ?_) (fun h2 => ?_)
    · have hw := hw.1 h2
      exact J48 x1 x2 I F H locs ls (lv_sub hl [1, 2, 3] rfl) hP hS hw
    · have hw := hw.2 h2
      refine lv_iload_n hx hb dMM_cell_29 rfl (lv_at hl 3 rfl) ?_
      refine lv_iconst (v := (-1)) hx hb dMM_cell_30 (by decide) ?_
      refine lv_icmp_lt (tgt := 48) hx hb dMM_cell_31 (by decide) (fun h9 => ?_) (fun h9 => ?_)
      · have hw := hw.1 h9
        exact J48 x1 x2 I F H locs ls (lv_sub hl [1, 2, 3] rfl) hP hS hw
      · have hw := hw.2 h9
        refine lv_iload_n hx hb dMM_cell_34 rfl (lv_at hl 3 rfl) ?_
        refine lv_aload_n hx hb dMM_cell_35 rfl (lv_at hl 1 rfl) ?_
        refine va_get (D := D) (v := .ref (a 23)) (ci := 8) (C := "CodeJudgeModel") (T := T_MM) (N := 37) hx hb hts in_MM hown hK hP 0 mw_0 rfl 33 (by decide) (hts (.fieldLink "CodeJudgeModel" 77 "CodeJudgeModel" "lengths" "[I") tw_4_98) (fun _ h9 => h9) rfl dMM_cell_36 ?_
        refine lv_iload_n hx hb dMM_cell_39 rfl (lv_at hl 2 rfl) ?_
        obtain ⟨h10, hw⟩ := hw
        refine va_iald hx hb hK hP 23 0 mw_23 rfl h10 dMM_cell_40 ?_
        refine lv_icmp_ge (tgt := 48) hx hb dMM_cell_41 (by decide) (fun h11 => ?_) (fun h11 => ?_)
        · have hw := hw.1 h11
          exact J48 x1 x2 I F H locs ls (lv_sub hl [1, 2, 3] rfl) hP hS hw
        · have hw := hw.2 h11
          refine lv_iconst (v := 1) hx hb dMM_cell_44 (by decide) ?_
          refine lv_goto (tgt := 49) hx hb dMM_cell_45 (by decide) ?_
          exact J49 x1 x2 1 I F H locs ls (lv_sub hl [1, 2, 3] rfl) hP hS hw
  have J23 : ∀ (x1 : Int32) (x2 : Int32) (I : SI) (F : SF) (H : Heap) (locs : List Loc) (ls : Array Slot), lv_has ls 4 [(0, .ref (a 0)), (1, .int x1), (2, .int x2)] → va_P D vwCl (mw a cI cZ I F) H → va_S (xA 26 a s.heap.size) s.heap H locs → wp_MM_cell_23 Post x1 x2 I F → W p l e (headSpec (Cond.code y_MM_cell b_MM_cell 4 (some .int) :: TB) { frames := 1, cells := 0, slots := 0, locals := 23 }).room s m ([.ref (a 0), .int p1, .int p2]).toArray below meth c H locs 0 0 Q (F0 m 23 ls []) := by
    intro x1 x2 I F H locs ls hl hP hS hw
    dsimp only [wp_MM_cell_23] at hw
    refine lv_iconst (v := 0) hx hb dMM_cell_23 (by decide) ?_
    exact J24 x1 x2 0 I F H locs ls (lv_sub hl [0, 1, 2] rfl) hP hS hw
  suffices hM : ∀ (H : Heap) (locs : List Loc), va_P D vwCl (mw a cI cZ I F) H → va_S (xA 26 a s.heap.size) s.heap H locs → W p l e (headSpec (Cond.code y_MM_cell b_MM_cell 4 (some .int) :: TB) { frames := 1, cells := 0, slots := 0, locals := 23 }).room s m ([.ref (a 0), .int p1, .int p2]).toArray below meth c H locs 0 0 (Q) (F0 m 0 ls []) from hM s.heap [] hP va_S.rf
  clear hP
  intro H locs hP hS
  dsimp only [wp_MM_cell] at hw
  refine lv_aload_n hx hb dMM_cell_0 rfl (lv_at hl 0 rfl) ?_
  refine va_get (D := D) (v := .int (I 4)) (ci := 8) (C := "CodeJudgeModel") (T := T_MM) (N := 37) hx hb hts in_MM hown hK hP 0 mw_0 rfl 20 (by decide) (hts (.fieldLink "CodeJudgeModel" 98 "CodeJudgeModel" "isRun" "Z") tw_4_85) (fun _ h9 => h9) rfl dMM_cell_1 ?_
  refine lv_if_eq (tgt := 23) hx hb dMM_cell_4 (by decide) (fun h1 => ?_) (fun h1 => ?_)
  · have hw := hw.1 h1
    exact J23 p1 p2 I F H locs ls (lv_sub hl [0, 1, 2] rfl) hP hS hw
  · have hw := hw.2 h1
    refine lv_iload_n hx hb dMM_cell_7 rfl (lv_at hl 1 rfl) ?_
    refine lv_if_lt (tgt := 23) hx hb dMM_cell_8 (by decide) (fun h12 => ?_) (fun h12 => ?_)
    · have hw := hw.1 h12
      exact J23 p1 p2 I F H locs ls (lv_sub hl [0, 1, 2] rfl) hP hS hw
    · have hw := hw.2 h12
      refine lv_iload_n hx hb dMM_cell_11 rfl (lv_at hl 1 rfl) ?_
      refine lv_aload_n hx hb dMM_cell_12 rfl (lv_at hl 0 rfl) ?_
      refine va_get (D := D) (v := .int (I 9)) (ci := 8) (C := "CodeJudgeModel") (T := T_MM) (N := 37) hx hb hts in_MM hown hK hP 0 mw_0 rfl 30 (by decide) (hts (.fieldLink "CodeJudgeModel" 148 "CodeJudgeModel" "made" "I") tw_4_95) (fun _ h9 => h9) rfl dMM_cell_13 ?_
      refine lv_icmp_ge (tgt := 23) hx hb dMM_cell_16 (by decide) (fun h13 => ?_) (fun h13 => ?_)
      · have hw := hw.1 h13
        exact J23 p1 p2 I F H locs ls (lv_sub hl [0, 1, 2] rfl) hP hS hw
      · have hw := hw.2 h13
        refine lv_iconst (v := 1) hx hb dMM_cell_19 (by decide) ?_
        refine lv_goto (tgt := 24) hx hb dMM_cell_20 (by decide) ?_
        exact J24 p1 p2 1 I F H locs ls (lv_sub hl [0, 1, 2] rfl) hP hS hw
def wp_MM_count_99 (K21 : Int32 → Int32 → Int32 → SI → SF → Prop) (Post : Int32 → SI → SF → Prop) (x1 : Int32) (x3 : Int32) (s0 : Int32) (I : SI) (F : SF) : Prop := ∀ x10 : Int32, x10 = x3 + 1 → (K21 x1 s0 x10 I F)
def wp_MM_count_98 (K21 : Int32 → Int32 → Int32 → SI → SF → Prop) (Post : Int32 → SI → SF → Prop) (x1 : Int32) (x2 : Int32) (x3 : Int32) (I : SI) (F : SF) : Prop := wp_MM_count_99 K21 Post x1 x3 x2 I F
def wp_MM_count_69 (K21 : Int32 → Int32 → Int32 → SI → SF → Prop) (Post : Int32 → SI → SF → Prop) (x1 : Int32) (x3 : Int32) (s0 : Int32) (I : SI) (F : SF) : Prop := (¬ x1 = 2 → (wp_MM_count_98 K21 Post x1 s0 x3 I F)) ∧ (x1 = 2 → (vp_in x3 8 ∧ ((((F 1) x3.toNatClampNeg) = 0 → (wp_MM_count_98 K21 Post x1 s0 x3 I F)) ∧ (¬ ((F 1) x3.toNatClampNeg) = 0 → (∃ P13 : Int32 → SI → SF → Prop, wp_MM_judge x3 I F P13 ∧ ∀ r13 I13 F13, P13 r13 I13 F13 → ((r13 = 0 → (wp_MM_count_98 K21 Post x1 s0 x3 I13 F13)) ∧ (¬ r13 = 0 → (wp_MM_count_99 K21 Post x1 x3 (s0 + 1) I13 F13))))))))
def wp_MM_count_50 (K21 : Int32 → Int32 → Int32 → SI → SF → Prop) (Post : Int32 → SI → SF → Prop) (x1 : Int32) (x2 : Int32) (x3 : Int32) (s0 : Int32) (I : SI) (F : SF) : Prop := vp_in x3 8 ∧ ((((F 1) x3.toNatClampNeg) = 0 → (wp_MM_count_69 K21 Post x1 x3 x2 I F)) ∧ (¬ ((F 1) x3.toNatClampNeg) = 0 → (wp_MM_count_69 K21 Post x1 x3 (x2 + s0) I F)))
def wp_MM_count_21 (Post : Int32 → SI → SF → Prop) : Nat → Int32 → Int32 → Int32 → SI → SF → Prop
  | 0 => fun _ _ _ _ _ => False
  | n + 1 => fun x1 x2 x3 I F => (8 ≤ x3 → (Post x2 I F)) ∧ (¬ 8 ≤ x3 → ((¬ x1 = 0 → ((¬ x1 = 1 → (wp_MM_count_50 (wp_MM_count_21 Post n) Post x1 x2 x3 0 I F)) ∧ (x1 = 1 → (vp_in x3 8 ∧ (wp_MM_count_50 (wp_MM_count_21 Post n) Post x1 x2 x3 ((F 7) x3.toNatClampNeg) I F))))) ∧ (x1 = 0 → (wp_MM_count_50 (wp_MM_count_21 Post n) Post x1 x2 x3 1 I F))))
def wp_MM_count (p1 : Int32) (I : SI) (F : SF) (Post : Int32 → SI → SF → Prop) : Prop := ∃ P1 : Int32 → SI → SF → Prop, wp_MM_within p1 0 2 I F P1 ∧ ∀ r1 I1 F1, P1 r1 I1 F1 → (∃ P2 : Int32 → SI → SF → Prop, wp_MM_goes r1 1 1 I1 F1 P2 ∧ ∀ r2 I2 F2, P2 r2 I2 F2 → ((¬ r2 = 0 → (∃ q21, wp_MM_count_21 Post q21 p1 0 0 I2 F2)) ∧ (r2 = 0 → (Post 0 I2 F2))))
set_option maxHeartbeats 4000000 in
set_option maxRecDepth 100000 in
theorem c_MM_count (l : Launch) (D : va_G) (a : Nat → Nat) (cI cZ : ClassId) (hJ : xJ 26 a) (I : SI) (F : SF) (p1 : Int32) (sz : Nat) (Post : Int32 → SI → SF → Prop) (hw : wp_MM_count p1 I F Post) : Met l y_MM_count (Cond.code y_MM_count b_MM_count 5 (some .int) :: TB) { frames := 5, cells := 0, slots := 0, locals := 119 } (va_Pc [.ref (a 0), .int p1] (mP D a cI cZ I F sz)) (va_Qi (fun r (u : SI × SF) => Post r u.1 u.2) (fun u t => va_P D vwCl (mw a cI cZ u.1 u.2) t.heap) (xA 26 a sz)) 0 0 (xA 26 a sz) := by
  refine Met.ofW (cc := b_MM_count) (maxL := 5) (ret := (some .int)) (by decide) rfl ?_
  intro p e s m args below meth c s₁ B hml hv
  obtain ⟨rfl, rfl, hP, hK⟩ := hv
  have hx := B.exec
  have hb := B.bytes
  have hr := B.returns
  have hts : ∀ w ∈ TB, w.before _ s = true := fun w h => atoms_spec (ws := Cond.code y_MM_count b_MM_count 5 (some .int) :: TB) B.pre w (List.mem_cons_of_mem _ h)
  have hown : s.vm.findClass "CodeJudgeModel" = some m.cls := findClass_of_methodNamed B.named
  have hlocks := B.notSynchronized
  have hl := lv_entry ([.ref (a 0), .int p1]) (n := 5) (Nat.le_of_ble_eq_true rfl)
  rw [lg_entry_eq]
  generalize (lg_sl ([.ref (a 0), .int p1]) ++ List.replicate (5 - (lg_sl ([.ref (a 0), .int p1])).length) Slot.unset).toArray = ls at hl ⊢
  have hl : lv_has ls 5 [(0, .ref (a 0)), (1, .int p1)] := hl
  obtain ⟨Q, hQ⟩ : ∃ Q, Q = MQ below (va_Qi (fun r (u : SI × SF) => Post r u.1 u.2) (fun u t => va_P D vwCl (mw a cI cZ u.1 u.2) t.heap) (xA 26 a s.heap.size)) ([.ref (a 0), .int p1]).toArray s 0 0 (xA 26 a s.heap.size) := ⟨_, rfl⟩
  rw [← hQ]
  have J21 : ∀ n : Nat, ∀ (x1 : Int32) (x2 : Int32) (x3 : Int32) (I : SI) (F : SF) (H : Heap) (locs : List Loc) (ls : Array Slot), lv_has ls 5 [(0, .ref (a 0)), (1, .int x1), (2, .int x2), (3, .int x3)] → va_P D vwCl (mw a cI cZ I F) H → va_S (xA 26 a s.heap.size) s.heap H locs → wp_MM_count_21 Post n x1 x2 x3 I F → W p l e (headSpec (Cond.code y_MM_count b_MM_count 5 (some .int) :: TB) { frames := 5, cells := 0, slots := 0, locals := 119 }).room s m ([.ref (a 0), .int p1]).toArray below meth c H locs 0 0 Q (F0 m 21 ls []) := by
    intro n21
    induction n21 with
    | zero =>
      intro x1 x2 x3 I F H locs ls hl hP hS hw
      exact False.elim hw
    | succ n21 ih21 =>
      have J99 : ∀ (x1 : Int32) (x3 : Int32) (s0 : Int32) (I : SI) (F : SF) (H : Heap) (locs : List Loc) (ls : Array Slot), lv_has ls 5 [(0, .ref (a 0)), (1, .int x1), (3, .int x3)] → va_P D vwCl (mw a cI cZ I F) H → va_S (xA 26 a s.heap.size) s.heap H locs → wp_MM_count_99 (wp_MM_count_21 Post n21) Post x1 x3 s0 I F → W p l e (headSpec (Cond.code y_MM_count b_MM_count 5 (some .int) :: TB) { frames := 5, cells := 0, slots := 0, locals := 119 }).room s m ([.ref (a 0), .int p1]).toArray below meth c H locs 0 0 Q (F0 m 99 ls [.int s0]) := by
        intro x1 x3 s0 I F H locs ls hl hP hS hw
        dsimp only [wp_MM_count_99] at hw
        refine lv_istore_n (lv' := [(2, .int s0), (0, .ref (a 0)), (1, .int x1), (3, .int x3)]) hx hb dMM_count_99 rfl hl (by decide) rfl (fun ls hl => ?_)
        obtain ⟨x10, e_x10⟩ : ∃ z : Int32, z = x3 + 1 := ⟨_, rfl⟩
        have hw := hw x10 e_x10
        refine lv_iinc (k := 3) (v := x10) (lv' := [(3, .int x10), (2, .int s0), (0, .ref (a 0)), (1, .int x1)]) hx hb dMM_count_100 hl rfl (e_x10 ▸ (by first | rfl | decide)) (by decide) rfl (fun ls hl => ?_)
        refine lv_goto (tgt := 21) hx hb dMM_count_103 (by decide) ?_
        exact ih21 x1 s0 x10 I F H locs ls (lv_sub hl [2, 3, 1, 0] rfl) hP hS hw
      have J98 : ∀ (x1 : Int32) (x2 : Int32) (x3 : Int32) (I : SI) (F : SF) (H : Heap) (locs : List Loc) (ls : Array Slot), lv_has ls 5 [(0, .ref (a 0)), (1, .int x1), (2, .int x2), (3, .int x3)] → va_P D vwCl (mw a cI cZ I F) H → va_S (xA 26 a s.heap.size) s.heap H locs → wp_MM_count_98 (wp_MM_count_21 Post n21) Post x1 x2 x3 I F → W p l e (headSpec (Cond.code y_MM_count b_MM_count 5 (some .int) :: TB) { frames := 5, cells := 0, slots := 0, locals := 119 }).room s m ([.ref (a 0), .int p1]).toArray below meth c H locs 0 0 Q (F0 m 98 ls []) := by
        intro x1 x2 x3 I F H locs ls hl hP hS hw
        dsimp only [wp_MM_count_98] at hw
        refine lv_iload_n hx hb dMM_count_98 rfl (lv_at hl 2 rfl) ?_
        exact J99 x1 x3 x2 I F H locs ls (lv_sub hl [0, 1, 3] rfl) hP hS hw
      have J69 : ∀ (x1 : Int32) (x3 : Int32) (s0 : Int32) (I : SI) (F : SF) (H : Heap) (locs : List Loc) (ls : Array Slot), lv_has ls 5 [(0, .ref (a 0)), (1, .int x1), (3, .int x3)] → va_P D vwCl (mw a cI cZ I F) H → va_S (xA 26 a s.heap.size) s.heap H locs → wp_MM_count_69 (wp_MM_count_21 Post n21) Post x1 x3 s0 I F → W p l e (headSpec (Cond.code y_MM_count b_MM_count 5 (some .int) :: TB) { frames := 5, cells := 0, slots := 0, locals := 119 }).room s m ([.ref (a 0), .int p1]).toArray below meth c H locs 0 0 Q (F0 m 69 ls [.int s0]) := by
        intro x1 x3 s0 I F H locs ls hl hP hS hw
        dsimp only [wp_MM_count_69] at hw
        refine lv_istore_n (lv' := [(2, .int s0), (0, .ref (a 0)), (1, .int x1), (3, .int x3)]) hx hb dMM_count_69 rfl hl (by decide) rfl (fun ls hl => ?_)
        refine lv_iload_n hx hb dMM_count_70 rfl (lv_at hl 2 rfl) ?_
        refine lv_iconst (v := 2) hx hb dMM_count_71 (by decide) ?_
        refine lv_icmp_ne (tgt := 98) hx hb dMM_count_72 (by decide) (fun h9 => ?_) (fun h9 => ?_)
        · have hw := hw.1 h9
          exact J98 x1 s0 x3 I F H locs ls (lv_sub hl [1, 2, 0, 3] rfl) hP hS hw
        · have hw := hw.2 h9
          refine lv_aload_n hx hb dMM_count_75 rfl (lv_at hl 1 rfl) ?_
          refine va_get (D := D) (v := .ref (a 1)) (ci := 8) (C := "CodeJudgeModel") (T := T_MM) (N := 37) hx hb hts in_MM hown hK hP 0 mw_0 rfl 1 (by decide) (hts (.fieldLink "CodeJudgeModel" 7 "CodeJudgeModel" "there" "[Z") tw_4_67) (fun _ h9 => h9) rfl dMM_count_76 ?_
          refine lv_iload_n hx hb dMM_count_79 rfl (lv_at hl 3 rfl) ?_
          obtain ⟨h11, hw⟩ := hw
          refine va_zald hx hb hK hP 1 1 mw_1 rfl h11 dMM_count_80 ?_
          refine lv_if_eq (tgt := 98) hx hb dMM_count_81 (by decide) (fun h12 => ?_) (fun h12 => ?_)
          · have hw := hw.1 h12
            exact J98 x1 s0 x3 I F H locs ls (lv_sub hl [1, 2, 0, 3] rfl) hP hS hw
          · have hw := hw.2 h12
            refine lv_aload_n hx hb dMM_count_84 rfl (lv_at hl 1 rfl) ?_
            refine lv_iload_n hx hb dMM_count_85 rfl (lv_at hl 3 rfl) ?_
            obtain ⟨P13, hc13, hw⟩ := hw
            refine mc_i (va_runV (As := [.int x3]) (rest := []) ⟨hx, hb, hml, hown, hts⟩ (c_MM_judge l D a cI cZ hJ I F x3 H.size P13 hc13) (cwV 1 hts (tb_V (C := "CodeJudgeModel") wc_MM_judge tw_4_216 tw_4_218 tw_0_24 tw_1_9) rfl rfl rfl (by decide +kernel) ⟨Nat.le_of_ble_eq_true rfl, Nat.le_of_ble_eq_true rfl⟩) ⟨mP_bl, va_recv hK hP rfl mw_0, mP_at hP hK⟩ rfl rfl hl.1 rfl (lv_room (Nat.le_of_ble_eq_true rfl)) dMM_count_86 ⟨Nat.le_of_ble_eq_true rfl, Nat.le_of_ble_eq_true rfl⟩) hS (fun r13 I13 F13 H locs hP hp13 hS => ?_)
            have hw := hw r13 I13 F13 hp13
            refine lv_if_eq (tgt := 98) hx hb dMM_count_89 (by decide) (fun h14 => ?_) (fun h14 => ?_)
            · have hw := hw.1 h14
              exact J98 x1 s0 x3 I13 F13 H locs ls (lv_sub hl [1, 2, 0, 3] rfl) hP hS hw
            · have hw := hw.2 h14
              refine lv_iload_n hx hb dMM_count_92 rfl (lv_at hl 0 rfl) ?_
              refine lv_iconst (v := 1) hx hb dMM_count_93 (by decide) ?_
              refine lv_iadd hx hb dMM_count_94 ?_
              refine lv_goto (tgt := 99) hx hb dMM_count_95 (by decide) ?_
              exact J99 x1 x3 (s0 + 1) I13 F13 H locs ls (lv_sub hl [1, 2, 3] rfl) hP hS hw
      have J50 : ∀ (x1 : Int32) (x2 : Int32) (x3 : Int32) (s0 : Int32) (I : SI) (F : SF) (H : Heap) (locs : List Loc) (ls : Array Slot), lv_has ls 5 [(0, .ref (a 0)), (1, .int x1), (2, .int x2), (3, .int x3)] → va_P D vwCl (mw a cI cZ I F) H → va_S (xA 26 a s.heap.size) s.heap H locs → wp_MM_count_50 (wp_MM_count_21 Post n21) Post x1 x2 x3 s0 I F → W p l e (headSpec (Cond.code y_MM_count b_MM_count 5 (some .int) :: TB) { frames := 5, cells := 0, slots := 0, locals := 119 }).room s m ([.ref (a 0), .int p1]).toArray below meth c H locs 0 0 Q (F0 m 50 ls [.int s0]) := by
        intro x1 x2 x3 s0 I F H locs ls hl hP hS hw
        dsimp only [wp_MM_count_50] at hw
        refine lv_istore (lv' := [(4, .int s0), (0, .ref (a 0)), (1, .int x1), (2, .int x2), (3, .int x3)]) hx hb dMM_count_50 hl (by decide) rfl (fun ls hl => ?_)
        refine lv_aload_n hx hb dMM_count_52 rfl (lv_at hl 1 rfl) ?_
        refine va_get (D := D) (v := .ref (a 1)) (ci := 8) (C := "CodeJudgeModel") (T := T_MM) (N := 37) hx hb hts in_MM hown hK hP 0 mw_0 rfl 1 (by decide) (hts (.fieldLink "CodeJudgeModel" 7 "CodeJudgeModel" "there" "[Z") tw_4_67) (fun _ h9 => h9) rfl dMM_count_53 ?_
        refine lv_iload_n hx hb dMM_count_56 rfl (lv_at hl 4 rfl) ?_
        obtain ⟨h7, hw⟩ := hw
        refine va_zald hx hb hK hP 1 1 mw_1 rfl h7 dMM_count_57 ?_
        refine lv_if_eq (tgt := 68) hx hb dMM_count_58 (by decide) (fun h8 => ?_) (fun h8 => ?_)
        · have hw := hw.1 h8
          refine lv_iload_n hx hb dMM_count_68 rfl (lv_at hl 3 rfl) ?_
          exact J69 x1 x3 x2 I F H locs ls (lv_sub hl [1, 2, 4] rfl) hP hS hw
        · have hw := hw.2 h8
          refine lv_iload_n hx hb dMM_count_61 rfl (lv_at hl 3 rfl) ?_
          refine lv_iload hx hb dMM_count_62 (lv_at hl 0 rfl) ?_
          refine lv_iadd hx hb dMM_count_64 ?_
          refine lv_goto (tgt := 69) hx hb dMM_count_65 (by decide) ?_
          exact J69 x1 x3 (x2 + s0) I F H locs ls (lv_sub hl [1, 2, 4] rfl) hP hS hw
      intro x1 x2 x3 I F H locs ls hl hP hS hw
      dsimp only [wp_MM_count_21] at hw
      refine lv_iload_n hx hb dMM_count_21 rfl (lv_at hl 3 rfl) ?_
      refine lv_bipush (v := 8) hx hb dMM_count_22 (by decide) ?_
      refine lv_icmp_ge (tgt := 106) hx hb dMM_count_24 (by decide) (fun h4 => ?_) (fun h4 => ?_)
      · have hw := hw.1 h4
        refine lv_iload_n hx hb dMM_count_106 rfl (lv_at hl 2 rfl) ?_
        rw [hQ]
        exact W.iret (v := x2) hx hb hr (fun t ht hW => ⟨⟨x2, (I, F), rfl, hw, by subst ht; exact hP⟩, hS.F ht⟩) hS.2.2 dMM_count_107
      · have hw := hw.2 h4
        refine lv_iload_n hx hb dMM_count_27 rfl (lv_at hl 1 rfl) ?_
        refine lv_if_ne (tgt := 35) hx hb dMM_count_28 (by decide) (fun h5 => ?_) (fun h5 => ?_)
        · have hw := hw.1 h5
          refine lv_iload_n hx hb dMM_count_35 rfl (lv_at hl 1 rfl) ?_
          refine lv_iconst (v := 1) hx hb dMM_count_36 (by decide) ?_
          refine lv_icmp_ne (tgt := 49) hx hb dMM_count_37 (by decide) (fun h6 => ?_) (fun h6 => ?_)
          · have hw := hw.1 h6
            refine lv_iconst (v := 0) hx hb dMM_count_49 (by decide) ?_
            exact J50 x1 x2 x3 0 I F H locs ls (lv_sub hl [0, 1, 2, 3] rfl) hP hS hw
          · have hw := hw.2 h6
            refine lv_aload_n hx hb dMM_count_40 rfl (lv_at hl 0 rfl) ?_
            refine va_get (D := D) (v := .ref (a 7)) (ci := 8) (C := "CodeJudgeModel") (T := T_MM) (N := 37) hx hb hts in_MM hown hK hP 0 mw_0 rfl 7 (by decide) (hts (.fieldLink "CodeJudgeModel" 29 "CodeJudgeModel" "sizes" "[I") tw_4_73) (fun _ h9 => h9) rfl dMM_count_41 ?_
            refine lv_iload_n hx hb dMM_count_44 rfl (lv_at hl 3 rfl) ?_
            obtain ⟨h15, hw⟩ := hw
            refine va_iald hx hb hK hP 7 0 mw_7 rfl h15 dMM_count_45 ?_
            refine lv_goto (tgt := 50) hx hb dMM_count_46 (by decide) ?_
            exact J50 x1 x2 x3 ((F 7) x3.toNatClampNeg) I F H locs ls (lv_sub hl [0, 1, 2, 3] rfl) hP hS hw
        · have hw := hw.2 h5
          refine lv_iconst (v := 1) hx hb dMM_count_31 (by decide) ?_
          refine lv_goto (tgt := 50) hx hb dMM_count_32 (by decide) ?_
          exact J50 x1 x2 x3 1 I F H locs ls (lv_sub hl [0, 1, 2, 3] rfl) hP hS hw
  suffices hM : ∀ (H : Heap) (locs : List Loc), va_P D vwCl (mw a cI cZ I F) H → va_S (xA 26 a s.heap.size) s.heap H locs → W p l e (headSpec (Cond.code y_MM_count b_MM_count 5 (some .int) :: TB) { frames := 5, cells := 0, slots := 0, locals := 119 }).room s m ([.ref (a 0), .int p1]).toArray below meth c H locs 0 0 (Q) (F0 m 0 ls []) from hM s.heap [] hP va_S.rf
  clear hP
  intro H locs hP hS
  dsimp only [wp_MM_count] at hw
  refine lv_aload_n hx hb dMM_count_0 rfl (lv_at hl 0 rfl) ?_
  refine lv_iload_n hx hb dMM_count_1 rfl (lv_at hl 1 rfl) ?_
  refine lv_iconst (v := 0) hx hb dMM_count_2 (by decide) ?_
  refine lv_iconst (v := 2) hx hb dMM_count_3 (by decide) ?_
  obtain ⟨P1, hc1, hw⟩ := hw
  refine mc_i (va_runS (As := [.int p1, .int 0, .int 2]) (rest := [.ref (a 0)]) ⟨hx, hb, hml, hown, hts⟩ (c_MM_within l D a cI cZ hJ I F p1 0 2 H.size P1 hc1) (va_cwS 3 hts (tb_S wc_MM_within tw_4_185 tw_4_186 tw_1_9) rfl rfl rfl (by decide +kernel) ⟨Nat.le_of_ble_eq_true rfl, Nat.le_of_ble_eq_true rfl⟩) ⟨mP_bl, mP_at hP hK⟩ rfl rfl hl.1 rfl (lv_room (Nat.le_of_ble_eq_true rfl)) dMM_count_4 ⟨Nat.le_of_ble_eq_true rfl, Nat.le_of_ble_eq_true rfl⟩) hS (fun r1 I1 F1 H locs hP hp1 hS => ?_)
  have hw := hw r1 I1 F1 hp1
  refine lv_iconst (v := 1) hx hb dMM_count_7 (by decide) ?_
  refine lv_iconst (v := 1) hx hb dMM_count_8 (by decide) ?_
  obtain ⟨P2, hc2, hw⟩ := hw
  refine mc_i (va_runV (As := [.int r1, .int 1, .int 1]) (rest := []) ⟨hx, hb, hml, hown, hts⟩ (c_MM_goes l D a cI cZ hJ I1 F1 r1 1 1 H.size P2 hc2) (cwV 3 hts (tb_V (C := "CodeJudgeModel") wc_MM_goes tw_4_188 tw_4_190 tw_0_21 tw_1_9) rfl rfl rfl (by decide +kernel) ⟨Nat.le_of_ble_eq_true rfl, Nat.le_of_ble_eq_true rfl⟩) ⟨mP_bl, va_recv hK hP rfl mw_0, mP_at hP hK⟩ rfl rfl hl.1 rfl (lv_room (Nat.le_of_ble_eq_true rfl)) dMM_count_9 ⟨Nat.le_of_ble_eq_true rfl, Nat.le_of_ble_eq_true rfl⟩) hS (fun r2 I2 F2 H locs hP hp2 hS => ?_)
  have hw := hw r2 I2 F2 hp2
  refine lv_if_ne (tgt := 17) hx hb dMM_count_12 (by decide) (fun h3 => ?_) (fun h3 => ?_)
  · have hw := hw.1 h3
    refine lv_iconst (v := 0) hx hb dMM_count_17 (by decide) ?_
    refine lv_istore_n (lv' := [(2, .int 0), (0, .ref (a 0)), (1, .int p1)]) hx hb dMM_count_18 rfl hl (by decide) rfl (fun ls hl => ?_)
    refine lv_iconst (v := 0) hx hb dMM_count_19 (by decide) ?_
    refine lv_istore_n (lv' := [(3, .int 0), (2, .int 0), (0, .ref (a 0)), (1, .int p1)]) hx hb dMM_count_20 rfl hl (by decide) rfl (fun ls hl => ?_)
    obtain ⟨n21, hw⟩ := hw
    exact J21 n21 p1 0 0 I2 F2 H locs ls (lv_sub hl [2, 3, 1, 0] rfl) hP hS hw
  · have hw := hw.2 h3
    refine lv_iconst (v := 0) hx hb dMM_count_15 (by decide) ?_
    rw [hQ]
    exact W.iret (v := 0) hx hb hr (fun t ht hW => ⟨⟨0, (I2, F2), rfl, hw, by subst ht; exact hP⟩, hS.F ht⟩) hS.2.2 dMM_count_16
def wp_MM_drop (p1 : Int32) (I : SI) (F : SF) (Post : Int32 → SI → SF → Prop) : Prop := ∃ P1 : Int32 → SI → SF → Prop, wp_MM_isMethod p1 I F P1 ∧ ∀ r1 I1 F1, P1 r1 I1 F1 → (∃ P2 : Int32 → SI → SF → Prop, wp_MM_goes r1 1 1 I1 F1 P2 ∧ ∀ r2 I2 F2, P2 r2 I2 F2 → ((¬ r2 = 0 → (vp_in p1 8 ∧ (vp_in p1 8 ∧ (Post ((F2 7) p1.toNatClampNeg) (va_up I2 4 0) (va_up F2 1 (upd (F2 1) p1.toNatClampNeg (vp_nar .boolean 0))))))) ∧ (r2 = 0 → (Post 0 I2 F2))))
set_option maxHeartbeats 4000000 in
set_option maxRecDepth 100000 in
theorem c_MM_drop (l : Launch) (D : va_G) (a : Nat → Nat) (cI cZ : ClassId) (hJ : xJ 26 a) (I : SI) (F : SF) (p1 : Int32) (sz : Nat) (Post : Int32 → SI → SF → Prop) (hw : wp_MM_drop p1 I F Post) : Met l y_MM_drop (Cond.code y_MM_drop b_MM_drop 2 (some .int) :: TB) { frames := 1, cells := 0, slots := 0, locals := 23 } (va_Pc [.ref (a 0), .int p1] (mP D a cI cZ I F sz)) (va_Qi (fun r (u : SI × SF) => Post r u.1 u.2) (fun u t => va_P D vwCl (mw a cI cZ u.1 u.2) t.heap) (xA 26 a sz)) 0 0 (xA 26 a sz) := by
  refine Met.ofW (cc := b_MM_drop) (maxL := 2) (ret := (some .int)) (by decide) rfl ?_
  intro p e s m args below meth c s₁ B hml hv
  obtain ⟨rfl, rfl, hP, hK⟩ := hv
  have hx := B.exec
  have hb := B.bytes
  have hr := B.returns
  have hts : ∀ w ∈ TB, w.before _ s = true := fun w h => atoms_spec (ws := Cond.code y_MM_drop b_MM_drop 2 (some .int) :: TB) B.pre w (List.mem_cons_of_mem _ h)
  have hown : s.vm.findClass "CodeJudgeModel" = some m.cls := findClass_of_methodNamed B.named
  have hlocks := B.notSynchronized
  have hl := lv_entry ([.ref (a 0), .int p1]) (n := 2) (Nat.le_of_ble_eq_true rfl)
  rw [lg_entry_eq]
  generalize (lg_sl ([.ref (a 0), .int p1]) ++ List.replicate (2 - (lg_sl ([.ref (a 0), .int p1])).length) Slot.unset).toArray = ls at hl ⊢
  have hl : lv_has ls 2 [(0, .ref (a 0)), (1, .int p1)] := hl
  suffices hM : ∀ (H : Heap) (locs : List Loc), va_P D vwCl (mw a cI cZ I F) H → va_S (xA 26 a s.heap.size) s.heap H locs → W p l e (headSpec (Cond.code y_MM_drop b_MM_drop 2 (some .int) :: TB) { frames := 1, cells := 0, slots := 0, locals := 23 }).room s m ([.ref (a 0), .int p1]).toArray below meth c H locs 0 0 (MQ below (va_Qi (fun r (u : SI × SF) => Post r u.1 u.2) (fun u t => va_P D vwCl (mw a cI cZ u.1 u.2) t.heap) (xA 26 a s.heap.size)) ([.ref (a 0), .int p1]).toArray s 0 0 (xA 26 a s.heap.size)) (F0 m 0 ls []) from hM s.heap [] hP va_S.rf
  clear hP
  intro H locs hP hS
  dsimp only [wp_MM_drop] at hw
  refine lv_aload_n hx hb dMM_drop_0 rfl (lv_at hl 0 rfl) ?_
  refine lv_aload_n hx hb dMM_drop_1 rfl (lv_at hl 0 rfl) ?_
  refine lv_iload_n hx hb dMM_drop_2 rfl (lv_at hl 1 rfl) ?_
  obtain ⟨P1, hc1, hw⟩ := hw
  refine mc_i (va_runV (As := [.int p1]) (rest := [.ref (a 0)]) ⟨hx, hb, hml, hown, hts⟩ (c_MM_isMethod l D a cI cZ hJ I F p1 H.size P1 hc1) (cwV 1 hts (tb_V (C := "CodeJudgeModel") wc_MM_isMethod tw_4_196 tw_4_198 tw_0_22 tw_1_9) rfl rfl rfl (by decide +kernel) ⟨Nat.le_of_ble_eq_true rfl, Nat.le_of_ble_eq_true rfl⟩) ⟨mP_bl, va_recv hK hP rfl mw_0, mP_at hP hK⟩ rfl rfl hl.1 rfl (lv_room (Nat.le_of_ble_eq_true rfl)) dMM_drop_3 ⟨Nat.le_of_ble_eq_true rfl, Nat.le_of_ble_eq_true rfl⟩) hS (fun r1 I1 F1 H locs hP hp1 hS => ?_)
  have hw := hw r1 I1 F1 hp1
  refine lv_iconst (v := 1) hx hb dMM_drop_6 (by decide) ?_
  refine lv_iconst (v := 1) hx hb dMM_drop_7 (by decide) ?_
  obtain ⟨P2, hc2, hw⟩ := hw
  refine mc_i (va_runV (As := [.int r1, .int 1, .int 1]) (rest := []) ⟨hx, hb, hml, hown, hts⟩ (c_MM_goes l D a cI cZ hJ I1 F1 r1 1 1 H.size P2 hc2) (cwV 3 hts (tb_V (C := "CodeJudgeModel") wc_MM_goes tw_4_188 tw_4_190 tw_0_21 tw_1_9) rfl rfl rfl (by decide +kernel) ⟨Nat.le_of_ble_eq_true rfl, Nat.le_of_ble_eq_true rfl⟩) ⟨mP_bl, va_recv hK hP rfl mw_0, mP_at hP hK⟩ rfl rfl hl.1 rfl (lv_room (Nat.le_of_ble_eq_true rfl)) dMM_drop_8 ⟨Nat.le_of_ble_eq_true rfl, Nat.le_of_ble_eq_true rfl⟩) hS (fun r2 I2 F2 H locs hP hp2 hS => ?_)
  have hw := hw r2 I2 F2 hp2
  refine lv_if_ne (tgt := 16) hx hb dMM_drop_11 (by decide) (fun h3 => ?_) (fun h3 => ?_)
  · have hw := hw.1 h3
    refine lv_aload_n hx hb dMM_drop_16 rfl (lv_at hl 0 rfl) ?_
    refine va_get (D := D) (v := .ref (a 1)) (ci := 8) (C := "CodeJudgeModel") (T := T_MM) (N := 37) hx hb hts in_MM hown hK hP 0 mw_0 rfl 1 (by decide) (hts (.fieldLink "CodeJudgeModel" 7 "CodeJudgeModel" "there" "[Z") tw_4_67) (fun _ h9 => h9) rfl dMM_drop_17 ?_
    refine lv_iload_n hx hb dMM_drop_20 rfl (lv_at hl 1 rfl) ?_
    refine lv_iconst (v := 0) hx hb dMM_drop_21 (by decide) ?_
    obtain ⟨h4, hw⟩ := hw
    refine va_zast hx hb hK hP (mD hJ) hS 1 1 mw_1 rfl h4 dMM_drop_22 (fun H locs hP _ hS => ?_)
    have hP := mwa_1 hP
    refine lv_aload_n hx hb dMM_drop_23 rfl (lv_at hl 0 rfl) ?_
    refine lv_iconst (v := 0) hx hb dMM_drop_24 (by decide) ?_
    refine va_put (D := D) (ci := 8) (v := .int 0) (ty := .boolean) (C := "CodeJudgeModel") (T := T_MM) (N := 37) hx hb hts in_MM ty_MM ok_MM nm_MM hown hK hP (mD hJ) hS 0 mw_0 rfl 20 (by decide) (hts (.fieldLink "CodeJudgeModel" 98 "CodeJudgeModel" "isRun" "Z") tw_4_85) (fun _ h9 => h9) rfl (by decide +kernel) rfl rfl (Nat.le_of_ble_eq_true rfl) dMM_drop_25 (fun H locs hP _ hS => ?_)
    have hP := mwp_4 hP
    refine lv_aload_n hx hb dMM_drop_28 rfl (lv_at hl 0 rfl) ?_
    refine va_get (D := D) (v := .ref (a 7)) (ci := 8) (C := "CodeJudgeModel") (T := T_MM) (N := 37) hx hb hts in_MM hown hK hP 0 mw_0 rfl 7 (by decide) (hts (.fieldLink "CodeJudgeModel" 29 "CodeJudgeModel" "sizes" "[I") tw_4_73) (fun _ h9 => h9) rfl dMM_drop_29 ?_
    refine lv_iload_n hx hb dMM_drop_32 rfl (lv_at hl 1 rfl) ?_
    obtain ⟨h5, hw⟩ := hw
    refine va_iald hx hb hK hP 7 0 mw_7 rfl h5 dMM_drop_33 ?_
    exact W.iret (v := ((F2 7) p1.toNatClampNeg)) hx hb hr (fun t ht hW => ⟨⟨((F2 7) p1.toNatClampNeg), ((va_up I2 4 0), (va_up F2 1 (upd (F2 1) p1.toNatClampNeg (vp_nar .boolean 0)))), rfl, hw, by subst ht; exact hP⟩, hS.F ht⟩) hS.2.2 dMM_drop_34
  · have hw := hw.2 h3
    refine lv_iconst (v := 0) hx hb dMM_drop_14 (by decide) ?_
    exact W.iret (v := 0) hx hb hr (fun t ht hW => ⟨⟨0, (I2, F2), rfl, hw, by subst ht; exact hP⟩, hS.F ht⟩) hS.2.2 dMM_drop_15
def wp_MM_good (p1 : Int32) (I : SI) (F : SF) (Post : Int32 → SI → SF → Prop) : Prop := ∃ P1 : Int32 → SI → SF → Prop, wp_MM_isMethod p1 I F P1 ∧ ∀ r1 I1 F1, P1 r1 I1 F1 → (∃ P2 : Int32 → SI → SF → Prop, wp_MM_goes r1 1 1 I1 F1 P2 ∧ ∀ r2 I2 F2, P2 r2 I2 F2 → ((r2 = 0 → (Post 0 I2 F2)) ∧ (¬ r2 = 0 → (∃ P4 : Int32 → SI → SF → Prop, wp_MM_judge p1 I2 F2 P4 ∧ ∀ r4 I4 F4, P4 r4 I4 F4 → ((r4 = 0 → (Post 0 I4 F4)) ∧ (¬ r4 = 0 → (Post 1 I4 F4)))))))
set_option maxHeartbeats 4000000 in
set_option maxRecDepth 100000 in
theorem c_MM_good (l : Launch) (D : va_G) (a : Nat → Nat) (cI cZ : ClassId) (hJ : xJ 26 a) (I : SI) (F : SF) (p1 : Int32) (sz : Nat) (Post : Int32 → SI → SF → Prop) (hw : wp_MM_good p1 I F Post) : Met l y_MM_good (Cond.code y_MM_good b_MM_good 2 (some .boolean) :: TB) { frames := 5, cells := 0, slots := 0, locals := 119 } (va_Pc [.ref (a 0), .int p1] (mP D a cI cZ I F sz)) (va_Qi (fun r (u : SI × SF) => Post r u.1 u.2) (fun u t => va_P D vwCl (mw a cI cZ u.1 u.2) t.heap) (xA 26 a sz)) 0 0 (xA 26 a sz) := by
  refine Met.ofW (cc := b_MM_good) (maxL := 2) (ret := (some .boolean)) (by decide) rfl ?_
  intro p e s m args below meth c s₁ B hml hv
  obtain ⟨rfl, rfl, hP, hK⟩ := hv
  have hx := B.exec
  have hb := B.bytes
  have hr := B.returns
  have hts : ∀ w ∈ TB, w.before _ s = true := fun w h => atoms_spec (ws := Cond.code y_MM_good b_MM_good 2 (some .boolean) :: TB) B.pre w (List.mem_cons_of_mem _ h)
  have hown : s.vm.findClass "CodeJudgeModel" = some m.cls := findClass_of_methodNamed B.named
  have hlocks := B.notSynchronized
  have hl := lv_entry ([.ref (a 0), .int p1]) (n := 2) (Nat.le_of_ble_eq_true rfl)
  rw [lg_entry_eq]
  generalize (lg_sl ([.ref (a 0), .int p1]) ++ List.replicate (2 - (lg_sl ([.ref (a 0), .int p1])).length) Slot.unset).toArray = ls at hl ⊢
  have hl : lv_has ls 2 [(0, .ref (a 0)), (1, .int p1)] := hl
  suffices hM : ∀ (H : Heap) (locs : List Loc), va_P D vwCl (mw a cI cZ I F) H → va_S (xA 26 a s.heap.size) s.heap H locs → W p l e (headSpec (Cond.code y_MM_good b_MM_good 2 (some .boolean) :: TB) { frames := 5, cells := 0, slots := 0, locals := 119 }).room s m ([.ref (a 0), .int p1]).toArray below meth c H locs 0 0 (MQ below (va_Qi (fun r (u : SI × SF) => Post r u.1 u.2) (fun u t => va_P D vwCl (mw a cI cZ u.1 u.2) t.heap) (xA 26 a s.heap.size)) ([.ref (a 0), .int p1]).toArray s 0 0 (xA 26 a s.heap.size)) (F0 m 0 ls []) from hM s.heap [] hP va_S.rf
  clear hP
  intro H locs hP hS
  dsimp only [wp_MM_good] at hw
  refine lv_aload_n hx hb dMM_good_0 rfl (lv_at hl 0 rfl) ?_
  refine lv_aload_n hx hb dMM_good_1 rfl (lv_at hl 0 rfl) ?_
  refine lv_iload_n hx hb dMM_good_2 rfl (lv_at hl 1 rfl) ?_
  obtain ⟨P1, hc1, hw⟩ := hw
  refine mc_i (va_runV (As := [.int p1]) (rest := [.ref (a 0)]) ⟨hx, hb, hml, hown, hts⟩ (c_MM_isMethod l D a cI cZ hJ I F p1 H.size P1 hc1) (cwV 1 hts (tb_V (C := "CodeJudgeModel") wc_MM_isMethod tw_4_196 tw_4_198 tw_0_22 tw_1_9) rfl rfl rfl (by decide +kernel) ⟨Nat.le_of_ble_eq_true rfl, Nat.le_of_ble_eq_true rfl⟩) ⟨mP_bl, va_recv hK hP rfl mw_0, mP_at hP hK⟩ rfl rfl hl.1 rfl (lv_room (Nat.le_of_ble_eq_true rfl)) dMM_good_3 ⟨Nat.le_of_ble_eq_true rfl, Nat.le_of_ble_eq_true rfl⟩) hS (fun r1 I1 F1 H locs hP hp1 hS => ?_)
  have hw := hw r1 I1 F1 hp1
  refine lv_iconst (v := 1) hx hb dMM_good_6 (by decide) ?_
  refine lv_iconst (v := 1) hx hb dMM_good_7 (by decide) ?_
  obtain ⟨P2, hc2, hw⟩ := hw
  refine mc_i (va_runV (As := [.int r1, .int 1, .int 1]) (rest := []) ⟨hx, hb, hml, hown, hts⟩ (c_MM_goes l D a cI cZ hJ I1 F1 r1 1 1 H.size P2 hc2) (cwV 3 hts (tb_V (C := "CodeJudgeModel") wc_MM_goes tw_4_188 tw_4_190 tw_0_21 tw_1_9) rfl rfl rfl (by decide +kernel) ⟨Nat.le_of_ble_eq_true rfl, Nat.le_of_ble_eq_true rfl⟩) ⟨mP_bl, va_recv hK hP rfl mw_0, mP_at hP hK⟩ rfl rfl hl.1 rfl (lv_room (Nat.le_of_ble_eq_true rfl)) dMM_good_8 ⟨Nat.le_of_ble_eq_true rfl, Nat.le_of_ble_eq_true rfl⟩) hS (fun r2 I2 F2 H locs hP hp2 hS => ?_)
  have hw := hw r2 I2 F2 hp2
  refine lv_if_eq (tgt := 26) hx hb dMM_good_11 (by decide) (fun h3 => ?_) (fun h3 => ?_)
  · have hw := hw.1 h3
    refine lv_iconst (v := 0) hx hb dMM_good_26 (by decide) ?_
    exact W.zret (v := 0) hx hb hr rfl (fun t ht hW => ⟨⟨0, (I2, F2), rfl, hw, by subst ht; exact hP⟩, hS.F ht⟩) hS.2.2 dMM_good_27
  · have hw := hw.2 h3
    refine lv_aload_n hx hb dMM_good_14 rfl (lv_at hl 0 rfl) ?_
    refine lv_iload_n hx hb dMM_good_15 rfl (lv_at hl 1 rfl) ?_
    obtain ⟨P4, hc4, hw⟩ := hw
    refine mc_i (va_runV (As := [.int p1]) (rest := []) ⟨hx, hb, hml, hown, hts⟩ (c_MM_judge l D a cI cZ hJ I2 F2 p1 H.size P4 hc4) (cwV 1 hts (tb_V (C := "CodeJudgeModel") wc_MM_judge tw_4_216 tw_4_218 tw_0_24 tw_1_9) rfl rfl rfl (by decide +kernel) ⟨Nat.le_of_ble_eq_true rfl, Nat.le_of_ble_eq_true rfl⟩) ⟨mP_bl, va_recv hK hP rfl mw_0, mP_at hP hK⟩ rfl rfl hl.1 rfl (lv_room (Nat.le_of_ble_eq_true rfl)) dMM_good_16 ⟨Nat.le_of_ble_eq_true rfl, Nat.le_of_ble_eq_true rfl⟩) hS (fun r4 I4 F4 H locs hP hp4 hS => ?_)
    have hw := hw r4 I4 F4 hp4
    refine lv_if_eq (tgt := 26) hx hb dMM_good_19 (by decide) (fun h5 => ?_) (fun h5 => ?_)
    · have hw := hw.1 h5
      refine lv_iconst (v := 0) hx hb dMM_good_26 (by decide) ?_
      exact W.zret (v := 0) hx hb hr rfl (fun t ht hW => ⟨⟨0, (I4, F4), rfl, hw, by subst ht; exact hP⟩, hS.F ht⟩) hS.2.2 dMM_good_27
    · have hw := hw.2 h5
      refine lv_iconst (v := 1) hx hb dMM_good_22 (by decide) ?_
      refine lv_goto (tgt := 27) hx hb dMM_good_23 (by decide) ?_
      exact W.zret (v := 1) hx hb hr rfl (fun t ht hW => ⟨⟨1, (I4, F4), rfl, hw, by subst ht; exact hP⟩, hS.F ht⟩) hS.2.2 dMM_good_27
