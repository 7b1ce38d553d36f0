def wp_MM_push (p1 : Int32) (I : SI) (F : SF) (Post : SI → SF → Prop) : Prop := vp_in (I 3) 32 ∧ (Post (va_up I 3 ((I 3) + 1)) (va_up F 14 (upd (F 14) (I 3 : Int32).toNatClampNeg p1)))
set_option maxHeartbeats 4000000 in
set_option maxRecDepth 100000 in
theorem c_MM_push (l : Launch) (D : va_G) (a : Nat → Nat) (cI cZ : ClassId) (hJ : xJ 26 a) (I : SI) (F : SF) (p1 : Int32) (sz : Nat) (Post : SI → SF → Prop) (hw : wp_MM_push p1 I F Post) : Met l y_MM_push (Cond.code y_MM_push b_MM_push 2 none :: TB) { frames := 0, cells := 0, slots := 0, locals := 0 } (va_Pc [.ref (a 0), .int p1] (mP D a cI cZ I F sz)) (va_Qv (fun (u : SI × SF) => Post u.1 u.2) (fun u t => va_P D vwCl (mw a cI cZ u.1 u.2) t.heap) (xA 26 a sz)) 0 0 (xA 26 a sz) := by
  refine Met.ofW (cc := b_MM_push) (maxL := 2) (ret := none) (by decide) rfl ?_
  intro p e s m args below meth c s₁ B hml hv
  obtain ⟨rfl, rfl, hP, hK⟩ := hv
  have hx := B.exec
  have hb := B.bytes
  have hr := B.returns
  have hts : ∀ w ∈ TB, w.before _ s = true := fun w h => atoms_spec (ws := Cond.code y_MM_push b_MM_push 2 none :: TB) B.pre w (List.mem_cons_of_mem _ h)
  have hown : s.vm.findClass "CodeJudgeModel" = some m.cls := findClass_of_methodNamed B.named
  have hlocks := B.notSynchronized
  have hl := lv_entry ([.ref (a 0), .int p1]) (n := 2) (Nat.le_of_ble_eq_true rfl)
  rw [lg_entry_eq]
  generalize (lg_sl ([.ref (a 0), .int p1]) ++ List.replicate (2 - (lg_sl ([.ref (a 0), .int p1])).length) Slot.unset).toArray = ls at hl ⊢
  have hl : lv_has ls 2 [(0, .ref (a 0)), (1, .int p1)] := hl
  suffices hM : ∀ (H : Heap) (locs : List Loc), va_P D vwCl (mw a cI cZ I F) H → va_S (xA 26 a s.heap.size) s.heap H locs → W p l e (headSpec (Cond.code y_MM_push b_MM_push 2 none :: TB) { frames := 0, cells := 0, slots := 0, locals := 0 }).room s m ([.ref (a 0), .int p1]).toArray below meth c H locs 0 0 (MQ below (va_Qv (fun (u : SI × SF) => Post u.1 u.2) (fun u t => va_P D vwCl (mw a cI cZ u.1 u.2) t.heap) (xA 26 a s.heap.size)) ([.ref (a 0), .int p1]).toArray s 0 0 (xA 26 a s.heap.size)) (F0 m 0 ls []) from hM s.heap [] hP va_S.rf
  clear hP
  intro H locs hP hS
  dsimp only [wp_MM_push] at hw
  refine lv_aload_n hx hb dMM_push_0 rfl (lv_at hl 0 rfl) ?_
  refine va_get (D := D) (v := .ref (a 14)) (ci := 8) (C := "CodeJudgeModel") (T := T_MM) (N := 37) hx hb hts in_MM hown hK hP 0 mw_0 rfl 17 (by decide) (hts (.fieldLink "CodeJudgeModel" 50 "CodeJudgeModel" "row" "[I") tw_4_82) (fun _ h9 => h9) rfl dMM_push_1 ?_
  refine lv_aload_n hx hb dMM_push_4 rfl (lv_at hl 0 rfl) ?_
  refine va_get (D := D) (v := .int (I 3)) (ci := 8) (C := "CodeJudgeModel") (T := T_MM) (N := 37) hx hb hts in_MM hown hK hP 0 mw_0 rfl 16 (by decide) (hts (.fieldLink "CodeJudgeModel" 110 "CodeJudgeModel" "high" "I") tw_4_81) (fun _ h9 => h9) rfl dMM_push_5 ?_
  refine lv_iload_n hx hb dMM_push_8 rfl (lv_at hl 1 rfl) ?_
  obtain ⟨h1, hw⟩ := hw
  refine va_iast hx hb hK hP (mD hJ) hS 14 0 mw_14 rfl h1 dMM_push_9 (fun H locs hP _ hS => ?_)
  have hP := mwa_14 hP
  refine lv_aload_n hx hb dMM_push_10 rfl (lv_at hl 0 rfl) ?_
  refine lv_dup hx hb dMM_push_11 rfl ?_
  refine va_get (D := D) (v := .int (I 3)) (ci := 8) (C := "CodeJudgeModel") (T := T_MM) (N := 37) hx hb hts in_MM hown hK hP 0 mw_0 rfl 16 (by decide) (hts (.fieldLink "CodeJudgeModel" 110 "CodeJudgeModel" "high" "I") tw_4_81) (fun _ h9 => h9) rfl dMM_push_12 ?_
  refine lv_iconst (v := 1) hx hb dMM_push_15 (by decide) ?_
  refine lv_iadd hx hb dMM_push_16 ?_
  refine va_put (D := D) (ci := 8) (v := .int ((I 3) + 1)) (ty := .int) (C := "CodeJudgeModel") (T := T_MM) (N := 37) hx hb hts in_MM ty_MM ok_MM nm_MM hown hK hP (mD hJ) hS 0 mw_0 rfl 16 (by decide) (hts (.fieldLink "CodeJudgeModel" 110 "CodeJudgeModel" "high" "I") tw_4_81) (fun _ h9 => h9) rfl (by decide +kernel) rfl rfl (Nat.le_of_ble_eq_true rfl) dMM_push_17 (fun H locs hP _ hS => ?_)
  have hP := mwp_3 hP
  exact W.vret hx hb hr (fun t ht hW => ⟨⟨((va_up I 3 ((I 3) + 1)), (va_up F 14 (upd (F 14) (I 3 : Int32).toNatClampNeg p1))), rfl, hw, by subst ht; exact hP⟩, hS.F ht⟩) hS.2.2 dMM_push_20
def wp_MM_pop_14 (Post : Int32 → SI → SF → Prop)  (I : SI) (F : SF) : Prop := Post 0 (va_up I 2 1) F
def wp_MM_pop_54 (Post : Int32 → SI → SF → Prop) (s0 : Int32) (I : SI) (F : SF) : Prop := bo s0 ∧ (vp_in (I 3) 32 ∧ (Post ((F 14) (I 3 : Int32).toNatClampNeg) (va_up I 2 s0) F))
def wp_MM_pop_53 (Post : Int32 → SI → SF → Prop)  (I : SI) (F : SF) : Prop := wp_MM_pop_54 Post 0 I F
def wp_MM_pop (p1 : Int32) (I : SI) (F : SF) (Post : Int32 → SI → SF → Prop) : Prop := ((I 3) = 0 → (wp_MM_pop_14 Post I F)) ∧ (¬ (I 3) = 0 → (((I 2) = 0 → ((p1 = 0 → (wp_MM_pop_53 Post (va_up I 3 ((I 3) - 1)) F)) ∧ (¬ p1 = 0 → (vp_in ((I 3) - 1) 32 ∧ ((((F 14) ((I 3) - 1 : Int32).toNatClampNeg) = p1 → (wp_MM_pop_53 Post (va_up I 3 ((I 3) - 1)) F)) ∧ (¬ ((F 14) ((I 3) - 1 : Int32).toNatClampNeg) = p1 → (wp_MM_pop_54 Post 1 (va_up I 3 ((I 3) - 1)) F))))))) ∧ (¬ (I 2) = 0 → (wp_MM_pop_14 Post I F))))
set_option maxHeartbeats 4000000 in
set_option maxRecDepth 100000 in
theorem c_MM_pop (l : Launch) (D : va_G) (a : Nat → Nat) (cI cZ : ClassId) (hJ : xJ 26 a) (I : SI) (F : SF) (p1 : Int32) (sz : Nat) (Post : Int32 → SI → SF → Prop) (hw : wp_MM_pop p1 I F Post) : Met l y_MM_pop (Cond.code y_MM_pop b_MM_pop 2 (some .int) :: TB) { frames := 0, cells := 0, slots := 0, locals := 0 } (va_Pc [.ref (a 0), .int p1] (mP D a cI cZ I F sz)) (va_Qi (fun r (u : SI × SF) => Post r u.1 u.2) (fun u t => va_P D vwCl (mw a cI cZ u.1 u.2) t.heap) (xA 26 a sz)) 0 0 (xA 26 a sz) := by
  refine Met.ofW (cc := b_MM_pop) (maxL := 2) (ret := (some .int)) (by decide) rfl ?_
  intro p e s m args below meth c s₁ B hml hv
  obtain ⟨rfl, rfl, hP, hK⟩ := hv
  have hx := B.exec
  have hb := B.bytes
  have hr := B.returns
  have hts : ∀ w ∈ TB, w.before _ s = true := fun w h => atoms_spec (ws := Cond.code y_MM_pop b_MM_pop 2 (some .int) :: TB) B.pre w (List.mem_cons_of_mem _ h)
  have hown : s.vm.findClass "CodeJudgeModel" = some m.cls := findClass_of_methodNamed B.named
  have hlocks := B.notSynchronized
  have hl := lv_entry ([.ref (a 0), .int p1]) (n := 2) (Nat.le_of_ble_eq_true rfl)
  rw [lg_entry_eq]
  generalize (lg_sl ([.ref (a 0), .int p1]) ++ List.replicate (2 - (lg_sl ([.ref (a 0), .int p1])).length) Slot.unset).toArray = ls at hl ⊢
  have hl : lv_has ls 2 [(0, .ref (a 0)), (1, .int p1)] := hl
  obtain ⟨Q, hQ⟩ : ∃ Q, Q = MQ below (va_Qi (fun r (u : SI × SF) => Post r u.1 u.2) (fun u t => va_P D vwCl (mw a cI cZ u.1 u.2) t.heap) (xA 26 a s.heap.size)) ([.ref (a 0), .int p1]).toArray s 0 0 (xA 26 a s.heap.size) := ⟨_, rfl⟩
  rw [← hQ]
  have J14 : ∀ (I : SI) (F : SF) (H : Heap) (locs : List Loc) (ls : Array Slot), lv_has ls 2 [(0, .ref (a 0))] → va_P D vwCl (mw a cI cZ I F) H → va_S (xA 26 a s.heap.size) s.heap H locs → wp_MM_pop_14 Post I F → W p l e (headSpec (Cond.code y_MM_pop b_MM_pop 2 (some .int) :: TB) { frames := 0, cells := 0, slots := 0, locals := 0 }).room s m ([.ref (a 0), .int p1]).toArray below meth c H locs 0 0 Q (F0 m 14 ls []) := by
    intro I F H locs ls hl hP hS hw
    dsimp only [wp_MM_pop_14] at hw
    refine lv_aload_n hx hb dMM_pop_14 rfl (lv_at hl 0 rfl) ?_
    refine lv_iconst (v := 1) hx hb dMM_pop_15 (by decide) ?_
    refine va_put (D := D) (ci := 8) (v := .int 1) (ty := .boolean) (C := "CodeJudgeModel") (T := T_MM) (N := 37) hx hb hts in_MM ty_MM ok_MM nm_MM hown hK hP (mD hJ) hS 0 mw_0 rfl 15 (by decide) (hts (.fieldLink "CodeJudgeModel" 113 "CodeJudgeModel" "fails" "Z") tw_4_80) (fun _ h9 => h9) rfl (by decide +kernel) rfl rfl (Nat.le_of_ble_eq_true rfl) dMM_pop_16 (fun H locs hP _ hS => ?_)
    have hP := mwp_2 hP
    refine lv_iconst (v := 0) hx hb dMM_pop_19 (by decide) ?_
    rw [hQ]
    exact W.iret (v := 0) hx hb hr (fun t ht hW => ⟨⟨0, ((va_up I 2 1), F), rfl, hw, by subst ht; exact hP⟩, hS.F ht⟩) hS.2.2 dMM_pop_20
  have J54 : ∀ (s0 : Int32) (I : SI) (F : SF) (H : Heap) (locs : List Loc) (ls : Array Slot), lv_has ls 2 [(0, .ref (a 0))] → va_P D vwCl (mw a cI cZ I F) H → va_S (xA 26 a s.heap.size) s.heap H locs → wp_MM_pop_54 Post s0 I F → W p l e (headSpec (Cond.code y_MM_pop b_MM_pop 2 (some .int) :: TB) { frames := 0, cells := 0, slots := 0, locals := 0 }).room s m ([.ref (a 0), .int p1]).toArray below meth c H locs 0 0 Q (F0 m 54 ls [.int s0, .ref (a 0)]) := by
    intro s0 I F H locs ls hl hP hS hw
    dsimp only [wp_MM_pop_54] at hw
    obtain ⟨h4, hw⟩ := hw
    refine va_put (D := D) (ci := 8) (v := .int s0) (ty := .boolean) (C := "CodeJudgeModel") (T := T_MM) (N := 37) hx hb hts in_MM ty_MM ok_MM nm_MM hown hK hP (mD hJ) hS 0 mw_0 rfl 15 (by decide) (hts (.fieldLink "CodeJudgeModel" 113 "CodeJudgeModel" "fails" "Z") tw_4_80) (fun _ h9 => h9) rfl (by decide +kernel) (bo_n h4) (bo_f h4) (Nat.le_of_ble_eq_true rfl) dMM_pop_54 (fun H locs hP _ hS => ?_)
    have hP := mwp_2 hP
    refine lv_aload_n hx hb dMM_pop_57 rfl (lv_at hl 0 rfl) ?_
    refine va_get (D := D) (v := .ref (a 14)) (ci := 8) (C := "CodeJudgeModel") (T := T_MM) (N := 37) hx hb hts in_MM hown hK hP 0 mw_0 rfl 17 (by decide) (hts (.fieldLink "CodeJudgeModel" 50 "CodeJudgeModel" "row" "[I") tw_4_82) (fun _ h9 => h9) rfl dMM_pop_58 ?_
    refine lv_aload_n hx hb dMM_pop_61 rfl (lv_at hl 0 rfl) ?_
    refine va_get (D := D) (v := .int (I 3)) (ci := 8) (C := "CodeJudgeModel") (T := T_MM) (N := 37) hx hb hts in_MM hown hK hP 0 mw_0 rfl 16 (by decide) (hts (.fieldLink "CodeJudgeModel" 110 "CodeJudgeModel" "high" "I") tw_4_81) (fun _ h9 => h9) rfl dMM_pop_62 ?_
    obtain ⟨h5, hw⟩ := hw
    refine va_iald hx hb hK hP 14 0 mw_14 rfl h5 dMM_pop_65 ?_
    rw [hQ]
    exact W.iret (v := ((F 14) (I 3 : Int32).toNatClampNeg)) hx hb hr (fun t ht hW => ⟨⟨((F 14) (I 3 : Int32).toNatClampNeg), ((va_up I 2 s0), F), rfl, hw, by subst ht; exact hP⟩, hS.F ht⟩) hS.2.2 dMM_pop_66
  have J53 : ∀ (I : SI) (F : SF) (H : Heap) (locs : List Loc) (ls : Array Slot), lv_has ls 2 [(0, .ref (a 0))] → va_P D vwCl (mw a cI cZ I F) H → va_S (xA 26 a s.heap.size) s.heap H locs → wp_MM_pop_53 Post I F → W p l e (headSpec (Cond.code y_MM_pop b_MM_pop 2 (some .int) :: TB) { frames := 0, cells := 0, slots := 0, locals := 0 }).room s m ([.ref (a 0), .int p1]).toArray below meth c H locs 0 0 Q (F0 m 53 ls [.ref (a 0)]) := by
    intro I F H locs ls hl hP hS hw
    dsimp only [wp_MM_pop_53] at hw
    refine lv_iconst (v := 0) hx hb dMM_pop_53 (by decide) ?_
    exact J54 0 I F H locs ls (lv_sub hl [0] rfl) hP hS hw
  suffices hM : ∀ (H : Heap) (locs : List Loc), va_P D vwCl (mw a cI cZ I F) H → va_S (xA 26 a s.heap.size) s.heap H locs → W p l e (headSpec (Cond.code y_MM_pop b_MM_pop 2 (some .int) :: TB) { frames := 0, cells := 0, slots := 0, locals := 0 }).room s m ([.ref (a 0), .int p1]).toArray below meth c H locs 0 0 (Q) (F0 m 0 ls []) from hM s.heap [] hP va_S.rf
  clear hP
  intro H locs hP hS
  dsimp only [wp_MM_pop] at hw
  refine lv_aload_n hx hb dMM_pop_0 rfl (lv_at hl 0 rfl) ?_
  refine va_get (D := D) (v := .int (I 3)) (ci := 8) (C := "CodeJudgeModel") (T := T_MM) (N := 37) hx hb hts in_MM hown hK hP 0 mw_0 rfl 16 (by decide) (hts (.fieldLink "CodeJudgeModel" 110 "CodeJudgeModel" "high" "I") tw_4_81) (fun _ h9 => h9) rfl dMM_pop_1 ?_
  refine lv_if_eq (tgt := 14) hx hb dMM_pop_4 (by decide) (fun h1 => ?_) (fun h1 => ?_)
  · have hw := hw.1 h1
    exact J14 I F H locs ls (lv_sub hl [0] rfl) hP hS hw
  · have hw := hw.2 h1
    refine lv_aload_n hx hb dMM_pop_7 rfl (lv_at hl 0 rfl) ?_
    refine va_get (D := D) (v := .int (I 2)) (ci := 8) (C := "CodeJudgeModel") (T := T_MM) (N := 37) hx hb hts in_MM hown hK hP 0 mw_0 rfl 15 (by decide) (hts (.fieldLink "CodeJudgeModel" 113 "CodeJudgeModel" "fails" "Z") tw_4_80) (fun _ h9 => h9) rfl dMM_pop_8 ?_
    refine lv_if_eq (tgt := 21) hx hb dMM_pop_11 (by decide) (fun h2 => ?_) (fun h2 => ?_)
    · have hw := hw.1 h2
      refine lv_aload_n hx hb dMM_pop_21 rfl (lv_at hl 0 rfl) ?_
      refine lv_dup hx hb dMM_pop_22 rfl ?_
      refine va_get (D := D) (v := .int (I 3)) (ci := 8) (C := "CodeJudgeModel") (T := T_MM) (N := 37) hx hb hts in_MM hown hK hP 0 mw_0 rfl 16 (by decide) (hts (.fieldLink "CodeJudgeModel" 110 "CodeJudgeModel" "high" "I") tw_4_81) (fun _ h9 => h9) rfl dMM_pop_23 ?_
      refine lv_iconst (v := 1) hx hb dMM_pop_26 (by decide) ?_
      refine lv_isub hx hb dMM_pop_27 ?_
      refine va_put (D := D) (ci := 8) (v := .int ((I 3) - 1)) (ty := .int) (C := "CodeJudgeModel") (T := T_MM) (N := 37) hx hb hts in_MM ty_MM ok_MM nm_MM hown hK hP (mD hJ) hS 0 mw_0 rfl 16 (by decide) (hts (.fieldLink "CodeJudgeModel" 110 "CodeJudgeModel" "high" "I") tw_4_81) (fun _ h9 => h9) rfl (by decide +kernel) rfl rfl (Nat.le_of_ble_eq_true rfl) dMM_pop_28 (fun H locs hP _ hS => ?_)
      have hP := mwp_3 hP
      refine lv_aload_n hx hb dMM_pop_31 rfl (lv_at hl 0 rfl) ?_
      refine lv_iload_n hx hb dMM_pop_32 rfl (lv_at hl 1 rfl) ?_
      refine lv_if_eq (tgt := 53) hx hb dMM_pop_33 (by decide) (fun h3 => ?_) (fun h3 => ?_)
      · have hw := hw.1 h3
        exact J53 (va_up I 3 ((I 3) - 1)) F H locs ls (lv_sub hl [0] rfl) hP hS hw
      · have hw := hw.2 h3
        refine lv_aload_n hx hb dMM_pop_36 rfl (lv_at hl 0 rfl) ?_
        refine va_get (D := D) (v := .ref (a 14)) (ci := 8) (C := "CodeJudgeModel") (T := T_MM) (N := 37) hx hb hts in_MM hown hK hP 0 mw_0 rfl 17 (by decide) (hts (.fieldLink "CodeJudgeModel" 50 "CodeJudgeModel" "row" "[I") tw_4_82) (fun _ h9 => h9) rfl dMM_pop_37 ?_
        refine lv_aload_n hx hb dMM_pop_40 rfl (lv_at hl 0 rfl) ?_
        refine va_get (D := D) (v := .int ((I 3) - 1)) (ci := 8) (C := "CodeJudgeModel") (T := T_MM) (N := 37) hx hb hts in_MM hown hK hP 0 mw_0 rfl 16 (by decide) (hts (.fieldLink "CodeJudgeModel" 110 "CodeJudgeModel" "high" "I") tw_4_81) (fun _ h9 => h9) rfl dMM_pop_41 ?_
        obtain ⟨h6, hw⟩ := hw
        refine va_iald hx hb hK hP 14 0 mw_14 rfl h6 dMM_pop_44 ?_
        refine lv_iload_n hx hb dMM_pop_45 rfl (lv_at hl 1 rfl) ?_
        refine lv_icmp_eq (tgt := 53) hx hb dMM_pop_46 (by decide) (fun h7 => ?_) (fun h7 => ?_)
        · have hw := hw.1 h7
          exact J53 (va_up I 3 ((I 3) - 1)) F H locs ls (lv_sub hl [0] rfl) hP hS hw
        · have hw := hw.2 h7
          refine lv_iconst (v := 1) hx hb dMM_pop_49 (by decide) ?_
          refine lv_goto (tgt := 54) hx hb dMM_pop_50 (by decide) ?_
          exact J54 1 (va_up I 3 ((I 3) - 1)) F H locs ls (lv_sub hl [0] rfl) hP hS hw
    · have hw := hw.2 h2
      exact J14 I F H locs ls (lv_sub hl [0] rfl) hP hS hw
def wp_MM_local_14 (Post : SI → SF → Prop)  (I : SI) (F : SF) : Prop := Post (va_up I 2 1) F
def wp_MM_local_50 (Post : SI → SF → Prop) (x3 : Int32) (s0 : Int32) (I : SI) (F : SF) : Prop := bo s0 ∧ (∃ P9 : SI → SF → Prop, wp_MM_push x3 (va_up I 2 s0) F P9 ∧ ∀ I9 F9, P9 I9 F9 → (Post I9 F9))
def wp_MM_local_45 (Post : SI → SF → Prop) (x3 : Int32) (I : SI) (F : SF) : Prop := wp_MM_local_50 Post x3 1 I F
def wp_MM_local (p1 : Int32) (p2 : Int32) (p3 : Int32) (p4 : Int32) (I : SI) (F : SF) (Post : SI → SF → Prop) : Prop := (p2 < 0 → (wp_MM_local_14 Post I F)) ∧ (¬ p2 < 0 → (vp_in p1 8 ∧ ((p2 < ((F 5) p1.toNatClampNeg) → ((p4 = 0 → (∃ P5 : Int32 → SI → SF → Prop, wp_MM_pop p3 I F P5 ∧ ∀ r5 I5 F5, P5 r5 I5 F5 → (vp_in p2 10 ∧ (Post I5 (va_up F5 15 (upd (F5 15) p2.toNatClampNeg p3)))))) ∧ (¬ p4 = 0 → ((¬ (I 2) = 0 → (wp_MM_local_45 Post p3 I F)) ∧ ((I 2) = 0 → (vp_in p2 10 ∧ ((((F 15) p2.toNatClampNeg) = p3 → (wp_MM_local_50 Post p3 0 I F)) ∧ (¬ ((F 15) p2.toNatClampNeg) = p3 → (wp_MM_local_45 Post p3 I F))))))))) ∧ (¬ p2 < ((F 5) p1.toNatClampNeg) → (wp_MM_local_14 Post I F)))))
set_option maxHeartbeats 4000000 in
set_option maxRecDepth 100000 in
theorem c_MM_local (l : Launch) (D : va_G) (a : Nat → Nat) (cI cZ : ClassId) (hJ : xJ 26 a) (I : SI) (F : SF) (p1 : Int32) (p2 : Int32) (p3 : Int32) (p4 : Int32) (sz : Nat) (Post : SI → SF → Prop) (hw : wp_MM_local p1 p2 p3 p4 I F Post) : Met l y_MM_local (Cond.code y_MM_local b_MM_local 6 none :: TB) { frames := 1, cells := 0, slots := 0, locals := 21 } (va_Pc [.ref (a 0), .int p1, .int p2, .int p3, .int p4] (mP D a cI cZ I F sz)) (va_Qv (fun (u : SI × SF) => Post u.1 u.2) (fun u t => va_P D vwCl (mw a cI cZ u.1 u.2) t.heap) (xA 26 a sz)) 0 0 (xA 26 a sz) := by
  refine Met.ofW (cc := b_MM_local) (maxL := 6) (ret := none) (by decide) rfl ?_
  intro p e s m args below meth c s₁ B hml hv
  obtain ⟨rfl, rfl, hP, hK⟩ := hv
  have hx := B.exec
  have hb := B.bytes
  have hr := B.returns
  have hts : ∀ w ∈ TB, w.before _ s = true := fun w h => atoms_spec (ws := Cond.code y_MM_local b_MM_local 6 none :: TB) B.pre w (List.mem_cons_of_mem _ h)
  have hown : s.vm.findClass "CodeJudgeModel" = some m.cls := findClass_of_methodNamed B.named
  have hlocks := B.notSynchronized
  have hl := lv_entry ([.ref (a 0), .int p1, .int p2, .int p3, .int p4]) (n := 6) (Nat.le_of_ble_eq_true rfl)
  rw [lg_entry_eq]
  generalize (lg_sl ([.ref (a 0), .int p1, .int p2, .int p3, .int p4]) ++ List.replicate (6 - (lg_sl ([.ref (a 0), .int p1, .int p2, .int p3, .int p4])).length) Slot.unset).toArray = ls at hl ⊢
  have hl : lv_has ls 6 [(0, .ref (a 0)), (1, .int p1), (2, .int p2), (3, .int p3), (4, .int p4)] := hl
  obtain ⟨Q, hQ⟩ : ∃ Q, Q = MQ below (va_Qv (fun (u : SI × SF) => Post u.1 u.2) (fun u t => va_P D vwCl (mw a cI cZ u.1 u.2) t.heap) (xA 26 a s.heap.size)) ([.ref (a 0), .int p1, .int p2, .int p3, .int p4]).toArray s 0 0 (xA 26 a s.heap.size) := ⟨_, rfl⟩
  rw [← hQ]
  have J14 : ∀ (I : SI) (F : SF) (H : Heap) (locs : List Loc) (ls : Array Slot), lv_has ls 6 [(0, .ref (a 0))] → va_P D vwCl (mw a cI cZ I F) H → va_S (xA 26 a s.heap.size) s.heap H locs → wp_MM_local_14 Post I F → W p l e (headSpec (Cond.code y_MM_local b_MM_local 6 none :: TB) { frames := 1, cells := 0, slots := 0, locals := 21 }).room s m ([.ref (a 0), .int p1, .int p2, .int p3, .int p4]).toArray below meth c H locs 0 0 Q (F0 m 14 ls []) := by
    intro I F H locs ls hl hP hS hw
    dsimp only [wp_MM_local_14] at hw
    refine lv_aload_n hx hb dMM_local_14 rfl (lv_at hl 0 rfl) ?_
    refine lv_iconst (v := 1) hx hb dMM_local_15 (by decide) ?_
    refine va_put (D := D) (ci := 8) (v := .int 1) (ty := .boolean) (C := "CodeJudgeModel") (T := T_MM) (N := 37) hx hb hts in_MM ty_MM ok_MM nm_MM hown hK hP (mD hJ) hS 0 mw_0 rfl 15 (by decide) (hts (.fieldLink "CodeJudgeModel" 113 "CodeJudgeModel" "fails" "Z") tw_4_80) (fun _ h9 => h9) rfl (by decide +kernel) rfl rfl (Nat.le_of_ble_eq_true rfl) dMM_local_16 (fun H locs hP _ hS => ?_)
    have hP := mwp_2 hP
    refine lv_goto (tgt := 75) hx hb dMM_local_19 (by decide) ?_
    rw [hQ]
    exact W.vret hx hb hr (fun t ht hW => ⟨⟨((va_up I 2 1), F), rfl, hw, by subst ht; exact hP⟩, hS.F ht⟩) hS.2.2 dMM_local_75
  have J50 : ∀ (x3 : Int32) (s0 : Int32) (I : SI) (F : SF) (H : Heap) (locs : List Loc) (ls : Array Slot), lv_has ls 6 [(0, .ref (a 0)), (3, .int x3)] → va_P D vwCl (mw a cI cZ I F) H → va_S (xA 26 a s.heap.size) s.heap H locs → wp_MM_local_50 Post x3 s0 I F → W p l e (headSpec (Cond.code y_MM_local b_MM_local 6 none :: TB) { frames := 1, cells := 0, slots := 0, locals := 21 }).room s m ([.ref (a 0), .int p1, .int p2, .int p3, .int p4]).toArray below meth c H locs 0 0 Q (F0 m 50 ls [.int s0, .ref (a 0)]) := by
    intro x3 s0 I F H locs ls hl hP hS hw
    dsimp only [wp_MM_local_50] at hw
    obtain ⟨h8, hw⟩ := hw
    refine va_put (D := D) (ci := 8) (v := .int s0) (ty := .boolean) (C := "CodeJudgeModel") (T := T_MM) (N := 37) hx hb hts in_MM ty_MM ok_MM nm_MM hown hK hP (mD hJ) hS 0 mw_0 rfl 15 (by decide) (hts (.fieldLink "CodeJudgeModel" 113 "CodeJudgeModel" "fails" "Z") tw_4_80) (fun _ h9 => h9) rfl (by decide +kernel) (bo_n h8) (bo_f h8) (Nat.le_of_ble_eq_true rfl) dMM_local_50 (fun H locs hP _ hS => ?_)
    have hP := mwp_2 hP
    refine lv_aload_n hx hb dMM_local_53 rfl (lv_at hl 0 rfl) ?_
    refine lv_iload_n hx hb dMM_local_54 rfl (lv_at hl 1 rfl) ?_
    obtain ⟨P9, hc9, hw⟩ := hw
    refine mc_v (va_runV (As := [.int x3]) (rest := []) ⟨hx, hb, hml, hown, hts⟩ (c_MM_push l D a cI cZ hJ (va_up I 2 s0) F x3 H.size P9 hc9) (cwV 1 hts (tb_V (C := "CodeJudgeModel") wc_MM_push tw_4_232 tw_4_234 tw_0_28 tw_1_9) rfl rfl rfl (by decide +kernel) ⟨Nat.le_of_ble_eq_true rfl, Nat.le_of_ble_eq_true rfl⟩) ⟨mP_bl, va_recv hK hP rfl mw_0, mP_at hP hK⟩ rfl rfl hl.1 rfl (lv_room (Nat.le_of_ble_eq_true rfl)) dMM_local_55 ⟨Nat.le_of_ble_eq_true rfl, Nat.le_of_ble_eq_true rfl⟩) hS (fun I9 F9 H locs hP hp9 hS => ?_)
    have hw := hw I9 F9 hp9
    refine lv_goto (tgt := 75) hx hb dMM_local_58 (by decide) ?_
    rw [hQ]
    exact W.vret hx hb hr (fun t ht hW => ⟨⟨(I9, F9), rfl, hw, by subst ht; exact hP⟩, hS.F ht⟩) hS.2.2 dMM_local_75
  have J45 : ∀ (x3 : Int32) (I : SI) (F : SF) (H : Heap) (locs : List Loc) (ls : Array Slot), lv_has ls 6 [(0, .ref (a 0)), (3, .int x3)] → va_P D vwCl (mw a cI cZ I F) H → va_S (xA 26 a s.heap.size) s.heap H locs → wp_MM_local_45 Post x3 I F → W p l e (headSpec (Cond.code y_MM_local b_MM_local 6 none :: TB) { frames := 1, cells := 0, slots := 0, locals := 21 }).room s m ([.ref (a 0), .int p1, .int p2, .int p3, .int p4]).toArray below meth c H locs 0 0 Q (F0 m 45 ls [.ref (a 0)]) := by
    intro x3 I F H locs ls hl hP hS hw
    dsimp only [wp_MM_local_45] at hw
    refine lv_iconst (v := 1) hx hb dMM_local_45 (by decide) ?_
    refine lv_goto (tgt := 50) hx hb dMM_local_46 (by decide) ?_
    exact J50 x3 1 I F H locs ls (lv_sub hl [0, 1] rfl) hP hS hw
  suffices hM : ∀ (H : Heap) (locs : List Loc), va_P D vwCl (mw a cI cZ I F) H → va_S (xA 26 a s.heap.size) s.heap H locs → W p l e (headSpec (Cond.code y_MM_local b_MM_local 6 none :: TB) { frames := 1, cells := 0, slots := 0, locals := 21 }).room s m ([.ref (a 0), .int p1, .int p2, .int p3, .int p4]).toArray below meth c H locs 0 0 (Q) (F0 m 0 ls []) from hM s.heap [] hP va_S.rf
  clear hP
  intro H locs hP hS
  dsimp only [wp_MM_local] at hw
  refine lv_iload_n hx hb dMM_local_0 rfl (lv_at hl 2 rfl) ?_
  refine lv_if_lt (tgt := 14) hx hb dMM_local_1 (by decide) (fun h1 => ?_) (fun h1 => ?_)
  · have hw := hw.1 h1
    exact J14 I F H locs ls (lv_sub hl [0] rfl) hP hS hw
  · have hw := hw.2 h1
    refine lv_iload_n hx hb dMM_local_4 rfl (lv_at hl 2 rfl) ?_
    refine lv_aload_n hx hb dMM_local_5 rfl (lv_at hl 0 rfl) ?_
    refine va_get (D := D) (v := .ref (a 5)) (ci := 8) (C := "CodeJudgeModel") (T := T_MM) (N := 37) hx hb hts in_MM hown hK hP 0 mw_0 rfl 5 (by decide) (hts (.fieldLink "CodeJudgeModel" 23 "CodeJudgeModel" "locals" "[I") tw_4_71) (fun _ h9 => h9) rfl dMM_local_6 ?_
    refine lv_iload_n hx hb dMM_local_9 rfl (lv_at hl 1 rfl) ?_
    obtain ⟨h2, hw⟩ := hw
    refine va_iald hx hb hK hP 5 0 mw_5 rfl h2 dMM_local_10 ?_
    refine lv_icmp_lt (tgt := 22) hx hb dMM_local_11 (by decide) (fun h3 => ?_) (fun h3 => ?_)
    · have hw := hw.1 h3
      refine lv_iload hx hb dMM_local_22 (lv_at hl 4 rfl) ?_
      refine lv_if_eq (tgt := 61) hx hb dMM_local_24 (by decide) (fun h4 => ?_) (fun h4 => ?_)
      · have hw := hw.1 h4
        refine lv_aload_n hx hb dMM_local_61 rfl (lv_at hl 0 rfl) ?_
        refine lv_iload_n hx hb dMM_local_62 rfl (lv_at hl 3 rfl) ?_
        obtain ⟨P5, hc5, hw⟩ := hw
        refine mc_i (va_runV (As := [.int p3]) (rest := []) ⟨hx, hb, hml, hown, hts⟩ (c_MM_pop l D a cI cZ hJ I F p3 H.size P5 hc5) (cwV 1 hts (tb_V (C := "CodeJudgeModel") wc_MM_pop tw_5_0 tw_5_2 tw_0_30 tw_1_9) rfl rfl rfl (by decide +kernel) ⟨Nat.le_of_ble_eq_true rfl, Nat.le_of_ble_eq_true rfl⟩) ⟨mP_bl, va_recv hK hP rfl mw_0, mP_at hP hK⟩ rfl rfl hl.1 rfl (lv_room (Nat.le_of_ble_eq_true rfl)) dMM_local_63 ⟨Nat.le_of_ble_eq_true rfl, Nat.le_of_ble_eq_true rfl⟩) hS (fun r5 I5 F5 H locs hP hp5 hS => ?_)
        have hw := hw r5 I5 F5 hp5
        refine lv_istore (lv' := [(5, .int r5), (0, .ref (a 0)), (1, .int p1), (2, .int p2), (3, .int p3), (4, .int p4)]) hx hb dMM_local_66 hl (by decide) rfl (fun ls hl => ?_)
        refine lv_aload_n hx hb dMM_local_68 rfl (lv_at hl 1 rfl) ?_
        refine va_get (D := D) (v := .ref (a 15)) (ci := 8) (C := "CodeJudgeModel") (T := T_MM) (N := 37) hx hb hts in_MM hown hK hP 0 mw_0 rfl 18 (by decide) (hts (.fieldLink "CodeJudgeModel" 53 "CodeJudgeModel" "holds" "[I") tw_4_83) (fun _ h9 => h9) rfl dMM_local_69 ?_
        refine lv_iload_n hx hb dMM_local_72 rfl (lv_at hl 3 rfl) ?_
        refine lv_iload_n hx hb dMM_local_73 rfl (lv_at hl 4 rfl) ?_
        obtain ⟨h6, hw⟩ := hw
        refine va_iast hx hb hK hP (mD hJ) hS 15 0 mw_15 rfl h6 dMM_local_74 (fun H locs hP _ hS => ?_)
        have hP := mwa_15 hP
        rw [hQ]
        exact W.vret hx hb hr (fun t ht hW => ⟨⟨(I5, (va_up F5 15 (upd (F5 15) p2.toNatClampNeg p3))), rfl, hw, by subst ht; exact hP⟩, hS.F ht⟩) hS.2.2 dMM_local_75
      · have hw := hw.2 h4
        refine lv_aload_n hx hb dMM_local_27 rfl (lv_at hl 0 rfl) ?_
        refine lv_aload_n hx hb dMM_local_28 rfl (lv_at hl 0 rfl) ?_
        refine va_get (D := D) (v := .int (I 2)) (ci := 8) (C := "CodeJudgeModel") (T := T_MM) (N := 37) hx hb hts in_MM hown hK hP 0 mw_0 rfl 15 (by decide) (hts (.fieldLink "CodeJudgeModel" 113 "CodeJudgeModel" "fails" "Z") tw_4_80) (fun _ h9 => h9) rfl dMM_local_29 ?_
        refine lv_if_ne (tgt := 45) hx hb dMM_local_32 (by decide) (fun h7 => ?_) (fun h7 => ?_)
        · have hw := hw.1 h7
          exact J45 p3 I F H locs ls (lv_sub hl [0, 3] rfl) hP hS hw
        · have hw := hw.2 h7
          refine lv_aload_n hx hb dMM_local_35 rfl (lv_at hl 0 rfl) ?_
          refine va_get (D := D) (v := .ref (a 15)) (ci := 8) (C := "CodeJudgeModel") (T := T_MM) (N := 37) hx hb hts in_MM hown hK hP 0 mw_0 rfl 18 (by decide) (hts (.fieldLink "CodeJudgeModel" 53 "CodeJudgeModel" "holds" "[I") tw_4_83) (fun _ h9 => h9) rfl dMM_local_36 ?_
          refine lv_iload_n hx hb dMM_local_39 rfl (lv_at hl 2 rfl) ?_
          obtain ⟨h10, hw⟩ := hw
          refine va_iald hx hb hK hP 15 0 mw_15 rfl h10 dMM_local_40 ?_
          refine lv_iload_n hx hb dMM_local_41 rfl (lv_at hl 3 rfl) ?_
          refine lv_icmp_eq (tgt := 49) hx hb dMM_local_42 (by decide) (fun h11 => ?_) (fun h11 => ?_)
          · have hw := hw.1 h11
            refine lv_iconst (v := 0) hx hb dMM_local_49 (by decide) ?_
            exact J50 p3 0 I F H locs ls (lv_sub hl [0, 3] rfl) hP hS hw
          · have hw := hw.2 h11
            exact J45 p3 I F H locs ls (lv_sub hl [0, 3] rfl) hP hS hw
    · have hw := hw.2 h3
      exact J14 I F H locs ls (lv_sub hl [0] rfl) hP hS hw
def wp_MM_take_28 (Post : SI → SF → Prop) (x3 : Int32) (s0 : Int32) (I : SI) (F : SF) : Prop := (¬ x3 = 0 → (∃ P6 : Int32 → SI → SF → Prop, wp_MM_pop x3 I F P6 ∧ ∀ r6 I6 F6, P6 r6 I6 F6 → (Post I6 F6))) ∧ (x3 = 0 → (Post I F))
def wp_MM_take_13 (Post : SI → SF → Prop) (x2 : Int32) (x3 : Int32) (s0 : Int32) (I : SI) (F : SF) : Prop := (¬ x2 = 0 → (∃ P4 : Int32 → SI → SF → Prop, wp_MM_pop x2 I F P4 ∧ ∀ r4 I4 F4, P4 r4 I4 F4 → (wp_MM_take_28 Post x3 r4 I4 F4))) ∧ (x2 = 0 → (wp_MM_take_28 Post x3 0 I F))
def wp_MM_take (p1 : Int32) (p2 : Int32) (p3 : Int32) (I : SI) (F : SF) (Post : SI → SF → Prop) : Prop := (¬ p1 = 0 → (∃ P2 : Int32 → SI → SF → Prop, wp_MM_pop p1 I F P2 ∧ ∀ r2 I2 F2, P2 r2 I2 F2 → (wp_MM_take_13 Post p2 p3 r2 I2 F2))) ∧ (p1 = 0 → (wp_MM_take_13 Post p2 p3 0 I F))
set_option maxHeartbeats 4000000 in
set_option maxRecDepth 100000 in
theorem c_MM_take (l : Launch) (D : va_G) (a : Nat → Nat) (cI cZ : ClassId) (hJ : xJ 26 a) (I : SI) (F : SF) (p1 : Int32) (p2 : Int32) (p3 : Int32) (sz : Nat) (Post : SI → SF → Prop) (hw : wp_MM_take p1 p2 p3 I F Post) : Met l y_MM_take (Cond.code y_MM_take b_MM_take 7 none :: TB) { frames := 1, cells := 0, slots := 0, locals := 21 } (va_Pc [.ref (a 0), .int p1, .int p2, .int p3] (mP D a cI cZ I F sz)) (va_Qv (fun (u : SI × SF) => Post u.1 u.2) (fun u t => va_P D vwCl (mw a cI cZ u.1 u.2) t.heap) (xA 26 a sz)) 0 0 (xA 26 a sz) := by
  refine Met.ofW (cc := b_MM_take) (maxL := 7) (ret := none) (by decide) rfl ?_
  intro p e s m args below meth c s₁ B hml hv
  obtain ⟨rfl, rfl, hP, hK⟩ := hv
  have hx := B.exec
  have hb := B.bytes
  have hr := B.returns
  have hts : ∀ w ∈ TB, w.before _ s = true := fun w h => atoms_spec (ws := Cond.code y_MM_take b_MM_take 7 none :: TB) B.pre w (List.mem_cons_of_mem _ h)
  have hown : s.vm.findClass "CodeJudgeModel" = some m.cls := findClass_of_methodNamed B.named
  have hlocks := B.notSynchronized
  have hl := lv_entry ([.ref (a 0), .int p1, .int p2, .int p3]) (n := 7) (Nat.le_of_ble_eq_true rfl)
  rw [lg_entry_eq]
  generalize (lg_sl ([.ref (a 0), .int p1, .int p2, .int p3]) ++ List.replicate (7 - (lg_sl ([.ref (a 0), .int p1, .int p2, .int p3])).length) Slot.unset).toArray = ls at hl ⊢
  have hl : lv_has ls 7 [(0, .ref (a 0)), (1, .int p1), (2, .int p2), (3, .int p3)] := hl
  obtain ⟨Q, hQ⟩ : ∃ Q, Q = MQ below (va_Qv (fun (u : SI × SF) => Post u.1 u.2) (fun u t => va_P D vwCl (mw a cI cZ u.1 u.2) t.heap) (xA 26 a s.heap.size)) ([.ref (a 0), .int p1, .int p2, .int p3]).toArray s 0 0 (xA 26 a s.heap.size) := ⟨_, rfl⟩
  rw [← hQ]
  have J28 : ∀ (x3 : Int32) (s0 : Int32) (I : SI) (F : SF) (H : Heap) (locs : List Loc) (ls : Array Slot), lv_has ls 7 [(0, .ref (a 0)), (3, .int x3)] → va_P D vwCl (mw a cI cZ I F) H → va_S (xA 26 a s.heap.size) s.heap H locs → wp_MM_take_28 Post x3 s0 I F → W p l e (headSpec (Cond.code y_MM_take b_MM_take 7 none :: TB) { frames := 1, cells := 0, slots := 0, locals := 21 }).room s m ([.ref (a 0), .int p1, .int p2, .int p3]).toArray below meth c H locs 0 0 Q (F0 m 28 ls [.int s0]) := by
    intro x3 s0 I F H locs ls hl hP hS hw
    dsimp only [wp_MM_take_28] at hw
    refine lv_istore (lv' := [(5, .int s0), (0, .ref (a 0)), (3, .int x3)]) hx hb dMM_take_28 hl (by decide) rfl (fun ls hl => ?_)
    refine lv_iload_n hx hb dMM_take_30 rfl (lv_at hl 2 rfl) ?_
    refine lv_if_ne (tgt := 38) hx hb dMM_take_31 (by decide) (fun h5 => ?_) (fun h5 => ?_)
    · have hw := hw.1 h5
      refine lv_aload_n hx hb dMM_take_38 rfl (lv_at hl 1 rfl) ?_
      refine lv_iload_n hx hb dMM_take_39 rfl (lv_at hl 2 rfl) ?_
      obtain ⟨P6, hc6, hw⟩ := hw
      refine mc_i (va_runV (As := [.int x3]) (rest := []) ⟨hx, hb, hml, hown, hts⟩ (c_MM_pop l D a cI cZ hJ I F x3 H.size P6 hc6) (cwV 1 hts (tb_V (C := "CodeJudgeModel") wc_MM_pop tw_5_0 tw_5_2 tw_0_30 tw_1_9) rfl rfl rfl (by decide +kernel) ⟨Nat.le_of_ble_eq_true rfl, Nat.le_of_ble_eq_true rfl⟩) ⟨mP_bl, va_recv hK hP rfl mw_0, mP_at hP hK⟩ rfl rfl hl.1 rfl (lv_room (Nat.le_of_ble_eq_true rfl)) dMM_take_40 ⟨Nat.le_of_ble_eq_true rfl, Nat.le_of_ble_eq_true rfl⟩) hS (fun r6 I6 F6 H locs hP hp6 hS => ?_)
      have hw := hw r6 I6 F6 hp6
      refine lv_istore (lv' := [(6, .int r6), (5, .int s0), (0, .ref (a 0)), (3, .int x3)]) hx hb dMM_take_43 hl (by decide) rfl (fun ls hl => ?_)
      rw [hQ]
      exact W.vret hx hb hr (fun t ht hW => ⟨⟨(I6, F6), rfl, hw, by subst ht; exact hP⟩, hS.F ht⟩) hS.2.2 dMM_take_45
    · have hw := hw.2 h5
      refine lv_iconst (v := 0) hx hb dMM_take_34 (by decide) ?_
      refine lv_goto (tgt := 43) hx hb dMM_take_35 (by decide) ?_
      refine lv_istore (lv' := [(6, .int 0), (5, .int s0), (0, .ref (a 0)), (3, .int x3)]) hx hb dMM_take_43 hl (by decide) rfl (fun ls hl => ?_)
      rw [hQ]
      exact W.vret hx hb hr (fun t ht hW => ⟨⟨(I, F), rfl, hw, by subst ht; exact hP⟩, hS.F ht⟩) hS.2.2 dMM_take_45
  have J13 : ∀ (x2 : Int32) (x3 : Int32) (s0 : Int32) (I : SI) (F : SF) (H : Heap) (locs : List Loc) (ls : Array Slot), lv_has ls 7 [(0, .ref (a 0)), (2, .int x2), (3, .int x3)] → va_P D vwCl (mw a cI cZ I F) H → va_S (xA 26 a s.heap.size) s.heap H locs → wp_MM_take_13 Post x2 x3 s0 I F → W p l e (headSpec (Cond.code y_MM_take b_MM_take 7 none :: TB) { frames := 1, cells := 0, slots := 0, locals := 21 }).room s m ([.ref (a 0), .int p1, .int p2, .int p3]).toArray below meth c H locs 0 0 Q (F0 m 13 ls [.int s0]) := by
    intro x2 x3 s0 I F H locs ls hl hP hS hw
    dsimp only [wp_MM_take_13] at hw
    refine lv_istore (lv' := [(4, .int s0), (0, .ref (a 0)), (2, .int x2), (3, .int x3)]) hx hb dMM_take_13 hl (by decide) rfl (fun ls hl => ?_)
    refine lv_iload_n hx hb dMM_take_15 rfl (lv_at hl 2 rfl) ?_
    refine lv_if_ne (tgt := 23) hx hb dMM_take_16 (by decide) (fun h3 => ?_) (fun h3 => ?_)
    · have hw := hw.1 h3
      refine lv_aload_n hx hb dMM_take_23 rfl (lv_at hl 1 rfl) ?_
      refine lv_iload_n hx hb dMM_take_24 rfl (lv_at hl 2 rfl) ?_
      obtain ⟨P4, hc4, hw⟩ := hw
      refine mc_i (va_runV (As := [.int x2]) (rest := []) ⟨hx, hb, hml, hown, hts⟩ (c_MM_pop l D a cI cZ hJ I F x2 H.size P4 hc4) (cwV 1 hts (tb_V (C := "CodeJudgeModel") wc_MM_pop tw_5_0 tw_5_2 tw_0_30 tw_1_9) rfl rfl rfl (by decide +kernel) ⟨Nat.le_of_ble_eq_true rfl, Nat.le_of_ble_eq_true rfl⟩) ⟨mP_bl, va_recv hK hP rfl mw_0, mP_at hP hK⟩ rfl rfl hl.1 rfl (lv_room (Nat.le_of_ble_eq_true rfl)) dMM_take_25 ⟨Nat.le_of_ble_eq_true rfl, Nat.le_of_ble_eq_true rfl⟩) hS (fun r4 I4 F4 H locs hP hp4 hS => ?_)
      have hw := hw r4 I4 F4 hp4
      exact J28 x3 r4 I4 F4 H locs ls (lv_sub hl [1, 3] rfl) hP hS hw
    · have hw := hw.2 h3
      refine lv_iconst (v := 0) hx hb dMM_take_19 (by decide) ?_
      refine lv_goto (tgt := 28) hx hb dMM_take_20 (by decide) ?_
      exact J28 x3 0 I F H locs ls (lv_sub hl [1, 3] rfl) hP hS hw
  suffices hM : ∀ (H : Heap) (locs : List Loc), va_P D vwCl (mw a cI cZ I F) H → va_S (xA 26 a s.heap.size) s.heap H locs → W p l e (headSpec (Cond.code y_MM_take b_MM_take 7 none :: TB) { frames := 1, cells := 0, slots := 0, locals := 21 }).room s m ([.ref (a 0), .int p1, .int p2, .int p3]).toArray below meth c H locs 0 0 (Q) (F0 m 0 ls []) from hM s.heap [] hP va_S.rf
  clear hP
  intro H locs hP hS
  dsimp only [wp_MM_take] at hw
  refine lv_iload_n hx hb dMM_take_0 rfl (lv_at hl 1 rfl) ?_
  refine lv_if_ne (tgt := 8) hx hb dMM_take_1 (by decide) (fun h1 => ?_) (fun h1 => ?_)
  · have hw := hw.1 h1
    refine lv_aload_n hx hb dMM_take_8 rfl (lv_at hl 0 rfl) ?_
    refine lv_iload_n hx hb dMM_take_9 rfl (lv_at hl 1 rfl) ?_
    obtain ⟨P2, hc2, hw⟩ := hw
    refine mc_i (va_runV (As := [.int p1]) (rest := []) ⟨hx, hb, hml, hown, hts⟩ (c_MM_pop l D a cI cZ hJ I F p1 H.size P2 hc2) (cwV 1 hts (tb_V (C := "CodeJudgeModel") wc_MM_pop tw_5_0 tw_5_2 tw_0_30 tw_1_9) rfl rfl rfl (by decide +kernel) ⟨Nat.le_of_ble_eq_true rfl, Nat.le_of_ble_eq_true rfl⟩) ⟨mP_bl, va_recv hK hP rfl mw_0, mP_at hP hK⟩ rfl rfl hl.1 rfl (lv_room (Nat.le_of_ble_eq_true rfl)) dMM_take_10 ⟨Nat.le_of_ble_eq_true rfl, Nat.le_of_ble_eq_true rfl⟩) hS (fun r2 I2 F2 H locs hP hp2 hS => ?_)
    have hw := hw r2 I2 F2 hp2
    exact J13 p2 p3 r2 I2 F2 H locs ls (lv_sub hl [0, 2, 3] rfl) hP hS hw
  · have hw := hw.2 h1
    refine lv_iconst (v := 0) hx hb dMM_take_4 (by decide) ?_
    refine lv_goto (tgt := 13) hx hb dMM_take_5 (by decide) ?_
    exact J13 p2 p3 0 I F H locs ls (lv_sub hl [0, 2, 3] rfl) hP hS hw
def wp_MM_call_47 (K23 : Int32 → Int32 → SI → SF → Prop) (Post : SI → SF → Prop) (x1 : Int32) (x2 : Int32) (s0 : Int32) (I : SI) (F : SF) : Prop := ∃ P12 : Int32 → SI → SF → Prop, wp_MM_pop s0 I F P12 ∧ ∀ r12 I12 F12, P12 r12 I12 F12 → (∀ x13 : Int32, x13 = x2 + (-1) → (K23 x1 x13 I12 F12))
def wp_MM_call_23 (Post : SI → SF → Prop) : Nat → Int32 → Int32 → SI → SF → Prop
  | 0 => fun _ _ _ _ => False
  | n + 1 => fun x1 x2 I F => (x2 < 0 → (vp_in x1 8 ∧ ((((F 4) x1.toNatClampNeg) ≤ 0 → (Post I F)) ∧ (¬ ((F 4) x1.toNatClampNeg) ≤ 0 → (vp_in x1 8 ∧ (∃ P9 : SI → SF → Prop, wp_MM_push ((F 4) x1.toNatClampNeg) I F P9 ∧ ∀ I9 F9, P9 I9 F9 → (Post I9 F9))))))) ∧ (¬ x2 < 0 → (vp_in x1 8 ∧ ((¬ ((((F 3) x1.toNatClampNeg) >>> (x2 &&& 31)) &&& 1) = 1 → (wp_MM_call_47 (wp_MM_call_23 Post n) Post x1 x2 1 I F)) ∧ (((((F 3) x1.toNatClampNeg) >>> (x2 &&& 31)) &&& 1) = 1 → (wp_MM_call_47 (wp_MM_call_23 Post n) Post x1 x2 2 I F)))))
def wp_MM_call (p1 : Int32) (I : SI) (F : SF) (Post : SI → SF → Prop) : Prop := ∃ P1 : Int32 → SI → SF → Prop, wp_MM_isMethod p1 I F P1 ∧ ∀ r1 I1 F1, P1 r1 I1 F1 → ((¬ r1 = 0 → (vp_in p1 8 ∧ (∀ x4 : Int32, x4 = ((F1 2) p1.toNatClampNeg) - 1 → (∃ q23, wp_MM_call_23 Post q23 p1 x4 I1 F1)))) ∧ (r1 = 0 → (Post (va_up I1 2 1) F1)))
set_option maxHeartbeats 4000000 in
set_option maxRecDepth 100000 in
theorem c_MM_call (l : Launch) (D : va_G) (a : Nat → Nat) (cI cZ : ClassId) (hJ : xJ 26 a) (I : SI) (F : SF) (p1 : Int32) (sz : Nat) (Post : SI → SF → Prop) (hw : wp_MM_call p1 I F Post) : Met l y_MM_call (Cond.code y_MM_call b_MM_call 4 none :: TB) { frames := 1, cells := 0, slots := 0, locals := 21 } (va_Pc [.ref (a 0), .int p1] (mP D a cI cZ I F sz)) (va_Qv (fun (u : SI × SF) => Post u.1 u.2) (fun u t => va_P D vwCl (mw a cI cZ u.1 u.2) t.heap) (xA 26 a sz)) 0 0 (xA 26 a sz) := by
  refine Met.ofW (cc := b_MM_call) (maxL := 4) (ret := none) (by decide) rfl ?_
  intro p e s m args below meth c s₁ B hml hv
  obtain ⟨rfl, rfl, hP, hK⟩ := hv
  have hx := B.exec
  have hb := B.bytes
  have hr := B.returns
  have hts : ∀ w ∈ TB, w.before _ s = true := fun w h => atoms_spec (ws := Cond.code y_MM_call b_MM_call 4 none :: TB) B.pre w (List.mem_cons_of_mem _ h)
  have hown : s.vm.findClass "CodeJudgeModel" = some m.cls := findClass_of_methodNamed B.named
  have hlocks := B.notSynchronized
  have hl := lv_entry ([.ref (a 0), .int p1]) (n := 4) (Nat.le_of_ble_eq_true rfl)
  rw [lg_entry_eq]
  generalize (lg_sl ([.ref (a 0), .int p1]) ++ List.replicate (4 - (lg_sl ([.ref (a 0), .int p1])).length) Slot.unset).toArray = ls at hl ⊢
  have hl : lv_has ls 4 [(0, .ref (a 0)), (1, .int p1)] := hl
  obtain ⟨Q, hQ⟩ : ∃ Q, Q = MQ below (va_Qv (fun (u : SI × SF) => Post u.1 u.2) (fun u t => va_P D vwCl (mw a cI cZ u.1 u.2) t.heap) (xA 26 a s.heap.size)) ([.ref (a 0), .int p1]).toArray s 0 0 (xA 26 a s.heap.size) := ⟨_, rfl⟩
  rw [← hQ]
  have J23 : ∀ n : Nat, ∀ (x1 : Int32) (x2 : Int32) (I : SI) (F : SF) (H : Heap) (locs : List Loc) (ls : Array Slot), lv_has ls 4 [(0, .ref (a 0)), (1, .int x1), (2, .int x2)] → va_P D vwCl (mw a cI cZ I F) H → va_S (xA 26 a s.heap.size) s.heap H locs → wp_MM_call_23 Post n x1 x2 I F → W p l e (headSpec (Cond.code y_MM_call b_MM_call 4 none :: TB) { frames := 1, cells := 0, slots := 0, locals := 21 }).room s m ([.ref (a 0), .int p1]).toArray below meth c H locs 0 0 Q (F0 m 23 ls []) := by
    intro n23
    induction n23 with
    | zero =>
      intro x1 x2 I F H locs ls hl hP hS hw
      exact False.elim hw
    | succ n23 ih23 =>
      have J47 : ∀ (x1 : Int32) (x2 : Int32) (s0 : Int32) (I : SI) (F : SF) (H : Heap) (locs : List Loc) (ls : Array Slot), lv_has ls 4 [(0, .ref (a 0)), (1, .int x1), (2, .int x2)] → va_P D vwCl (mw a cI cZ I F) H → va_S (xA 26 a s.heap.size) s.heap H locs → wp_MM_call_47 (wp_MM_call_23 Post n23) Post x1 x2 s0 I F → W p l e (headSpec (Cond.code y_MM_call b_MM_call 4 none :: TB) { frames := 1, cells := 0, slots := 0, locals := 21 }).room s m ([.ref (a 0), .int p1]).toArray below meth c H locs 0 0 Q (F0 m 47 ls [.int s0, .ref (a 0)]) := by
        intro x1 x2 s0 I F H locs ls hl hP hS hw
        dsimp only [wp_MM_call_47] at hw
        obtain ⟨P12, hc12, hw⟩ := hw
        refine mc_i (va_runV (As := [.int s0]) (rest := []) ⟨hx, hb, hml, hown, hts⟩ (c_MM_pop l D a cI cZ hJ I F s0 H.size P12 hc12) (cwV 1 hts (tb_V (C := "CodeJudgeModel") wc_MM_pop tw_5_0 tw_5_2 tw_0_30 tw_1_9) rfl rfl rfl (by decide +kernel) ⟨Nat.le_of_ble_eq_true rfl, Nat.le_of_ble_eq_true rfl⟩) ⟨mP_bl, va_recv hK hP rfl mw_0, mP_at hP hK⟩ rfl rfl hl.1 rfl (lv_room (Nat.le_of_ble_eq_true rfl)) dMM_call_47 ⟨Nat.le_of_ble_eq_true rfl, Nat.le_of_ble_eq_true rfl⟩) hS (fun r12 I12 F12 H locs hP hp12 hS => ?_)
        have hw := hw r12 I12 F12 hp12
        refine lv_istore_n (lv' := [(3, .int r12), (0, .ref (a 0)), (1, .int x1), (2, .int x2)]) hx hb dMM_call_50 rfl hl (by decide) rfl (fun ls hl => ?_)
        obtain ⟨x13, e_x13⟩ : ∃ z : Int32, z = x2 + (-1) := ⟨_, rfl⟩
        have hw := hw x13 e_x13
        refine lv_iinc (k := 3) (v := x13) (lv' := [(2, .int x13), (3, .int r12), (0, .ref (a 0)), (1, .int x1)]) hx hb dMM_call_51 hl rfl (e_x13 ▸ (by first | rfl | decide)) (by decide) rfl (fun ls hl => ?_)
        refine lv_goto (tgt := 23) hx hb dMM_call_54 (by decide) ?_
        exact ih23 x1 x13 I12 F12 H locs ls (lv_sub hl [2, 3, 0] rfl) hP hS hw
      intro x1 x2 I F H locs ls hl hP hS hw
      dsimp only [wp_MM_call_23] at hw
      refine lv_iload_n hx hb dMM_call_23 rfl (lv_at hl 2 rfl) ?_
      refine lv_if_lt (tgt := 57) hx hb dMM_call_24 (by decide) (fun h5 => ?_) (fun h5 => ?_)
      · have hw := hw.1 h5
        refine lv_aload_n hx hb dMM_call_57 rfl (lv_at hl 0 rfl) ?_
        refine va_get (D := D) (v := .ref (a 4)) (ci := 8) (C := "CodeJudgeModel") (T := T_MM) (N := 37) hx hb hts in_MM hown hK hP 0 mw_0 rfl 4 (by decide) (hts (.fieldLink "CodeJudgeModel" 20 "CodeJudgeModel" "returns" "[I") tw_4_70) (fun _ h9 => h9) rfl dMM_call_58 ?_
        refine lv_iload_n hx hb dMM_call_61 rfl (lv_at hl 1 rfl) ?_
        obtain ⟨h6, hw⟩ := hw
        refine va_iald hx hb hK hP 4 0 mw_4 rfl h6 dMM_call_62 ?_
        refine lv_if_le (tgt := 76) hx hb dMM_call_63 (by decide) (fun h7 => ?_) (fun h7 => ?_)
        · have hw := hw.1 h7
          rw [hQ]
          exact W.vret hx hb hr (fun t ht hW => ⟨⟨(I, F), rfl, hw, by subst ht; exact hP⟩, hS.F ht⟩) hS.2.2 dMM_call_76
        · have hw := hw.2 h7
          refine lv_aload_n hx hb dMM_call_66 rfl (lv_at hl 0 rfl) ?_
          refine lv_aload_n hx hb dMM_call_67 rfl (lv_at hl 0 rfl) ?_
          refine va_get (D := D) (v := .ref (a 4)) (ci := 8) (C := "CodeJudgeModel") (T := T_MM) (N := 37) hx hb hts in_MM hown hK hP 0 mw_0 rfl 4 (by decide) (hts (.fieldLink "CodeJudgeModel" 20 "CodeJudgeModel" "returns" "[I") tw_4_70) (fun _ h9 => h9) rfl dMM_call_68 ?_
          refine lv_iload_n hx hb dMM_call_71 rfl (lv_at hl 1 rfl) ?_
          obtain ⟨h8, hw⟩ := hw
          refine va_iald hx hb hK hP 4 0 mw_4 rfl h8 dMM_call_72 ?_
          obtain ⟨P9, hc9, hw⟩ := hw
          refine mc_v (va_runV (As := [.int ((F 4) x1.toNatClampNeg)]) (rest := []) ⟨hx, hb, hml, hown, hts⟩ (c_MM_push l D a cI cZ hJ I F ((F 4) x1.toNatClampNeg) H.size P9 hc9) (cwV 1 hts (tb_V (C := "CodeJudgeModel") wc_MM_push tw_4_232 tw_4_234 tw_0_28 tw_1_9) rfl rfl rfl (by decide +kernel) ⟨Nat.le_of_ble_eq_true rfl, Nat.le_of_ble_eq_true rfl⟩) ⟨mP_bl, va_recv hK hP rfl mw_0, mP_at hP hK⟩ rfl rfl hl.1 rfl (lv_room (Nat.le_of_ble_eq_true rfl)) dMM_call_73 ⟨Nat.le_of_ble_eq_true rfl, Nat.le_of_ble_eq_true rfl⟩) hS (fun I9 F9 H locs hP hp9 hS => ?_)
          have hw := hw I9 F9 hp9
          rw [hQ]
          exact W.vret hx hb hr (fun t ht hW => ⟨⟨(I9, F9), rfl, hw, by subst ht; exact hP⟩, hS.F ht⟩) hS.2.2 dMM_call_76
      · have hw := hw.2 h5
        refine lv_aload_n hx hb dMM_call_27 rfl (lv_at hl 0 rfl) ?_
        refine lv_aload_n hx hb dMM_call_28 rfl (lv_at hl 0 rfl) ?_
        refine va_get (D := D) (v := .ref (a 3)) (ci := 8) (C := "CodeJudgeModel") (T := T_MM) (N := 37) hx hb hts in_MM hown hK hP 0 mw_0 rfl 3 (by decide) (hts (.fieldLink "CodeJudgeModel" 17 "CodeJudgeModel" "arrays" "[I") tw_4_69) (fun _ h9 => h9) rfl dMM_call_29 ?_
        refine lv_iload_n hx hb dMM_call_32 rfl (lv_at hl 1 rfl) ?_
        obtain ⟨h10, hw⟩ := hw
        refine va_iald hx hb hK hP 3 0 mw_3 rfl h10 dMM_call_33 ?_
        refine lv_iload_n hx hb dMM_call_34 rfl (lv_at hl 2 rfl) ?_
        refine lv_ishr hx hb dMM_call_35 ?_
        refine lv_iconst (v := 1) hx hb dMM_call_36 (by decide) ?_
        refine lv_iand hx hb dMM_call_37 ?_
        refine lv_iconst (v := 1) hx hb dMM_call_38 (by decide) ?_
        refine lv_icmp_ne (tgt := 46) hx hb dMM_call_39 (by decide) (fun h11 => ?_) (fun h11 => ?_)
        · have hw := hw.1 h11
          refine lv_iconst (v := 1) hx hb dMM_call_46 (by decide) ?_
          exact J47 x1 x2 1 I F H locs ls (lv_sub hl [0, 1, 2] rfl) hP hS hw
        · have hw := hw.2 h11
          refine lv_iconst (v := 2) hx hb dMM_call_42 (by decide) ?_
          refine lv_goto (tgt := 47) hx hb dMM_call_43 (by decide) ?_
          exact J47 x1 x2 2 I F H locs ls (lv_sub hl [0, 1, 2] rfl) hP hS hw
  suffices hM : ∀ (H : Heap) (locs : List Loc), va_P D vwCl (mw a cI cZ I F) H → va_S (xA 26 a s.heap.size) s.heap H locs → W p l e (headSpec (Cond.code y_MM_call b_MM_call 4 none :: TB) { frames := 1, cells := 0, slots := 0, locals := 21 }).room s m ([.ref (a 0), .int p1]).toArray below meth c H locs 0 0 (Q) (F0 m 0 ls []) from hM s.heap [] hP va_S.rf
  clear hP
  intro H locs hP hS
  dsimp only [wp_MM_call] at hw
  refine lv_aload_n hx hb dMM_call_0 rfl (lv_at hl 0 rfl) ?_
  refine lv_iload_n hx hb dMM_call_1 rfl (lv_at hl 1 rfl) ?_
  obtain ⟨P1, hc1, hw⟩ := hw
  refine mc_i (va_runV (As := [.int p1]) (rest := []) ⟨hx, hb, hml, hown, hts⟩ (c_MM_isMethod l D a cI cZ hJ I F p1 H.size P1 hc1) (cwV 1 hts (tb_V (C := "CodeJudgeModel") wc_MM_isMethod tw_4_196 tw_4_198 tw_0_22 tw_1_9) rfl rfl rfl (by decide +kernel) ⟨Nat.le_of_ble_eq_true rfl, Nat.le_of_ble_eq_true rfl⟩) ⟨mP_bl, va_recv hK hP rfl mw_0, mP_at hP hK⟩ rfl rfl hl.1 rfl (lv_room (Nat.le_of_ble_eq_true rfl)) dMM_call_2 ⟨Nat.le_of_ble_eq_true rfl, Nat.le_of_ble_eq_true rfl⟩) hS (fun r1 I1 F1 H locs hP hp1 hS => ?_)
  have hw := hw r1 I1 F1 hp1
  refine lv_if_ne (tgt := 14) hx hb dMM_call_5 (by decide) (fun h2 => ?_) (fun h2 => ?_)
  · have hw := hw.1 h2
    refine lv_aload_n hx hb dMM_call_14 rfl (lv_at hl 0 rfl) ?_
    refine va_get (D := D) (v := .ref (a 2)) (ci := 8) (C := "CodeJudgeModel") (T := T_MM) (N := 37) hx hb hts in_MM hown hK hP 0 mw_0 rfl 2 (by decide) (hts (.fieldLink "CodeJudgeModel" 13 "CodeJudgeModel" "parameters" "[I") tw_4_68) (fun _ h9 => h9) rfl dMM_call_15 ?_
    refine lv_iload_n hx hb dMM_call_18 rfl (lv_at hl 1 rfl) ?_
    obtain ⟨h3, hw⟩ := hw
    refine va_iald hx hb hK hP 2 0 mw_2 rfl h3 dMM_call_19 ?_
    refine lv_iconst (v := 1) hx hb dMM_call_20 (by decide) ?_
    refine lv_isub hx hb dMM_call_21 ?_
    refine lv_topi (fun x4 e_x4 => ?_)
    have hw := hw x4 e_x4
    refine lv_istore_n (lv' := [(2, .int x4), (0, .ref (a 0)), (1, .int p1)]) hx hb dMM_call_22 rfl hl (by decide) rfl (fun ls hl => ?_)
    obtain ⟨n23, hw⟩ := hw
    exact J23 n23 p1 x4 I1 F1 H locs ls (lv_sub hl [1, 2, 0] rfl) hP hS hw
  · have hw := hw.2 h2
    refine lv_aload_n hx hb dMM_call_8 rfl (lv_at hl 0 rfl) ?_
    refine lv_iconst (v := 1) hx hb dMM_call_9 (by decide) ?_
    refine va_put (D := D) (ci := 8) (v := .int 1) (ty := .boolean) (C := "CodeJudgeModel") (T := T_MM) (N := 37) hx hb hts in_MM ty_MM ok_MM nm_MM hown hK hP (mD hJ) hS 0 mw_0 rfl 15 (by decide) (hts (.fieldLink "CodeJudgeModel" 113 "CodeJudgeModel" "fails" "Z") tw_4_80) (fun _ h9 => h9) rfl (by decide +kernel) rfl rfl (Nat.le_of_ble_eq_true rfl) dMM_call_10 (fun H locs hP _ hS => ?_)
    have hP := mwp_2 hP
    rw [hQ]
    exact W.vret hx hb hr (fun t ht hW => ⟨⟨((va_up I1 2 1), F1), rfl, hw, by subst ht; exact hP⟩, hS.F ht⟩) hS.2.2 dMM_call_13
def wp_MM_effect_35 (Post : SI → SF → Prop) (s0 : Int32) (s1 : Int32) (s2 : Int32) (I : SI) (F : SF) : Prop := ∃ P4 : SI → SF → Prop, wp_MM_local s2 s1 s0 1 I F P4 ∧ ∀ I4 F4, P4 I4 F4 → (Post I4 F4)
def wp_MM_effect_22 (Post : SI → SF → Prop) (x1 : Int32) (x2 : Int32) (x3 : Int32) (I : SI) (F : SF) : Prop := (¬ x2 = 1 → (wp_MM_effect_35 Post 2 x3 x1 I F)) ∧ (x2 = 1 → (wp_MM_effect_35 Post 1 x3 x1 I F))
def wp_MM_effect_65 (Post : SI → SF → Prop) (s0 : Int32) (s1 : Int32) (s2 : Int32) (I : SI) (F : SF) : Prop := ∃ P8 : SI → SF → Prop, wp_MM_local s2 s1 s0 0 I F P8 ∧ ∀ I8 F8, P8 I8 F8 → (Post I8 F8)
def wp_MM_effect_52 (Post : SI → SF → Prop) (x1 : Int32) (x2 : Int32) (x3 : Int32) (I : SI) (F : SF) : Prop := (¬ x2 = 2 → (wp_MM_effect_65 Post 2 x3 x1 I F)) ∧ (x2 = 2 → (wp_MM_effect_65 Post 1 x3 x1 I F))
def wp_MM_effect_117 (Post : SI → SF → Prop) (s0 : Int32) (I : SI) (F : SF) : Prop := ∃ P13 : SI → SF → Prop, wp_MM_take s0 0 0 I F P13 ∧ ∀ I13 F13, P13 I13 F13 → (∃ P14 : SI → SF → Prop, wp_MM_push 2 I13 F13 P14 ∧ ∀ I14 F14, P14 I14 F14 → (Post I14 F14))
def wp_MM_effect_105 (Post : SI → SF → Prop) (x2 : Int32) (I : SI) (F : SF) : Prop := (¬ x2 = 10 → (wp_MM_effect_117 Post 0 I F)) ∧ (x2 = 10 → (wp_MM_effect_117 Post 1 I F))
def wp_MM_effect_200 (Post : SI → SF → Prop)  (I : SI) (F : SF) : Prop := ∃ P20 : SI → SF → Prop, wp_MM_take 1 0 0 I F P20 ∧ ∀ I20 F20, P20 I20 F20 → (Post I20 F20)
def wp_MM_effect_222 (Post : SI → SF → Prop)  (I : SI) (F : SF) : Prop := ∃ P23 : SI → SF → Prop, wp_MM_take 1 1 0 I F P23 ∧ ∀ I23 F23, P23 I23 F23 → (Post I23 F23)
def wp_MM_effect_379 (Post : SI → SF → Prop) (s0 : Int32) (I : SI) (F : SF) : Prop := bo s0 ∧ (Post (va_up I 2 s0) F)
def wp_MM_effect_374 (Post : SI → SF → Prop)  (I : SI) (F : SF) : Prop := wp_MM_effect_379 Post 1 I F
def wp_MM_effect (p1 : Int32) (p2 : Int32) (p3 : Int32) (I : SI) (F : SF) (Post : SI → SF → Prop) : Prop := (¬ p2 = 0 → ((p2 = 1 → (wp_MM_effect_22 Post p1 p2 p3 I F)) ∧ (¬ p2 = 1 → ((¬ p2 = 3 → ((p2 = 2 → (wp_MM_effect_52 Post p1 p2 p3 I F)) ∧ (¬ p2 = 2 → ((¬ p2 = 4 → ((10 ≤ p2 → ((p2 = 10 → (wp_MM_effect_105 Post p2 I F)) ∧ (¬ p2 = 10 → ((¬ p2 = 18 → ((¬ p2 = 11 → ((¬ p2 = 12 → ((¬ p2 = 13 → ((p2 = 15 → (wp_MM_effect_200 Post I F)) ∧ (¬ p2 = 15 → ((¬ p2 = 25 → ((p2 = 16 → (wp_MM_effect_222 Post I F)) ∧ (¬ p2 = 16 → ((¬ p2 = 17 → ((¬ p2 = 19 → ((¬ p2 = 20 → ((¬ p2 = 21 → ((¬ p2 = 22 → ((¬ p2 = 23 → ((¬ p2 = 24 → (Post I F)) ∧ (p2 = 24 → (vp_in p1 8 ∧ (∃ P32 : SI → SF → Prop, wp_MM_take ((F 4) p1.toNatClampNeg) 0 0 I F P32 ∧ ∀ I32 F32, P32 I32 F32 → ((¬ (I32 2) = 0 → (wp_MM_effect_374 Post I32 F32)) ∧ ((I32 2) = 0 → (((I32 3) ≤ 0 → (wp_MM_effect_379 Post 0 I32 F32)) ∧ (¬ (I32 3) ≤ 0 → (wp_MM_effect_374 Post I32 F32)))))))))) ∧ (p2 = 23 → (∃ P36 : SI → SF → Prop, wp_MM_call p3 I F P36 ∧ ∀ I36 F36, P36 I36 F36 → (Post I36 F36))))) ∧ (p2 = 22 → (∃ P37 : Int32 → SI → SF → Prop, wp_MM_pop 0 I F P37 ∧ ∀ r37 I37 F37, P37 r37 I37 F37 → (∃ P38 : Int32 → SI → SF → Prop, wp_MM_pop 0 I37 F37 P38 ∧ ∀ r38 I38 F38, P38 r38 I38 F38 → (∃ P39 : SI → SF → Prop, wp_MM_push r37 I38 F38 P39 ∧ ∀ I39 F39, P39 I39 F39 → (∃ P40 : SI → SF → Prop, wp_MM_push r38 I39 F39 P40 ∧ ∀ I40 F40, P40 I40 F40 → (Post I40 F40)))))))) ∧ (p2 = 21 → (∃ P41 : Int32 → SI → SF → Prop, wp_MM_pop 0 I F P41 ∧ ∀ r41 I41 F41, P41 r41 I41 F41 → (Post I41 F41))))) ∧ (p2 = 20 → (∃ P42 : Int32 → SI → SF → Prop, wp_MM_pop 0 I F P42 ∧ ∀ r42 I42 F42, P42 r42 I42 F42 → (∃ P43 : SI → SF → Prop, wp_MM_push r42 I42 F42 P43 ∧ ∀ I43 F43, P43 I43 F43 → (∃ P44 : SI → SF → Prop, wp_MM_push r42 I43 F43 P44 ∧ ∀ I44 F44, P44 I44 F44 → (Post I44 F44))))))) ∧ (p2 = 19 → (∃ P45 : SI → SF → Prop, wp_MM_take 2 0 0 I F P45 ∧ ∀ I45 F45, P45 I45 F45 → (Post I45 F45))))) ∧ (p2 = 17 → (wp_MM_effect_222 Post I F)))))) ∧ (p2 = 25 → (wp_MM_effect_200 Post I F)))))) ∧ (p2 = 13 → (∃ P46 : SI → SF → Prop, wp_MM_take 1 1 2 I F P46 ∧ ∀ I46 F46, P46 I46 F46 → (Post I46 F46))))) ∧ (p2 = 12 → (∃ P47 : SI → SF → Prop, wp_MM_take 1 2 0 I F P47 ∧ ∀ I47 F47, P47 I47 F47 → (∃ P48 : SI → SF → Prop, wp_MM_push 1 I47 F47 P48 ∧ ∀ I48 F48, P48 I48 F48 → (Post I48 F48)))))) ∧ (p2 = 11 → (∃ P49 : SI → SF → Prop, wp_MM_take 2 0 0 I F P49 ∧ ∀ I49 F49, P49 I49 F49 → (∃ P50 : SI → SF → Prop, wp_MM_push 1 I49 F49 P50 ∧ ∀ I50 F50, P50 I50 F50 → (Post I50 F50)))))) ∧ (p2 = 18 → (wp_MM_effect_105 Post p2 I F)))))) ∧ (¬ 10 ≤ p2 → (∃ P51 : SI → SF → Prop, wp_MM_take 1 1 0 I F P51 ∧ ∀ I51 F51, P51 I51 F51 → (∃ P52 : SI → SF → Prop, wp_MM_push 1 I51 F51 P52 ∧ ∀ I52 F52, P52 I52 F52 → (Post I52 F52)))))) ∧ (p2 = 4 → (wp_MM_effect_52 Post p1 p2 p3 I F)))))) ∧ (p2 = 3 → (wp_MM_effect_22 Post p1 p2 p3 I F)))))) ∧ (p2 = 0 → (∃ P53 : SI → SF → Prop, wp_MM_push 1 I F P53 ∧ ∀ I53 F53, P53 I53 F53 → (Post I53 F53)))
set_option maxHeartbeats 4000000 in
set_option maxRecDepth 100000 in
theorem c_MM_effect (l : Launch) (D : va_G) (a : Nat → Nat) (cI cZ : ClassId) (hJ : xJ 26 a) (I : SI) (F : SF) (p1 : Int32) (p2 : Int32) (p3 : Int32) (sz : Nat) (Post : SI → SF → Prop) (hw : wp_MM_effect p1 p2 p3 I F Post) : Met l y_MM_effect (Cond.code y_MM_effect b_MM_effect 6 none :: TB) { frames := 2, cells := 0, slots := 0, locals := 47 } (va_Pc [.ref (a 0), .int p1, .int p2, .int p3] (mP D a cI cZ I F sz)) (va_Qv (fun (u : SI × SF) => Post u.1 u.2) (fun u t => va_P D vwCl (mw a cI cZ u.1 u.2) t.heap) (xA 26 a sz)) 0 0 (xA 26 a sz) := by
  refine Met.ofW (cc := b_MM_effect) (maxL := 6) (ret := none) (by decide) rfl ?_
  intro p e s m args below meth c s₁ B hml hv
  obtain ⟨rfl, rfl, hP, hK⟩ := hv
  have hx := B.exec
  have hb := B.bytes
  have hr := B.returns
  have hts : ∀ w ∈ TB, w.before _ s = true := fun w h => atoms_spec (ws := Cond.code y_MM_effect b_MM_effect 6 none :: TB) B.pre w (List.mem_cons_of_mem _ h)
  have hown : s.vm.findClass "CodeJudgeModel" = some m.cls := findClass_of_methodNamed B.named
  have hlocks := B.notSynchronized
  have hl := lv_entry ([.ref (a 0), .int p1, .int p2, .int p3]) (n := 6) (Nat.le_of_ble_eq_true rfl)
  rw [lg_entry_eq]
  generalize (lg_sl ([.ref (a 0), .int p1, .int p2, .int p3]) ++ List.replicate (6 - (lg_sl ([.ref (a 0), .int p1, .int p2, .int p3])).length) Slot.unset).toArray = ls at hl ⊢
  have hl : lv_has ls 6 [(0, .ref (a 0)), (1, .int p1), (2, .int p2), (3, .int p3)] := hl
  obtain ⟨Q, hQ⟩ : ∃ Q, Q = MQ below (va_Qv (fun (u : SI × SF) => Post u.1 u.2) (fun u t => va_P D vwCl (mw a cI cZ u.1 u.2) t.heap) (xA 26 a s.heap.size)) ([.ref (a 0), .int p1, .int p2, .int p3]).toArray s 0 0 (xA 26 a s.heap.size) := ⟨_, rfl⟩
  rw [← hQ]
  have J35 : ∀ (s0 : Int32) (s1 : Int32) (s2 : Int32) (I : SI) (F : SF) (H : Heap) (locs : List Loc) (ls : Array Slot), lv_has ls 6 [] → va_P D vwCl (mw a cI cZ I F) H → va_S (xA 26 a s.heap.size) s.heap H locs → wp_MM_effect_35 Post s0 s1 s2 I F → W p l e (headSpec (Cond.code y_MM_effect b_MM_effect 6 none :: TB) { frames := 2, cells := 0, slots := 0, locals := 47 }).room s m ([.ref (a 0), .int p1, .int p2, .int p3]).toArray below meth c H locs 0 0 Q (F0 m 35 ls [.int s0, .int s1, .int s2, .ref (a 0)]) := by
    intro s0 s1 s2 I F H locs ls hl hP hS hw
    dsimp only [wp_MM_effect_35] at hw
    refine lv_iconst (v := 1) hx hb dMM_effect_35 (by decide) ?_
    obtain ⟨P4, hc4, hw⟩ := hw
    refine mc_v (va_runV (As := [.int s2, .int s1, .int s0, .int 1]) (rest := []) ⟨hx, hb, hml, hown, hts⟩ (c_MM_local l D a cI cZ hJ I F s2 s1 s0 1 H.size P4 hc4) (cwV 4 hts (tb_V (C := "CodeJudgeModel") wc_MM_local tw_4_236 tw_4_238 tw_0_29 tw_1_9) rfl rfl rfl (by decide +kernel) ⟨Nat.le_of_ble_eq_true rfl, Nat.le_of_ble_eq_true rfl⟩) ⟨mP_bl, va_recv hK hP rfl mw_0, mP_at hP hK⟩ rfl rfl hl.1 rfl (lv_room (Nat.le_of_ble_eq_true rfl)) dMM_effect_36 ⟨Nat.le_of_ble_eq_true rfl, Nat.le_of_ble_eq_true rfl⟩) hS (fun I4 F4 H locs hP hp4 hS => ?_)
    have hw := hw I4 F4 hp4
    refine lv_goto (tgt := 382) hx hb dMM_effect_39 (by decide) ?_
    rw [hQ]
    exact W.vret hx hb hr (fun t ht hW => ⟨⟨(I4, F4), rfl, hw, by subst ht; exact hP⟩, hS.F ht⟩) hS.2.2 dMM_effect_382
  have J22 : ∀ (x1 : Int32) (x2 : Int32) (x3 : Int32) (I : SI) (F : SF) (H : Heap) (locs : List Loc) (ls : Array Slot), lv_has ls 6 [(0, .ref (a 0)), (1, .int x1), (2, .int x2), (3, .int x3)] → va_P D vwCl (mw a cI cZ I F) H → va_S (xA 26 a s.heap.size) s.heap H locs → wp_MM_effect_22 Post x1 x2 x3 I F → W p l e (headSpec (Cond.code y_MM_effect b_MM_effect 6 none :: TB) { frames := 2, cells := 0, slots := 0, locals := 47 }).room s m ([.ref (a 0), .int p1, .int p2, .int p3]).toArray below meth c H locs 0 0 Q (F0 m 22 ls []) := by
    intro x1 x2 x3 I F H locs ls hl hP hS hw
    dsimp only [wp_MM_effect_22] at hw
    refine lv_aload_n hx hb dMM_effect_22 rfl (lv_at hl 0 rfl) ?_
    refine lv_iload_n hx hb dMM_effect_23 rfl (lv_at hl 1 rfl) ?_
    refine lv_iload_n hx hb dMM_effect_24 rfl (lv_at hl 3 rfl) ?_
    refine lv_iload_n hx hb dMM_effect_25 rfl (lv_at hl 2 rfl) ?_
    refine lv_iconst (v := 1) hx hb dMM_effect_26 (by decide) ?_
    refine lv_icmp_ne (tgt := 34) hx hb dMM_effect_27 (by decide) (fun h3 => ?_) (fun h3 => ?_)
    · have hw := hw.1 h3
      refine lv_iconst (v := 2) hx hb dMM_effect_34 (by decide) ?_
      exact J35 2 x3 x1 I F H locs ls (lv_sub hl [] rfl) hP hS hw
    · have hw := hw.2 h3
      refine lv_iconst (v := 1) hx hb dMM_effect_30 (by decide) ?_
      refine lv_goto (tgt := 35) hx hb dMM_effect_31 (by decide) ?_
      exact J35 1 x3 x1 I F H locs ls (lv_sub hl [] rfl) hP hS hw
  have J65 : ∀ (s0 : Int32) (s1 : Int32) (s2 : Int32) (I : SI) (F : SF) (H : Heap) (locs : List Loc) (ls : Array Slot), lv_has ls 6 [] → va_P D vwCl (mw a cI cZ I F) H → va_S (xA 26 a s.heap.size) s.heap H locs → wp_MM_effect_65 Post s0 s1 s2 I F → W p l e (headSpec (Cond.code y_MM_effect b_MM_effect 6 none :: TB) { frames := 2, cells := 0, slots := 0, locals := 47 }).room s m ([.ref (a 0), .int p1, .int p2, .int p3]).toArray below meth c H locs 0 0 Q (F0 m 65 ls [.int s0, .int s1, .int s2, .ref (a 0)]) := by
    intro s0 s1 s2 I F H locs ls hl hP hS hw
    dsimp only [wp_MM_effect_65] at hw
    refine lv_iconst (v := 0) hx hb dMM_effect_65 (by decide) ?_
    obtain ⟨P8, hc8, hw⟩ := hw
    refine mc_v (va_runV (As := [.int s2, .int s1, .int s0, .int 0]) (rest := []) ⟨hx, hb, hml, hown, hts⟩ (c_MM_local l D a cI cZ hJ I F s2 s1 s0 0 H.size P8 hc8) (cwV 4 hts (tb_V (C := "CodeJudgeModel") wc_MM_local tw_4_236 tw_4_238 tw_0_29 tw_1_9) rfl rfl rfl (by decide +kernel) ⟨Nat.le_of_ble_eq_true rfl, Nat.le_of_ble_eq_true rfl⟩) ⟨mP_bl, va_recv hK hP rfl mw_0, mP_at hP hK⟩ rfl rfl hl.1 rfl (lv_room (Nat.le_of_ble_eq_true rfl)) dMM_effect_66 ⟨Nat.le_of_ble_eq_true rfl, Nat.le_of_ble_eq_true rfl⟩) hS (fun I8 F8 H locs hP hp8 hS => ?_)
    have hw := hw I8 F8 hp8
    refine lv_goto (tgt := 382) hx hb dMM_effect_69 (by decide) ?_
    rw [hQ]
    exact W.vret hx hb hr (fun t ht hW => ⟨⟨(I8, F8), rfl, hw, by subst ht; exact hP⟩, hS.F ht⟩) hS.2.2 dMM_effect_382
  have J52 : ∀ (x1 : Int32) (x2 : Int32) (x3 : Int32) (I : SI) (F : SF) (H : Heap) (locs : List Loc) (ls : Array Slot), lv_has ls 6 [(0, .ref (a 0)), (1, .int x1), (2, .int x2), (3, .int x3)] → va_P D vwCl (mw a cI cZ I F) H → va_S (xA 26 a s.heap.size) s.heap H locs → wp_MM_effect_52 Post x1 x2 x3 I F → W p l e (headSpec (Cond.code y_MM_effect b_MM_effect 6 none :: TB) { frames := 2, cells := 0, slots := 0, locals := 47 }).room s m ([.ref (a 0), .int p1, .int p2, .int p3]).toArray below meth c H locs 0 0 Q (F0 m 52 ls []) := by
    intro x1 x2 x3 I F H locs ls hl hP hS hw
    dsimp only [wp_MM_effect_52] at hw
    refine lv_aload_n hx hb dMM_effect_52 rfl (lv_at hl 0 rfl) ?_
    refine lv_iload_n hx hb dMM_effect_53 rfl (lv_at hl 1 rfl) ?_
    refine lv_iload_n hx hb dMM_effect_54 rfl (lv_at hl 3 rfl) ?_
    refine lv_iload_n hx hb dMM_effect_55 rfl (lv_at hl 2 rfl) ?_
    refine lv_iconst (v := 2) hx hb dMM_effect_56 (by decide) ?_
    refine lv_icmp_ne (tgt := 64) hx hb dMM_effect_57 (by decide) (fun h7 => ?_) (fun h7 => ?_)
    · have hw := hw.1 h7
      refine lv_iconst (v := 2) hx hb dMM_effect_64 (by decide) ?_
      exact J65 2 x3 x1 I F H locs ls (lv_sub hl [] rfl) hP hS hw
    · have hw := hw.2 h7
      refine lv_iconst (v := 1) hx hb dMM_effect_60 (by decide) ?_
      refine lv_goto (tgt := 65) hx hb dMM_effect_61 (by decide) ?_
      exact J65 1 x3 x1 I F H locs ls (lv_sub hl [] rfl) hP hS hw
  have J117 : ∀ (s0 : Int32) (I : SI) (F : SF) (H : Heap) (locs : List Loc) (ls : Array Slot), lv_has ls 6 [(0, .ref (a 0))] → va_P D vwCl (mw a cI cZ I F) H → va_S (xA 26 a s.heap.size) s.heap H locs → wp_MM_effect_117 Post s0 I F → W p l e (headSpec (Cond.code y_MM_effect b_MM_effect 6 none :: TB) { frames := 2, cells := 0, slots := 0, locals := 47 }).room s m ([.ref (a 0), .int p1, .int p2, .int p3]).toArray below meth c H locs 0 0 Q (F0 m 117 ls [.int s0, .ref (a 0)]) := by
    intro s0 I F H locs ls hl hP hS hw
    dsimp only [wp_MM_effect_117] at hw
    refine lv_iconst (v := 0) hx hb dMM_effect_117 (by decide) ?_
    refine lv_iconst (v := 0) hx hb dMM_effect_118 (by decide) ?_
    obtain ⟨P13, hc13, hw⟩ := hw
    refine mc_v (va_runV (As := [.int s0, .int 0, .int 0]) (rest := []) ⟨hx, hb, hml, hown, hts⟩ (c_MM_take l D a cI cZ hJ I F s0 0 0 H.size P13 hc13) (cwV 3 hts (tb_V (C := "CodeJudgeModel") wc_MM_take tw_5_4 tw_5_6 tw_0_31 tw_1_9) rfl rfl rfl (by decide +kernel) ⟨Nat.le_of_ble_eq_true rfl, Nat.le_of_ble_eq_true rfl⟩) ⟨mP_bl, va_recv hK hP rfl mw_0, mP_at hP hK⟩ rfl rfl hl.1 rfl (lv_room (Nat.le_of_ble_eq_true rfl)) dMM_effect_119 ⟨Nat.le_of_ble_eq_true rfl, Nat.le_of_ble_eq_true rfl⟩) hS (fun I13 F13 H locs hP hp13 hS => ?_)
    have hw := hw I13 F13 hp13
    refine lv_aload_n hx hb dMM_effect_122 rfl (lv_at hl 0 rfl) ?_
    refine lv_iconst (v := 2) hx hb dMM_effect_123 (by decide) ?_
    obtain ⟨P14, hc14, hw⟩ := hw
    refine mc_v (va_runV (As := [.int 2]) (rest := []) ⟨hx, hb, hml, hown, hts⟩ (c_MM_push l D a cI cZ hJ I13 F13 2 H.size P14 hc14) (cwV 1 hts (tb_V (C := "CodeJudgeModel") wc_MM_push tw_4_232 tw_4_234 tw_0_28 tw_1_9) rfl rfl rfl (by decide +kernel) ⟨Nat.le_of_ble_eq_true rfl, Nat.le_of_ble_eq_true rfl⟩) ⟨mP_bl, va_recv hK hP rfl mw_0, mP_at hP hK⟩ rfl rfl hl.1 rfl (lv_room (Nat.le_of_ble_eq_true rfl)) dMM_effect_124 ⟨Nat.le_of_ble_eq_true rfl, Nat.le_of_ble_eq_true rfl⟩) hS (fun I14 F14 H locs hP hp14 hS => ?_)
    have hw := hw I14 F14 hp14
    refine lv_goto (tgt := 382) hx hb dMM_effect_127 (by decide) ?_
    rw [hQ]
    exact W.vret hx hb hr (fun t ht hW => ⟨⟨(I14, F14), rfl, hw, by subst ht; exact hP⟩, hS.F ht⟩) hS.2.2 dMM_effect_382
  have J105 : ∀ (x2 : Int32) (I : SI) (F : SF) (H : Heap) (locs : List Loc) (ls : Array Slot), lv_has ls 6 [(0, .ref (a 0)), (2, .int x2)] → va_P D vwCl (mw a cI cZ I F) H → va_S (xA 26 a s.heap.size) s.heap H locs → wp_MM_effect_105 Post x2 I F → W p l e (headSpec (Cond.code y_MM_effect b_MM_effect 6 none :: TB) { frames := 2, cells := 0, slots := 0, locals := 47 }).room s m ([.ref (a 0), .int p1, .int p2, .int p3]).toArray below meth c H locs 0 0 Q (F0 m 105 ls []) := by
    intro x2 I F H locs ls hl hP hS hw
    dsimp only [wp_MM_effect_105] at hw
    refine lv_aload_n hx hb dMM_effect_105 rfl (lv_at hl 0 rfl) ?_
    refine lv_iload_n hx hb dMM_effect_106 rfl (lv_at hl 1 rfl) ?_
    refine lv_bipush (v := 10) hx hb dMM_effect_107 (by decide) ?_
    refine lv_icmp_ne (tgt := 116) hx hb dMM_effect_109 (by decide) (fun h12 => ?_) (fun h12 => ?_)
    · have hw := hw.1 h12
      refine lv_iconst (v := 0) hx hb dMM_effect_116 (by decide) ?_
      exact J117 0 I F H locs ls (lv_sub hl [0] rfl) hP hS hw
    · have hw := hw.2 h12
      refine lv_iconst (v := 1) hx hb dMM_effect_112 (by decide) ?_
      refine lv_goto (tgt := 117) hx hb dMM_effect_113 (by decide) ?_
      exact J117 1 I F H locs ls (lv_sub hl [0] rfl) hP hS hw
  have J200 : ∀ (I : SI) (F : SF) (H : Heap) (locs : List Loc) (ls : Array Slot), lv_has ls 6 [(0, .ref (a 0))] → va_P D vwCl (mw a cI cZ I F) H → va_S (xA 26 a s.heap.size) s.heap H locs → wp_MM_effect_200 Post I F → W p l e (headSpec (Cond.code y_MM_effect b_MM_effect 6 none :: TB) { frames := 2, cells := 0, slots := 0, locals := 47 }).room s m ([.ref (a 0), .int p1, .int p2, .int p3]).toArray below meth c H locs 0 0 Q (F0 m 200 ls []) := by
    intro I F H locs ls hl hP hS hw
    dsimp only [wp_MM_effect_200] at hw
    refine lv_aload_n hx hb dMM_effect_200 rfl (lv_at hl 0 rfl) ?_
    refine lv_iconst (v := 1) hx hb dMM_effect_201 (by decide) ?_
    refine lv_iconst (v := 0) hx hb dMM_effect_202 (by decide) ?_
    refine lv_iconst (v := 0) hx hb dMM_effect_203 (by decide) ?_
    obtain ⟨P20, hc20, hw⟩ := hw
    refine mc_v (va_runV (As := [.int 1, .int 0, .int 0]) (rest := []) ⟨hx, hb, hml, hown, hts⟩ (c_MM_take l D a cI cZ hJ I F 1 0 0 H.size P20 hc20) (cwV 3 hts (tb_V (C := "CodeJudgeModel") wc_MM_take tw_5_4 tw_5_6 tw_0_31 tw_1_9) rfl rfl rfl (by decide +kernel) ⟨Nat.le_of_ble_eq_true rfl, Nat.le_of_ble_eq_true rfl⟩) ⟨mP_bl, va_recv hK hP rfl mw_0, mP_at hP hK⟩ rfl rfl hl.1 rfl (lv_room (Nat.le_of_ble_eq_true rfl)) dMM_effect_204 ⟨Nat.le_of_ble_eq_true rfl, Nat.le_of_ble_eq_true rfl⟩) hS (fun I20 F20 H locs hP hp20 hS => ?_)
    have hw := hw I20 F20 hp20
    refine lv_goto (tgt := 382) hx hb dMM_effect_207 (by decide) ?_
    rw [hQ]
    exact W.vret hx hb hr (fun t ht hW => ⟨⟨(I20, F20), rfl, hw, by subst ht; exact hP⟩, hS.F ht⟩) hS.2.2 dMM_effect_382
  have J222 : ∀ (I : SI) (F : SF) (H : Heap) (locs : List Loc) (ls : Array Slot), lv_has ls 6 [(0, .ref (a 0))] → va_P D vwCl (mw a cI cZ I F) H → va_S (xA 26 a s.heap.size) s.heap H locs → wp_MM_effect_222 Post I F → W p l e (headSpec (Cond.code y_MM_effect b_MM_effect 6 none :: TB) { frames := 2, cells := 0, slots := 0, locals := 47 }).room s m ([.ref (a 0), .int p1, .int p2, .int p3]).toArray below meth c H locs 0 0 Q (F0 m 222 ls []) := by
    intro I F H locs ls hl hP hS hw
    dsimp only [wp_MM_effect_222] at hw
    refine lv_aload_n hx hb dMM_effect_222 rfl (lv_at hl 0 rfl) ?_
    refine lv_iconst (v := 1) hx hb dMM_effect_223 (by decide) ?_
    refine lv_iconst (v := 1) hx hb dMM_effect_224 (by decide) ?_
    refine lv_iconst (v := 0) hx hb dMM_effect_225 (by decide) ?_
    obtain ⟨P23, hc23, hw⟩ := hw
    refine mc_v (va_runV (As := [.int 1, .int 1, .int 0]) (rest := []) ⟨hx, hb, hml, hown, hts⟩ (c_MM_take l D a cI cZ hJ I F 1 1 0 H.size P23 hc23) (cwV 3 hts (tb_V (C := "CodeJudgeModel") wc_MM_take tw_5_4 tw_5_6 tw_0_31 tw_1_9) rfl rfl rfl (by decide +kernel) ⟨Nat.le_of_ble_eq_true rfl, Nat.le_of_ble_eq_true rfl⟩) ⟨mP_bl, va_recv hK hP rfl mw_0, mP_at hP hK⟩ rfl rfl hl.1 rfl (lv_room (Nat.le_of_ble_eq_true rfl)) dMM_effect_226 ⟨Nat.le_of_ble_eq_true rfl, Nat.le_of_ble_eq_true rfl⟩) hS (fun I23 F23 H locs hP hp23 hS => ?_)
    have hw := hw I23 F23 hp23
    refine lv_goto (tgt := 382) hx hb dMM_effect_229 (by decide) ?_
    rw [hQ]
    exact W.vret hx hb hr (fun t ht hW => ⟨⟨(I23, F23), rfl, hw, by subst ht; exact hP⟩, hS.F ht⟩) hS.2.2 dMM_effect_382
  have J379 : ∀ (s0 : Int32) (I : SI) (F : SF) (H : Heap) (locs : List Loc) (ls : Array Slot), lv_has ls 6 [] → va_P D vwCl (mw a cI cZ I F) H → va_S (xA 26 a s.heap.size) s.heap H locs → wp_MM_effect_379 Post s0 I F → W p l e (headSpec (Cond.code y_MM_effect b_MM_effect 6 none :: TB) { frames := 2, cells := 0, slots := 0, locals := 47 }).room s m ([.ref (a 0), .int p1, .int p2, .int p3]).toArray below meth c H locs 0 0 Q (F0 m 379 ls [.int s0, .ref (a 0)]) := by
    intro s0 I F H locs ls hl hP hS hw
    dsimp only [wp_MM_effect_379] at hw
    obtain ⟨h34, hw⟩ := hw
    refine va_put (D := D) (ci := 8) (v := .int s0) (ty := .boolean) (C := "CodeJudgeModel") (T := T_MM) (N := 37) hx hb hts in_MM ty_MM ok_MM nm_MM hown hK hP (mD hJ) hS 0 mw_0 rfl 15 (by decide) (hts (.fieldLink "CodeJudgeModel" 113 "CodeJudgeModel" "fails" "Z") tw_4_80) (fun _ h9 => h9) rfl (by decide +kernel) (bo_n h34) (bo_f h34) (Nat.le_of_ble_eq_true rfl) dMM_effect_379 (fun H locs hP _ hS => ?_)
    have hP := mwp_2 hP
    rw [hQ]
    exact W.vret hx hb hr (fun t ht hW => ⟨⟨((va_up I 2 s0), F), rfl, hw, by subst ht; exact hP⟩, hS.F ht⟩) hS.2.2 dMM_effect_382
  have J374 : ∀ (I : SI) (F : SF) (H : Heap) (locs : List Loc) (ls : Array Slot), lv_has ls 6 [] → va_P D vwCl (mw a cI cZ I F) H → va_S (xA 26 a s.heap.size) s.heap H locs → wp_MM_effect_374 Post I F → W p l e (headSpec (Cond.code y_MM_effect b_MM_effect 6 none :: TB) { frames := 2, cells := 0, slots := 0, locals := 47 }).room s m ([.ref (a 0), .int p1, .int p2, .int p3]).toArray below meth c H locs 0 0 Q (F0 m 374 ls [.ref (a 0)]) := by
    intro I F H locs ls hl hP hS hw
    dsimp only [wp_MM_effect_374] at hw
    refine lv_iconst (v := 1) hx hb dMM_effect_374 (by decide) ?_
    refine lv_goto (tgt := 379) hx hb dMM_effect_375 (by decide) ?_
    exact J379 1 I F H locs ls (lv_sub hl [] rfl) hP hS hw
  suffices hM : ∀ (H : Heap) (locs : List Loc), va_P D vwCl (mw a cI cZ I F) H → va_S (xA 26 a s.heap.size) s.heap H locs → W p l e (headSpec (Cond.code y_MM_effect b_MM_effect 6 none :: TB) { frames := 2, cells := 0, slots := 0, locals := 47 }).room s m ([.ref (a 0), .int p1, .int p2, .int p3]).toArray below meth c H locs 0 0 (Q) (F0 m 0 ls []) from hM s.heap [] hP va_S.rf
  clear hP
  intro H locs hP hS
  dsimp only [wp_MM_effect] at hw
  refine lv_iload_n hx hb dMM_effect_0 rfl (lv_at hl 2 rfl) ?_
  refine lv_if_ne (tgt := 12) hx hb dMM_effect_1 (by decide) (fun h1 => ?_) (fun h1 => ?_)
  · have hw := hw.1 h1
    refine lv_iload_n hx hb dMM_effect_12 rfl (lv_at hl 2 rfl) ?_
    refine lv_iconst (v := 1) hx hb dMM_effect_13 (by decide) ?_
    refine lv_icmp_eq (tgt := 22) hx hb dMM_effect_14 (by decide) (fun h2 => ?_) (fun h2 => ?_)
    · have hw := hw.1 h2
      exact J22 p1 p2 p3 I F H locs ls (lv_sub hl [0, 1, 2, 3] rfl) hP hS hw
    · have hw := hw.2 h2
      refine lv_iload_n hx hb dMM_effect_17 rfl (lv_at hl 2 rfl) ?_
      refine lv_iconst (v := 3) hx hb dMM_effect_18 (by decide) ?_
      refine lv_icmp_ne (tgt := 42) hx hb dMM_effect_19 (by decide) (fun h5 => ?_) (fun h5 => ?_)
      · have hw := hw.1 h5
        refine lv_iload_n hx hb dMM_effect_42 rfl (lv_at hl 2 rfl) ?_
        refine lv_iconst (v := 2) hx hb dMM_effect_43 (by decide) ?_
        refine lv_icmp_eq (tgt := 52) hx hb dMM_effect_44 (by decide) (fun h6 => ?_) (fun h6 => ?_)
        · have hw := hw.1 h6
          exact J52 p1 p2 p3 I F H locs ls (lv_sub hl [0, 1, 2, 3] rfl) hP hS hw
        · have hw := hw.2 h6
          refine lv_iload_n hx hb dMM_effect_47 rfl (lv_at hl 2 rfl) ?_
          refine lv_iconst (v := 4) hx hb dMM_effect_48 (by decide) ?_
          refine lv_icmp_ne (tgt := 72) hx hb dMM_effect_49 (by decide) (fun h9 => ?_) (fun h9 => ?_)
          · have hw := hw.1 h9
            refine lv_iload_n hx hb dMM_effect_72 rfl (lv_at hl 2 rfl) ?_
            refine lv_bipush (v := 10) hx hb dMM_effect_73 (by decide) ?_
            refine lv_icmp_ge (tgt := 93) hx hb dMM_effect_75 (by decide) (fun h10 => ?_) (fun h10 => ?_)
            · have hw := hw.1 h10
              refine lv_iload_n hx hb dMM_effect_93 rfl (lv_at hl 2 rfl) ?_
              refine lv_bipush (v := 10) hx hb dMM_effect_94 (by decide) ?_
              refine lv_icmp_eq (tgt := 105) hx hb dMM_effect_96 (by decide) (fun h11 => ?_) (fun h11 => ?_)
              · have hw := hw.1 h11
                exact J105 p2 I F H locs ls (lv_sub hl [0, 2] rfl) hP hS hw
              · have hw := hw.2 h11
                refine lv_iload_n hx hb dMM_effect_99 rfl (lv_at hl 2 rfl) ?_
                refine lv_bipush (v := 18) hx hb dMM_effect_100 (by decide) ?_
                refine lv_icmp_ne (tgt := 130) hx hb dMM_effect_102 (by decide) (fun h15 => ?_) (fun h15 => ?_)
                · have hw := hw.1 h15
                  refine lv_iload_n hx hb dMM_effect_130 rfl (lv_at hl 2 rfl) ?_
                  refine lv_bipush (v := 11) hx hb dMM_effect_131 (by decide) ?_
                  refine lv_icmp_ne (tgt := 151) hx hb dMM_effect_133 (by decide) (fun h16 => ?_) (fun h16 => ?_)
                  · have hw := hw.1 h16
                    refine lv_iload_n hx hb dMM_effect_151 rfl (lv_at hl 2 rfl) ?_
                    refine lv_bipush (v := 12) hx hb dMM_effect_152 (by decide) ?_
                    refine lv_icmp_ne (tgt := 172) hx hb dMM_effect_154 (by decide) (fun h17 => ?_) (fun h17 => ?_)
                    · have hw := hw.1 h17
                      refine lv_iload_n hx hb dMM_effect_172 rfl (lv_at hl 2 rfl) ?_
                      refine lv_bipush (v := 13) hx hb dMM_effect_173 (by decide) ?_
                      refine lv_icmp_ne (tgt := 188) hx hb dMM_effect_175 (by decide) (fun h18 => ?_) (fun h18 => ?_)
                      · have hw := hw.1 h18
                        refine lv_iload_n hx hb dMM_effect_188 rfl (lv_at hl 2 rfl) ?_
                        refine lv_bipush (v := 15) hx hb dMM_effect_189 (by decide) ?_
                        refine lv_icmp_eq (tgt := 200) hx hb dMM_effect_191 (by decide) (fun h19 => ?_) (fun h19 => ?_)
                        · have hw := hw.1 h19
                          exact J200 I F H locs ls (lv_sub hl [0] rfl) hP hS hw
                        · have hw := hw.2 h19
                          refine lv_iload_n hx hb dMM_effect_194 rfl (lv_at hl 2 rfl) ?_
                          refine lv_bipush (v := 25) hx hb dMM_effect_195 (by decide) ?_
                          refine lv_icmp_ne (tgt := 210) hx hb dMM_effect_197 (by decide) (fun h21 => ?_) (fun h21 => ?_)
                          · have hw := hw.1 h21
                            refine lv_iload_n hx hb dMM_effect_210 rfl (lv_at hl 2 rfl) ?_
                            refine lv_bipush (v := 16) hx hb dMM_effect_211 (by decide) ?_
                            refine lv_icmp_eq (tgt := 222) hx hb dMM_effect_213 (by decide) (fun h22 => ?_) (fun h22 => ?_)
                            · have hw := hw.1 h22
                              exact J222 I F H locs ls (lv_sub hl [0] rfl) hP hS hw
                            · have hw := hw.2 h22
                              refine lv_iload_n hx hb dMM_effect_216 rfl (lv_at hl 2 rfl) ?_
                              refine lv_bipush (v := 17) hx hb dMM_effect_217 (by decide) ?_
                              refine lv_icmp_ne (tgt := 232) hx hb dMM_effect_219 (by decide) (fun h24 => ?_) (fun h24 => ?_)
                              · have hw := hw.1 h24
                                refine lv_iload_n hx hb dMM_effect_232 rfl (lv_at hl 2 rfl) ?_
                                refine lv_bipush (v := 19) hx hb dMM_effect_233 (by decide) ?_
                                refine lv_icmp_ne (tgt := 248) hx hb dMM_effect_235 (by decide) (fun h25 => ?_) (fun h25 => ?_)
                                · have hw := hw.1 h25
                                  refine lv_iload_n hx hb dMM_effect_248 rfl (lv_at hl 2 rfl) ?_
                                  refine lv_bipush (v := 20) hx hb dMM_effect_249 (by decide) ?_
                                  refine lv_icmp_ne (tgt := 276) hx hb dMM_effect_251 (by decide) (fun h26 => ?_) (fun h26 => ?_)
                                  · have hw := hw.1 h26
                                    refine lv_iload_n hx hb dMM_effect_276 rfl (lv_at hl 2 rfl) ?_
                                    refine lv_bipush (v := 21) hx hb dMM_effect_277 (by decide) ?_
                                    refine lv_icmp_ne (tgt := 292) hx hb dMM_effect_279 (by decide) (fun h27 => ?_) (fun h27 => ?_)
                                    · have hw := hw.1 h27
                                      refine lv_iload_n hx hb dMM_effect_292 rfl (lv_at hl 2 rfl) ?_
                                      refine lv_bipush (v := 22) hx hb dMM_effect_293 (by decide) ?_
                                      refine lv_icmp_ne (tgt := 327) hx hb dMM_effect_295 (by decide) (fun h28 => ?_) (fun h28 => ?_)
                                      · have hw := hw.1 h28
                                        refine lv_iload_n hx hb dMM_effect_327 rfl (lv_at hl 2 rfl) ?_
                                        refine lv_bipush (v := 23) hx hb dMM_effect_328 (by decide) ?_
                                        refine lv_icmp_ne (tgt := 341) hx hb dMM_effect_330 (by decide) (fun h29 => ?_) (fun h29 => ?_)
                                        · have hw := hw.1 h29
                                          refine lv_iload_n hx hb dMM_effect_341 rfl (lv_at hl 2 rfl) ?_
                                          refine lv_bipush (v := 24) hx hb dMM_effect_342 (by decide) ?_
                                          refine lv_icmp_ne (tgt := 382) hx hb dMM_effect_344 (by decide) (fun h30 => ?_) (fun h30 => ?_)
                                          · have hw := hw.1 h30
                                            rw [hQ]
                                            exact W.vret hx hb hr (fun t ht hW => ⟨⟨(I, F), rfl, hw, by subst ht; exact hP⟩, hS.F ht⟩) hS.2.2 dMM_effect_382
                                          · have hw := hw.2 h30
                                            refine lv_aload_n hx hb dMM_effect_347 rfl (lv_at hl 0 rfl) ?_
                                            refine lv_aload_n hx hb dMM_effect_348 rfl (lv_at hl 0 rfl) ?_
                                            refine va_get (D := D) (v := .ref (a 4)) (ci := 8) (C := "CodeJudgeModel") (T := T_MM) (N := 37) hx hb hts in_MM hown hK hP 0 mw_0 rfl 4 (by decide) (hts (.fieldLink "CodeJudgeModel" 20 "CodeJudgeModel" "returns" "[I") tw_4_70) (fun _ h9 => h9) rfl dMM_effect_349 ?_
                                            refine lv_iload_n hx hb dMM_effect_352 rfl (lv_at hl 1 rfl) ?_
                                            obtain ⟨h31, hw⟩ := hw
                                            refine va_iald hx hb hK hP 4 0 mw_4 rfl h31 dMM_effect_353 ?_
                                            refine lv_iconst (v := 0) hx hb dMM_effect_354 (by decide) ?_
                                            refine lv_iconst (v := 0) hx hb dMM_effect_355 (by decide) ?_
                                            obtain ⟨P32, hc32, hw⟩ := hw
                                            refine mc_v (va_runV (As := [.int ((F 4) p1.toNatClampNeg), .int 0, .int 0]) (rest := []) ⟨hx, hb, hml, hown, hts⟩ (c_MM_take l D a cI cZ hJ I F ((F 4) p1.toNatClampNeg) 0 0 H.size P32 hc32) (cwV 3 hts (tb_V (C := "CodeJudgeModel") wc_MM_take tw_5_4 tw_5_6 tw_0_31 tw_1_9) rfl rfl rfl (by decide +kernel) ⟨Nat.le_of_ble_eq_true rfl, Nat.le_of_ble_eq_true rfl⟩) ⟨mP_bl, va_recv hK hP rfl mw_0, mP_at hP hK⟩ rfl rfl hl.1 rfl (lv_room (Nat.le_of_ble_eq_true rfl)) dMM_effect_356 ⟨Nat.le_of_ble_eq_true rfl, Nat.le_of_ble_eq_true rfl⟩) hS (fun I32 F32 H locs hP hp32 hS => ?_)
                                            have hw := hw I32 F32 hp32
                                            refine lv_aload_n hx hb dMM_effect_359 rfl (lv_at hl 0 rfl) ?_
                                            refine lv_aload_n hx hb dMM_effect_360 rfl (lv_at hl 0 rfl) ?_
                                            refine va_get (D := D) (v := .int (I32 2)) (ci := 8) (C := "CodeJudgeModel") (T := T_MM) (N := 37) hx hb hts in_MM hown hK hP 0 mw_0 rfl 15 (by decide) (hts (.fieldLink "CodeJudgeModel" 113 "CodeJudgeModel" "fails" "Z") tw_4_80) (fun _ h9 => h9) rfl dMM_effect_361 ?_
                                            refine lv_if_ne (tgt := 374) hx hb dMM_effect_364 (by decide) (fun h33 => ?_) (fun h33 => ?_)
                                            · have hw := hw.1 h33
                                              exact J374 I32 F32 H locs ls (lv_sub hl [] rfl) hP hS hw
                                            · have hw := hw.2 h33
                                              refine lv_aload_n hx hb dMM_effect_367 rfl (lv_at hl 0 rfl) ?_
                                              refine va_get (D := D) (v := .int (I32 3)) (ci := 8) (C := "CodeJudgeModel") (T := T_MM) (N := 37) hx hb hts in_MM hown hK hP 0 mw_0 rfl 16 (by decide) (hts (.fieldLink "CodeJudgeModel" 110 "CodeJudgeModel" "high" "I") tw_4_81) (fun _ h9 => h9) rfl dMM_effect_368 ?_
                                              refine lv_if_le (tgt := 378) hx hb dMM_effect_371 (by decide) (fun h35 => ?_) (fun h35 => ?_)
                                              · have hw := hw.1 h35
                                                refine lv_iconst (v := 0) hx hb dMM_effect_378 (by decide) ?_
                                                exact J379 0 I32 F32 H locs ls (lv_sub hl [] rfl) hP hS hw
                                              · have hw := hw.2 h35
                                                exact J374 I32 F32 H locs ls (lv_sub hl [] rfl) hP hS hw
                                        · have hw := hw.2 h29
                                          refine lv_aload_n hx hb dMM_effect_333 rfl (lv_at hl 0 rfl) ?_
                                          refine lv_iload_n hx hb dMM_effect_334 rfl (lv_at hl 3 rfl) ?_
                                          obtain ⟨P36, hc36, hw⟩ := hw
                                          refine mc_v (va_runV (As := [.int p3]) (rest := []) ⟨hx, hb, hml, hown, hts⟩ (c_MM_call l D a cI cZ hJ I F p3 H.size P36 hc36) (cwV 1 hts (tb_V (C := "CodeJudgeModel") wc_MM_call tw_5_8 tw_5_10 tw_0_32 tw_1_9) rfl rfl rfl (by decide +kernel) ⟨Nat.le_of_ble_eq_true rfl, Nat.le_of_ble_eq_true rfl⟩) ⟨mP_bl, va_recv hK hP rfl mw_0, mP_at hP hK⟩ rfl rfl hl.1 rfl (lv_room (Nat.le_of_ble_eq_true rfl)) dMM_effect_335 ⟨Nat.le_of_ble_eq_true rfl, Nat.le_of_ble_eq_true rfl⟩) hS (fun I36 F36 H locs hP hp36 hS => ?_)
                                          have hw := hw I36 F36 hp36
                                          refine lv_goto (tgt := 382) hx hb dMM_effect_338 (by decide) ?_
                                          rw [hQ]
                                          exact W.vret hx hb hr (fun t ht hW => ⟨⟨(I36, F36), rfl, hw, by subst ht; exact hP⟩, hS.F ht⟩) hS.2.2 dMM_effect_382
                                      · have hw := hw.2 h28
                                        refine lv_aload_n hx hb dMM_effect_298 rfl (lv_at hl 0 rfl) ?_
                                        refine lv_iconst (v := 0) hx hb dMM_effect_299 (by decide) ?_
                                        obtain ⟨P37, hc37, hw⟩ := hw
                                        refine mc_i (va_runV (As := [.int 0]) (rest := []) ⟨hx, hb, hml, hown, hts⟩ (c_MM_pop l D a cI cZ hJ I F 0 H.size P37 hc37) (cwV 1 hts (tb_V (C := "CodeJudgeModel") wc_MM_pop tw_5_0 tw_5_2 tw_0_30 tw_1_9) rfl rfl rfl (by decide +kernel) ⟨Nat.le_of_ble_eq_true rfl, Nat.le_of_ble_eq_true rfl⟩) ⟨mP_bl, va_recv hK hP rfl mw_0, mP_at hP hK⟩ rfl rfl hl.1 rfl (lv_room (Nat.le_of_ble_eq_true rfl)) dMM_effect_300 ⟨Nat.le_of_ble_eq_true rfl, Nat.le_of_ble_eq_true rfl⟩) hS (fun r37 I37 F37 H locs hP hp37 hS => ?_)
                                        have hw := hw r37 I37 F37 hp37
                                        refine lv_istore (lv' := [(4, .int r37), (0, .ref (a 0)), (1, .int p1), (2, .int p2), (3, .int p3)]) hx hb dMM_effect_303 hl (by decide) rfl (fun ls hl => ?_)
                                        refine lv_aload_n hx hb dMM_effect_305 rfl (lv_at hl 1 rfl) ?_
                                        refine lv_iconst (v := 0) hx hb dMM_effect_306 (by decide) ?_
                                        obtain ⟨P38, hc38, hw⟩ := hw
                                        refine mc_i (va_runV (As := [.int 0]) (rest := []) ⟨hx, hb, hml, hown, hts⟩ (c_MM_pop l D a cI cZ hJ I37 F37 0 H.size P38 hc38) (cwV 1 hts (tb_V (C := "CodeJudgeModel") wc_MM_pop tw_5_0 tw_5_2 tw_0_30 tw_1_9) rfl rfl rfl (by decide +kernel) ⟨Nat.le_of_ble_eq_true rfl, Nat.le_of_ble_eq_true rfl⟩) ⟨mP_bl, va_recv hK hP rfl mw_0, mP_at hP hK⟩ rfl rfl hl.1 rfl (lv_room (Nat.le_of_ble_eq_true rfl)) dMM_effect_307 ⟨Nat.le_of_ble_eq_true rfl, Nat.le_of_ble_eq_true rfl⟩) hS (fun r38 I38 F38 H locs hP hp38 hS => ?_)
                                        have hw := hw r38 I38 F38 hp38
                                        refine lv_istore (lv' := [(5, .int r38), (4, .int r37), (0, .ref (a 0)), (1, .int p1), (2, .int p2), (3, .int p3)]) hx hb dMM_effect_310 hl (by decide) rfl (fun ls hl => ?_)
                                        refine lv_aload_n hx hb dMM_effect_312 rfl (lv_at hl 2 rfl) ?_
                                        refine lv_iload hx hb dMM_effect_313 (lv_at hl 1 rfl) ?_
                                        obtain ⟨P39, hc39, hw⟩ := hw
                                        refine mc_v (va_runV (As := [.int r37]) (rest := []) ⟨hx, hb, hml, hown, hts⟩ (c_MM_push l D a cI cZ hJ I38 F38 r37 H.size P39 hc39) (cwV 1 hts (tb_V (C := "CodeJudgeModel") wc_MM_push tw_4_232 tw_4_234 tw_0_28 tw_1_9) rfl rfl rfl (by decide +kernel) ⟨Nat.le_of_ble_eq_true rfl, Nat.le_of_ble_eq_true rfl⟩) ⟨mP_bl, va_recv hK hP rfl mw_0, mP_at hP hK⟩ rfl rfl hl.1 rfl (lv_room (Nat.le_of_ble_eq_true rfl)) dMM_effect_315 ⟨Nat.le_of_ble_eq_true rfl, Nat.le_of_ble_eq_true rfl⟩) hS (fun I39 F39 H locs hP hp39 hS => ?_)
                                        have hw := hw I39 F39 hp39
                                        refine lv_aload_n hx hb dMM_effect_318 rfl (lv_at hl 2 rfl) ?_
                                        refine lv_iload hx hb dMM_effect_319 (lv_at hl 0 rfl) ?_
                                        obtain ⟨P40, hc40, hw⟩ := hw
                                        refine mc_v (va_runV (As := [.int r38]) (rest := []) ⟨hx, hb, hml, hown, hts⟩ (c_MM_push l D a cI cZ hJ I39 F39 r38 H.size P40 hc40) (cwV 1 hts (tb_V (C := "CodeJudgeModel") wc_MM_push tw_4_232 tw_4_234 tw_0_28 tw_1_9) rfl rfl rfl (by decide +kernel) ⟨Nat.le_of_ble_eq_true rfl, Nat.le_of_ble_eq_true rfl⟩) ⟨mP_bl, va_recv hK hP rfl mw_0, mP_at hP hK⟩ rfl rfl hl.1 rfl (lv_room (Nat.le_of_ble_eq_true rfl)) dMM_effect_321 ⟨Nat.le_of_ble_eq_true rfl, Nat.le_of_ble_eq_true rfl⟩) hS (fun I40 F40 H locs hP hp40 hS => ?_)
                                        have hw := hw I40 F40 hp40
                                        refine lv_goto (tgt := 382) hx hb dMM_effect_324 (by decide) ?_
                                        rw [hQ]
                                        exact W.vret hx hb hr (fun t ht hW => ⟨⟨(I40, F40), rfl, hw, by subst ht; exact hP⟩, hS.F ht⟩) hS.2.2 dMM_effect_382
                                    · have hw := hw.2 h27
                                      refine lv_aload_n hx hb dMM_effect_282 rfl (lv_at hl 0 rfl) ?_
                                      refine lv_iconst (v := 0) hx hb dMM_effect_283 (by decide) ?_
                                      obtain ⟨P41, hc41, hw⟩ := hw
                                      refine mc_i (va_runV (As := [.int 0]) (rest := []) ⟨hx, hb, hml, hown, hts⟩ (c_MM_pop l D a cI cZ hJ I F 0 H.size P41 hc41) (cwV 1 hts (tb_V (C := "CodeJudgeModel") wc_MM_pop tw_5_0 tw_5_2 tw_0_30 tw_1_9) rfl rfl rfl (by decide +kernel) ⟨Nat.le_of_ble_eq_true rfl, Nat.le_of_ble_eq_true rfl⟩) ⟨mP_bl, va_recv hK hP rfl mw_0, mP_at hP hK⟩ rfl rfl hl.1 rfl (lv_room (Nat.le_of_ble_eq_true rfl)) dMM_effect_284 ⟨Nat.le_of_ble_eq_true rfl, Nat.le_of_ble_eq_true rfl⟩) hS (fun r41 I41 F41 H locs hP hp41 hS => ?_)
                                      have hw := hw r41 I41 F41 hp41
                                      refine lv_istore (lv' := [(4, .int r41), (0, .ref (a 0)), (1, .int p1), (2, .int p2), (3, .int p3)]) hx hb dMM_effect_287 hl (by decide) rfl (fun ls hl => ?_)
                                      refine lv_goto (tgt := 382) hx hb dMM_effect_289 (by decide) ?_
                                      rw [hQ]
                                      exact W.vret hx hb hr (fun t ht hW => ⟨⟨(I41, F41), rfl, hw, by subst ht; exact hP⟩, hS.F ht⟩) hS.2.2 dMM_effect_382
                                  · have hw := hw.2 h26
                                    refine lv_aload_n hx hb dMM_effect_254 rfl (lv_at hl 0 rfl) ?_
                                    refine lv_iconst (v := 0) hx hb dMM_effect_255 (by decide) ?_
                                    obtain ⟨P42, hc42, hw⟩ := hw
                                    refine mc_i (va_runV (As := [.int 0]) (rest := []) ⟨hx, hb, hml, hown, hts⟩ (c_MM_pop l D a cI cZ hJ I F 0 H.size P42 hc42) (cwV 1 hts (tb_V (C := "CodeJudgeModel") wc_MM_pop tw_5_0 tw_5_2 tw_0_30 tw_1_9) rfl rfl rfl (by decide +kernel) ⟨Nat.le_of_ble_eq_true rfl, Nat.le_of_ble_eq_true rfl⟩) ⟨mP_bl, va_recv hK hP rfl mw_0, mP_at hP hK⟩ rfl rfl hl.1 rfl (lv_room (Nat.le_of_ble_eq_true rfl)) dMM_effect_256 ⟨Nat.le_of_ble_eq_true rfl, Nat.le_of_ble_eq_true rfl⟩) hS (fun r42 I42 F42 H locs hP hp42 hS => ?_)
                                    have hw := hw r42 I42 F42 hp42
                                    refine lv_istore (lv' := [(4, .int r42), (0, .ref (a 0)), (1, .int p1), (2, .int p2), (3, .int p3)]) hx hb dMM_effect_259 hl (by decide) rfl (fun ls hl => ?_)
                                    refine lv_aload_n hx hb dMM_effect_261 rfl (lv_at hl 1 rfl) ?_
                                    refine lv_iload hx hb dMM_effect_262 (lv_at hl 0 rfl) ?_
                                    obtain ⟨P43, hc43, hw⟩ := hw
                                    refine mc_v (va_runV (As := [.int r42]) (rest := []) ⟨hx, hb, hml, hown, hts⟩ (c_MM_push l D a cI cZ hJ I42 F42 r42 H.size P43 hc43) (cwV 1 hts (tb_V (C := "CodeJudgeModel") wc_MM_push tw_4_232 tw_4_234 tw_0_28 tw_1_9) rfl rfl rfl (by decide +kernel) ⟨Nat.le_of_ble_eq_true rfl, Nat.le_of_ble_eq_true rfl⟩) ⟨mP_bl, va_recv hK hP rfl mw_0, mP_at hP hK⟩ rfl rfl hl.1 rfl (lv_room (Nat.le_of_ble_eq_true rfl)) dMM_effect_264 ⟨Nat.le_of_ble_eq_true rfl, Nat.le_of_ble_eq_true rfl⟩) hS (fun I43 F43 H locs hP hp43 hS => ?_)
                                    have hw := hw I43 F43 hp43
                                    refine lv_aload_n hx hb dMM_effect_267 rfl (lv_at hl 1 rfl) ?_
                                    refine lv_iload hx hb dMM_effect_268 (lv_at hl 0 rfl) ?_
                                    obtain ⟨P44, hc44, hw⟩ := hw
                                    refine mc_v (va_runV (As := [.int r42]) (rest := []) ⟨hx, hb, hml, hown, hts⟩ (c_MM_push l D a cI cZ hJ I43 F43 r42 H.size P44 hc44) (cwV 1 hts (tb_V (C := "CodeJudgeModel") wc_MM_push tw_4_232 tw_4_234 tw_0_28 tw_1_9) rfl rfl rfl (by decide +kernel) ⟨Nat.le_of_ble_eq_true rfl, Nat.le_of_ble_eq_true rfl⟩) ⟨mP_bl, va_recv hK hP rfl mw_0, mP_at hP hK⟩ rfl rfl hl.1 rfl (lv_room (Nat.le_of_ble_eq_true rfl)) dMM_effect_270 ⟨Nat.le_of_ble_eq_true rfl, Nat.le_of_ble_eq_true rfl⟩) hS (fun I44 F44 H locs hP hp44 hS => ?_)
                                    have hw := hw I44 F44 hp44
                                    refine lv_goto (tgt := 382) hx hb dMM_effect_273 (by decide) ?_
                                    rw [hQ]
                                    exact W.vret hx hb hr (fun t ht hW => ⟨⟨(I44, F44), rfl, hw, by subst ht; exact hP⟩, hS.F ht⟩) hS.2.2 dMM_effect_382
                                · have hw := hw.2 h25
                                  refine lv_aload_n hx hb dMM_effect_238 rfl (lv_at hl 0 rfl) ?_
                                  refine lv_iconst (v := 2) hx hb dMM_effect_239 (by decide) ?_
                                  refine lv_iconst (v := 0) hx hb dMM_effect_240 (by decide) ?_
                                  refine lv_iconst (v := 0) hx hb dMM_effect_241 (by decide) ?_
                                  obtain ⟨P45, hc45, hw⟩ := hw
                                  refine mc_v (va_runV (As := [.int 2, .int 0, .int 0]) (rest := []) ⟨hx, hb, hml, hown, hts⟩ (c_MM_take l D a cI cZ hJ I F 2 0 0 H.size P45 hc45) (cwV 3 hts (tb_V (C := "CodeJudgeModel") wc_MM_take tw_5_4 tw_5_6 tw_0_31 tw_1_9) rfl rfl rfl (by decide +kernel) ⟨Nat.le_of_ble_eq_true rfl, Nat.le_of_ble_eq_true rfl⟩) ⟨mP_bl, va_recv hK hP rfl mw_0, mP_at hP hK⟩ rfl rfl hl.1 rfl (lv_room (Nat.le_of_ble_eq_true rfl)) dMM_effect_242 ⟨Nat.le_of_ble_eq_true rfl, Nat.le_of_ble_eq_true rfl⟩) hS (fun I45 F45 H locs hP hp45 hS => ?_)
                                  have hw := hw I45 F45 hp45
                                  refine lv_goto (tgt := 382) hx hb dMM_effect_245 (by decide) ?_
                                  rw [hQ]
                                  exact W.vret hx hb hr (fun t ht hW => ⟨⟨(I45, F45), rfl, hw, by subst ht; exact hP⟩, hS.F ht⟩) hS.2.2 dMM_effect_382
                              · have hw := hw.2 h24
                                exact J222 I F H locs ls (lv_sub hl [0] rfl) hP hS hw
                          · have hw := hw.2 h21
                            exact J200 I F H locs ls (lv_sub hl [0] rfl) hP hS hw
                      · have hw := hw.2 h18
                        refine lv_aload_n hx hb dMM_effect_178 rfl (lv_at hl 0 rfl) ?_
                        refine lv_iconst (v := 1) hx hb dMM_effect_179 (by decide) ?_
                        refine lv_iconst (v := 1) hx hb dMM_effect_180 (by decide) ?_
                        refine lv_iconst (v := 2) hx hb dMM_effect_181 (by decide) ?_
                        obtain ⟨P46, hc46, hw⟩ := hw
                        refine mc_v (va_runV (As := [.int 1, .int 1, .int 2]) (rest := []) ⟨hx, hb, hml, hown, hts⟩ (c_MM_take l D a cI cZ hJ I F 1 1 2 H.size P46 hc46) (cwV 3 hts (tb_V (C := "CodeJudgeModel") wc_MM_take tw_5_4 tw_5_6 tw_0_31 tw_1_9) rfl rfl rfl (by decide +kernel) ⟨Nat.le_of_ble_eq_true rfl, Nat.le_of_ble_eq_true rfl⟩) ⟨mP_bl, va_recv hK hP rfl mw_0, mP_at hP hK⟩ rfl rfl hl.1 rfl (lv_room (Nat.le_of_ble_eq_true rfl)) dMM_effect_182 ⟨Nat.le_of_ble_eq_true rfl, Nat.le_of_ble_eq_true rfl⟩) hS (fun I46 F46 H locs hP hp46 hS => ?_)
                        have hw := hw I46 F46 hp46
                        refine lv_goto (tgt := 382) hx hb dMM_effect_185 (by decide) ?_
                        rw [hQ]
                        exact W.vret hx hb hr (fun t ht hW => ⟨⟨(I46, F46), rfl, hw, by subst ht; exact hP⟩, hS.F ht⟩) hS.2.2 dMM_effect_382
                    · have hw := hw.2 h17
                      refine lv_aload_n hx hb dMM_effect_157 rfl (lv_at hl 0 rfl) ?_
                      refine lv_iconst (v := 1) hx hb dMM_effect_158 (by decide) ?_
                      refine lv_iconst (v := 2) hx hb dMM_effect_159 (by decide) ?_
                      refine lv_iconst (v := 0) hx hb dMM_effect_160 (by decide) ?_
                      obtain ⟨P47, hc47, hw⟩ := hw
                      refine mc_v (va_runV (As := [.int 1, .int 2, .int 0]) (rest := []) ⟨hx, hb, hml, hown, hts⟩ (c_MM_take l D a cI cZ hJ I F 1 2 0 H.size P47 hc47) (cwV 3 hts (tb_V (C := "CodeJudgeModel") wc_MM_take tw_5_4 tw_5_6 tw_0_31 tw_1_9) rfl rfl rfl (by decide +kernel) ⟨Nat.le_of_ble_eq_true rfl, Nat.le_of_ble_eq_true rfl⟩) ⟨mP_bl, va_recv hK hP rfl mw_0, mP_at hP hK⟩ rfl rfl hl.1 rfl (lv_room (Nat.le_of_ble_eq_true rfl)) dMM_effect_161 ⟨Nat.le_of_ble_eq_true rfl, Nat.le_of_ble_eq_true rfl⟩) hS (fun I47 F47 H locs hP hp47 hS => ?_)
                      have hw := hw I47 F47 hp47
                      refine lv_aload_n hx hb dMM_effect_164 rfl (lv_at hl 0 rfl) ?_
                      refine lv_iconst (v := 1) hx hb dMM_effect_165 (by decide) ?_
                      obtain ⟨P48, hc48, hw⟩ := hw
                      refine mc_v (va_runV (As := [.int 1]) (rest := []) ⟨hx, hb, hml, hown, hts⟩ (c_MM_push l D a cI cZ hJ I47 F47 1 H.size P48 hc48) (cwV 1 hts (tb_V (C := "CodeJudgeModel") wc_MM_push tw_4_232 tw_4_234 tw_0_28 tw_1_9) rfl rfl rfl (by decide +kernel) ⟨Nat.le_of_ble_eq_true rfl, Nat.le_of_ble_eq_true rfl⟩) ⟨mP_bl, va_recv hK hP rfl mw_0, mP_at hP hK⟩ rfl rfl hl.1 rfl (lv_room (Nat.le_of_ble_eq_true rfl)) dMM_effect_166 ⟨Nat.le_of_ble_eq_true rfl, Nat.le_of_ble_eq_true rfl⟩) hS (fun I48 F48 H locs hP hp48 hS => ?_)
                      have hw := hw I48 F48 hp48
                      refine lv_goto (tgt := 382) hx hb dMM_effect_169 (by decide) ?_
                      rw [hQ]
                      exact W.vret hx hb hr (fun t ht hW => ⟨⟨(I48, F48), rfl, hw, by subst ht; exact hP⟩, hS.F ht⟩) hS.2.2 dMM_effect_382
                  · have hw := hw.2 h16
                    refine lv_aload_n hx hb dMM_effect_136 rfl (lv_at hl 0 rfl) ?_
                    refine lv_iconst (v := 2) hx hb dMM_effect_137 (by decide) ?_
                    refine lv_iconst (v := 0) hx hb dMM_effect_138 (by decide) ?_
                    refine lv_iconst (v := 0) hx hb dMM_effect_139 (by decide) ?_
                    obtain ⟨P49, hc49, hw⟩ := hw
                    refine mc_v (va_runV (As := [.int 2, .int 0, .int 0]) (rest := []) ⟨hx, hb, hml, hown, hts⟩ (c_MM_take l D a cI cZ hJ I F 2 0 0 H.size P49 hc49) (cwV 3 hts (tb_V (C := "CodeJudgeModel") wc_MM_take tw_5_4 tw_5_6 tw_0_31 tw_1_9) rfl rfl rfl (by decide +kernel) ⟨Nat.le_of_ble_eq_true rfl, Nat.le_of_ble_eq_true rfl⟩) ⟨mP_bl, va_recv hK hP rfl mw_0, mP_at hP hK⟩ rfl rfl hl.1 rfl (lv_room (Nat.le_of_ble_eq_true rfl)) dMM_effect_140 ⟨Nat.le_of_ble_eq_true rfl, Nat.le_of_ble_eq_true rfl⟩) hS (fun I49 F49 H locs hP hp49 hS => ?_)
                    have hw := hw I49 F49 hp49
                    refine lv_aload_n hx hb dMM_effect_143 rfl (lv_at hl 0 rfl) ?_
                    refine lv_iconst (v := 1) hx hb dMM_effect_144 (by decide) ?_
                    obtain ⟨P50, hc50, hw⟩ := hw
                    refine mc_v (va_runV (As := [.int 1]) (rest := []) ⟨hx, hb, hml, hown, hts⟩ (c_MM_push l D a cI cZ hJ I49 F49 1 H.size P50 hc50) (cwV 1 hts (tb_V (C := "CodeJudgeModel") wc_MM_push tw_4_232 tw_4_234 tw_0_28 tw_1_9) rfl rfl rfl (by decide +kernel) ⟨Nat.le_of_ble_eq_true rfl, Nat.le_of_ble_eq_true rfl⟩) ⟨mP_bl, va_recv hK hP rfl mw_0, mP_at hP hK⟩ rfl rfl hl.1 rfl (lv_room (Nat.le_of_ble_eq_true rfl)) dMM_effect_145 ⟨Nat.le_of_ble_eq_true rfl, Nat.le_of_ble_eq_true rfl⟩) hS (fun I50 F50 H locs hP hp50 hS => ?_)
                    have hw := hw I50 F50 hp50
                    refine lv_goto (tgt := 382) hx hb dMM_effect_148 (by decide) ?_
                    rw [hQ]
                    exact W.vret hx hb hr (fun t ht hW => ⟨⟨(I50, F50), rfl, hw, by subst ht; exact hP⟩, hS.F ht⟩) hS.2.2 dMM_effect_382
                · have hw := hw.2 h15
                  exact J105 p2 I F H locs ls (lv_sub hl [0, 2] rfl) hP hS hw
            · have hw := hw.2 h10
              refine lv_aload_n hx hb dMM_effect_78 rfl (lv_at hl 0 rfl) ?_
              refine lv_iconst (v := 1) hx hb dMM_effect_79 (by decide) ?_
              refine lv_iconst (v := 1) hx hb dMM_effect_80 (by decide) ?_
              refine lv_iconst (v := 0) hx hb dMM_effect_81 (by decide) ?_
              obtain ⟨P51, hc51, hw⟩ := hw
              refine mc_v (va_runV (As := [.int 1, .int 1, .int 0]) (rest := []) ⟨hx, hb, hml, hown, hts⟩ (c_MM_take l D a cI cZ hJ I F 1 1 0 H.size P51 hc51) (cwV 3 hts (tb_V (C := "CodeJudgeModel") wc_MM_take tw_5_4 tw_5_6 tw_0_31 tw_1_9) rfl rfl rfl (by decide +kernel) ⟨Nat.le_of_ble_eq_true rfl, Nat.le_of_ble_eq_true rfl⟩) ⟨mP_bl, va_recv hK hP rfl mw_0, mP_at hP hK⟩ rfl rfl hl.1 rfl (lv_room (Nat.le_of_ble_eq_true rfl)) dMM_effect_82 ⟨Nat.le_of_ble_eq_true rfl, Nat.le_of_ble_eq_true rfl⟩) hS (fun I51 F51 H locs hP hp51 hS => ?_)
              have hw := hw I51 F51 hp51
              refine lv_aload_n hx hb dMM_effect_85 rfl (lv_at hl 0 rfl) ?_
              refine lv_iconst (v := 1) hx hb dMM_effect_86 (by decide) ?_
              obtain ⟨P52, hc52, hw⟩ := hw
              refine mc_v (va_runV (As := [.int 1]) (rest := []) ⟨hx, hb, hml, hown, hts⟩ (c_MM_push l D a cI cZ hJ I51 F51 1 H.size P52 hc52) (cwV 1 hts (tb_V (C := "CodeJudgeModel") wc_MM_push tw_4_232 tw_4_234 tw_0_28 tw_1_9) rfl rfl rfl (by decide +kernel) ⟨Nat.le_of_ble_eq_true rfl, Nat.le_of_ble_eq_true rfl⟩) ⟨mP_bl, va_recv hK hP rfl mw_0, mP_at hP hK⟩ rfl rfl hl.1 rfl (lv_room (Nat.le_of_ble_eq_true rfl)) dMM_effect_87 ⟨Nat.le_of_ble_eq_true rfl, Nat.le_of_ble_eq_true rfl⟩) hS (fun I52 F52 H locs hP hp52 hS => ?_)
              have hw := hw I52 F52 hp52
              refine lv_goto (tgt := 382) hx hb dMM_effect_90 (by decide) ?_
              rw [hQ]
              exact W.vret hx hb hr (fun t ht hW => ⟨⟨(I52, F52), rfl, hw, by subst ht; exact hP⟩, hS.F ht⟩) hS.2.2 dMM_effect_382
          · have hw := hw.2 h9
            exact J52 p1 p2 p3 I F H locs ls (lv_sub hl [0, 1, 2, 3] rfl) hP hS hw
      · have hw := hw.2 h5
        exact J22 p1 p2 p3 I F H locs ls (lv_sub hl [0, 1, 2, 3] rfl) hP hS hw
  · have hw := hw.2 h1
    refine lv_aload_n hx hb dMM_effect_4 rfl (lv_at hl 0 rfl) ?_
    refine lv_iconst (v := 1) hx hb dMM_effect_5 (by decide) ?_
    obtain ⟨P53, hc53, hw⟩ := hw
    refine mc_v (va_runV (As := [.int 1]) (rest := []) ⟨hx, hb, hml, hown, hts⟩ (c_MM_push l D a cI cZ hJ I F 1 H.size P53 hc53) (cwV 1 hts (tb_V (C := "CodeJudgeModel") wc_MM_push tw_4_232 tw_4_234 tw_0_28 tw_1_9) rfl rfl rfl (by decide +kernel) ⟨Nat.le_of_ble_eq_true rfl, Nat.le_of_ble_eq_true rfl⟩) ⟨mP_bl, va_recv hK hP rfl mw_0, mP_at hP hK⟩ rfl rfl hl.1 rfl (lv_room (Nat.le_of_ble_eq_true rfl)) dMM_effect_6 ⟨Nat.le_of_ble_eq_true rfl, Nat.le_of_ble_eq_true rfl⟩) hS (fun I53 F53 H locs hP hp53 hS => ?_)
    have hw := hw I53 F53 hp53
    refine lv_goto (tgt := 382) hx hb dMM_effect_9 (by decide) ?_
    rw [hQ]
    exact W.vret hx hb hr (fun t ht hW => ⟨⟨(I53, F53), rfl, hw, by subst ht; exact hP⟩, hS.F ht⟩) hS.2.2 dMM_effect_382
