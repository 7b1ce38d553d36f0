def wp_MM_worked (p1 : Int32) (p2 : Int32) (p3 : Int32) (I : SI) (F : SF) (Post : Int32 → SI → SF → Prop) : Prop := (p1 = 5 → (Post (p2 + p3) I F)) ∧ (p1 = 6 → (Post (p2 - p3) I F)) ∧ (p1 = 7 → (Post (p2 * p3) I F)) ∧ (p1 = 8 → ((¬ p3 = 0) ∧ (Post (p2 / p3) I F))) ∧ ((¬ p1 = 5 ∧ ¬ p1 = 6 ∧ ¬ p1 = 7 ∧ ¬ p1 = 8) → ((¬ p3 = 0) ∧ (Post (p2 - p2 / p3 * p3) I F)))
set_option maxHeartbeats 4000000 in
set_option maxRecDepth 100000 in
theorem c_MM_worked (l : Launch) (D : va_G) (a : Nat → Nat) (cI cZ : ClassId) (hJ : xJ 26 a) (I : SI) (F : SF) (p1 : Int32) (p2 : Int32) (p3 : Int32) (sz : Nat) (Post : Int32 → SI → SF → Prop) (hw : wp_MM_worked p1 p2 p3 I F Post) : Met l y_MM_worked (Cond.code y_MM_worked b_MM_worked 3 (some .int) :: TB) { frames := 0, cells := 0, slots := 0, locals := 0 } (va_Pc [.int p1, .int p2, .int p3] (mP D a cI cZ I F sz)) (va_Qi (fun r (u : SI × SF) => Post r u.1 u.2) (fun u t => va_P D vwCl (mw a cI cZ u.1 u.2) t.heap) (xA 26 a sz)) 0 0 (xA 26 a sz) := by
  refine Met.ofW (cc := b_MM_worked) (maxL := 3) (ret := (some .int)) (by decide) rfl ?_
  intro p e s m args below meth c s₁ B hml hv
  obtain ⟨rfl, rfl, hP, hK⟩ := hv
  have hx := B.exec
  have hb := B.bytes
  have hr := B.returns
  have hts : ∀ w ∈ TB, w.before _ s = true := fun w h => atoms_spec (ws := Cond.code y_MM_worked b_MM_worked 3 (some .int) :: TB) B.pre w (List.mem_cons_of_mem _ h)
  have hown : s.vm.findClass "CodeJudgeModel" = some m.cls := findClass_of_methodNamed B.named
  have hlocks := B.notSynchronized
  have hl := lv_entry ([.int p1, .int p2, .int p3]) (n := 3) (Nat.le_of_ble_eq_true rfl)
  rw [lg_entry_eq]
  generalize (lg_sl ([.int p1, .int p2, .int p3]) ++ List.replicate (3 - (lg_sl ([.int p1, .int p2, .int p3])).length) Slot.unset).toArray = ls at hl ⊢
  have hl : lv_has ls 3 [(0, .int p1), (1, .int p2), (2, .int p3)] := hl
  suffices hM : ∀ (H : Heap) (locs : List Loc), va_P D vwCl (mw a cI cZ I F) H → va_S (xA 26 a s.heap.size) s.heap H locs → W p l e (headSpec (Cond.code y_MM_worked b_MM_worked 3 (some .int) :: TB) { frames := 0, cells := 0, slots := 0, locals := 0 }).room s m ([.int p1, .int p2, .int p3]).toArray below meth c H locs 0 0 (MQ below (va_Qi (fun r (u : SI × SF) => Post r u.1 u.2) (fun u t => va_P D vwCl (mw a cI cZ u.1 u.2) t.heap) (xA 26 a s.heap.size)) ([.int p1, .int p2, .int p3]).toArray s 0 0 (xA 26 a s.heap.size)) (F0 m 0 ls []) from hM s.heap [] hP va_S.rf
  clear hP
  intro H locs hP hS
  dsimp only [wp_MM_worked] at hw
  refine lv_iload_n hx hb dMM_worked_0 rfl (lv_at hl 0 rfl) ?_
  refine sw_MM_worked_1 hx hb (fun h1 => ?_) (fun h1 => ?_) (fun h1 => ?_) (fun h1 => ?_) (fun h1 => ?_)
  · have hw := hw.1 h1
    refine lv_iload_n hx hb dMM_worked_32 rfl (lv_at hl 1 rfl) ?_
    refine lv_iload_n hx hb dMM_worked_33 rfl (lv_at hl 2 rfl) ?_
    refine lv_iadd hx hb dMM_worked_34 ?_
    exact W.iret (v := (p2 + p3)) hx hb hr (fun t ht hW => ⟨⟨(p2 + p3), (I, F), rfl, hw, by subst ht; exact hP⟩, hS.F ht⟩) hS.2.2 dMM_worked_35
  · have hw := hw.2.1 h1
    refine lv_iload_n hx hb dMM_worked_36 rfl (lv_at hl 1 rfl) ?_
    refine lv_iload_n hx hb dMM_worked_37 rfl (lv_at hl 2 rfl) ?_
    refine lv_isub hx hb dMM_worked_38 ?_
    exact W.iret (v := (p2 - p3)) hx hb hr (fun t ht hW => ⟨⟨(p2 - p3), (I, F), rfl, hw, by subst ht; exact hP⟩, hS.F ht⟩) hS.2.2 dMM_worked_39
  · have hw := hw.2.2.1 h1
    refine lv_iload_n hx hb dMM_worked_40 rfl (lv_at hl 1 rfl) ?_
    refine lv_iload_n hx hb dMM_worked_41 rfl (lv_at hl 2 rfl) ?_
    refine lv_imul hx hb dMM_worked_42 ?_
    exact W.iret (v := (p2 * p3)) hx hb hr (fun t ht hW => ⟨⟨(p2 * p3), (I, F), rfl, hw, by subst ht; exact hP⟩, hS.F ht⟩) hS.2.2 dMM_worked_43
  · have hw := hw.2.2.2.1 h1
    refine lv_iload_n hx hb dMM_worked_44 rfl (lv_at hl 1 rfl) ?_
    refine lv_iload_n hx hb dMM_worked_45 rfl (lv_at hl 2 rfl) ?_
    obtain ⟨h2, hw⟩ := hw
    refine lv_idiv hx hb dMM_worked_46 h2 ?_
    exact W.iret (v := (p2 / p3)) hx hb hr (fun t ht hW => ⟨⟨(p2 / p3), (I, F), rfl, hw, by subst ht; exact hP⟩, hS.F ht⟩) hS.2.2 dMM_worked_47
  · have hw := hw.2.2.2.2 h1
    refine lv_iload_n hx hb dMM_worked_48 rfl (lv_at hl 1 rfl) ?_
    refine lv_iload_n hx hb dMM_worked_49 rfl (lv_at hl 2 rfl) ?_
    obtain ⟨h3, hw⟩ := hw
    refine lv_irem hx hb dMM_worked_50 h3 ?_
    exact W.iret (v := (p2 - p2 / p3 * p3)) hx hb hr (fun t ht hW => ⟨⟨(p2 - p2 / p3 * p3), (I, F), rfl, hw, by subst ht; exact hP⟩, hS.F ht⟩) hS.2.2 dMM_worked_51
def wp_MM_step_35 (Post : SI → SF → Prop) (s0 : Int32) (I : SI) (F : SF) : Prop := ∃ P5 : SI → SF → Prop, wp_MM_pushValue s0 I F P5 ∧ ∀ I5 F5, P5 I5 F5 → (Post I5 F5)
def wp_MM_step_25 (Post : SI → SF → Prop) (x1 : Int32) (x2 : Int32) (I : SI) (F : SF) : Prop := (¬ x1 = 0 → (wp_MM_step_35 Post (-1) I F)) ∧ (x1 = 0 → (wp_MM_step_35 Post x2 I F))
def wp_MM_step_51 (Post : SI → SF → Prop) (x2 : Int32) (I : SI) (F : SF) : Prop := vp_in ((((10 : Int32) * (I 5)) - 10) + x2) 500 ∧ (∃ P9 : SI → SF → Prop, wp_MM_pushValue ((F 21) ((((10 : Int32) * (I 5)) - 10) + x2 : Int32).toNatClampNeg) I F P9 ∧ ∀ I9 F9, P9 I9 F9 → (Post I9 F9))
def wp_MM_step_85 (Post : SI → SF → Prop) (x2 : Int32) (I : SI) (F : SF) : Prop := ∃ P12 : Int32 → SI → SF → Prop, wp_MM_popValue I F P12 ∧ ∀ r12 I12 F12, P12 r12 I12 F12 → (vp_in ((((10 : Int32) * (I 5)) - 10) + x2) 500 ∧ (Post I12 (va_up F12 21 (upd (F12 21) ((((10 : Int32) * (I 5)) - 10) + x2 : Int32).toNatClampNeg r12))))
def wp_MM_step_187 (Post : SI → SF → Prop) (s0 : Int32) (s1 : Int32) (I : SI) (F : SF) : Prop := vp_in s1 50 ∧ (Post I (va_up F 18 (upd (F 18) s1.toNatClampNeg s0)))
def wp_MM_step_154 (Post : SI → SF → Prop) (x1 : Int32) (x2 : Int32) (I : SI) (F : SF) : Prop := ∃ P23 : Int32 → SI → SF → Prop, wp_MM_jumps x1 I F P23 ∧ ∀ r23 I23 F23, P23 r23 I23 F23 → ((r23 = 0 → (vp_in ((I23 5) - 1) 50 ∧ (wp_MM_step_187 Post ((F23 18) ((I23 5) - 1 : Int32).toNatClampNeg) ((I 5) - 1) I23 F23))) ∧ (¬ r23 = 0 → (wp_MM_step_187 Post x2 ((I 5) - 1) I23 F23)))
def wp_MM_step_148 (Post : SI → SF → Prop) (x1 : Int32) (x2 : Int32) (I : SI) (F : SF) : Prop := (¬ x1 = 19 → ((¬ x1 = 23 → ((¬ x1 = 24 → (∃ P20 : SI → SF → Prop, wp_MM_handle x1 I F P20 ∧ ∀ I20 F20, P20 I20 F20 → (Post I20 F20))) ∧ (x1 = 24 → (∃ P21 : SI → SF → Prop, wp_MM_back I F P21 ∧ ∀ I21 F21, P21 I21 F21 → (Post I21 F21))))) ∧ (x1 = 23 → (∃ P22 : SI → SF → Prop, wp_MM_into x2 I F P22 ∧ ∀ I22 F22, P22 I22 F22 → (Post I22 F22))))) ∧ (x1 = 19 → (wp_MM_step_154 Post x1 x2 I F))
def wp_MM_step (p1 : Int32) (p2 : Int32) (I : SI) (F : SF) (Post : SI → SF → Prop) : Prop := vp_in ((I 5) - 1) 50 ∧ (vp_in ((I 5) - 1) 50 ∧ ((p1 = 0 → (wp_MM_step_25 Post p1 p2 I (va_up F 18 (upd (F 18) ((I 5) - 1 : Int32).toNatClampNeg (((F 18) ((I 5) - 1 : Int32).toNatClampNeg) + 1))))) ∧ (¬ p1 = 0 → ((¬ p1 = 18 → ((p1 = 1 → (wp_MM_step_51 Post p2 I (va_up F 18 (upd (F 18) ((I 5) - 1 : Int32).toNatClampNeg (((F 18) ((I 5) - 1 : Int32).toNatClampNeg) + 1))))) ∧ (¬ p1 = 1 → ((¬ p1 = 3 → ((p1 = 2 → (wp_MM_step_85 Post p2 I (va_up F 18 (upd (F 18) ((I 5) - 1 : Int32).toNatClampNeg (((F 18) ((I 5) - 1 : Int32).toNatClampNeg) + 1))))) ∧ (¬ p1 = 2 → ((¬ p1 = 4 → ((10 ≤ p1 → ((p1 < 14 → (wp_MM_step_148 Post p1 p2 I (va_up F 18 (upd (F 18) ((I 5) - 1 : Int32).toNatClampNeg (((F 18) ((I 5) - 1 : Int32).toNatClampNeg) + 1))))) ∧ (¬ p1 < 14 → ((p1 ≤ 17 → (wp_MM_step_154 Post p1 p2 I (va_up F 18 (upd (F 18) ((I 5) - 1 : Int32).toNatClampNeg (((F 18) ((I 5) - 1 : Int32).toNatClampNeg) + 1))))) ∧ (¬ p1 ≤ 17 → (wp_MM_step_148 Post p1 p2 I (va_up F 18 (upd (F 18) ((I 5) - 1 : Int32).toNatClampNeg (((F 18) ((I 5) - 1 : Int32).toNatClampNeg) + 1))))))))) ∧ (¬ 10 ≤ p1 → (∃ P28 : Int32 → SI → SF → Prop, wp_MM_popValue I (va_up F 18 (upd (F 18) ((I 5) - 1 : Int32).toNatClampNeg (((F 18) ((I 5) - 1 : Int32).toNatClampNeg) + 1))) P28 ∧ ∀ r28 I28 F28, P28 r28 I28 F28 → (∃ P29 : Int32 → SI → SF → Prop, wp_MM_popValue I28 F28 P29 ∧ ∀ r29 I29 F29, P29 r29 I29 F29 → (∃ P30 : Int32 → SI → SF → Prop, wp_MM_worked p1 r29 r28 I29 F29 P30 ∧ ∀ r30 I30 F30, P30 r30 I30 F30 → (∃ P31 : SI → SF → Prop, wp_MM_pushValue r30 I30 F30 P31 ∧ ∀ I31 F31, P31 I31 F31 → (Post I31 F31)))))))) ∧ (p1 = 4 → (wp_MM_step_85 Post p2 I (va_up F 18 (upd (F 18) ((I 5) - 1 : Int32).toNatClampNeg (((F 18) ((I 5) - 1 : Int32).toNatClampNeg) + 1))))))))) ∧ (p1 = 3 → (wp_MM_step_51 Post p2 I (va_up F 18 (upd (F 18) ((I 5) - 1 : Int32).toNatClampNeg (((F 18) ((I 5) - 1 : Int32).toNatClampNeg) + 1))))))))) ∧ (p1 = 18 → (wp_MM_step_25 Post p1 p2 I (va_up F 18 (upd (F 18) ((I 5) - 1 : Int32).toNatClampNeg (((F 18) ((I 5) - 1 : Int32).toNatClampNeg) + 1)))))))))
set_option maxHeartbeats 4000000 in
set_option maxRecDepth 100000 in
theorem c_MM_step (l : Launch) (D : va_G) (a : Nat → Nat) (cI cZ : ClassId) (hJ : xJ 26 a) (I : SI) (F : SF) (p1 : Int32) (p2 : Int32) (sz : Nat) (Post : SI → SF → Prop) (hw : wp_MM_step p1 p2 I F Post) : Met l y_MM_step (Cond.code y_MM_step b_MM_step 4 none :: TB) { frames := 2, cells := 0, slots := 0, locals := 45 } (va_Pc [.ref (a 0), .int p1, .int p2] (mP D a cI cZ I F sz)) (va_Qv (fun (u : SI × SF) => Post u.1 u.2) (fun u t => va_P D vwCl (mw a cI cZ u.1 u.2) t.heap) (xA 26 a sz)) 0 0 (xA 26 a sz) := by
  refine Met.ofW (cc := b_MM_step) (maxL := 4) (ret := none) (by decide) rfl ?_
  intro p e s m args below meth c s₁ B hml hv
  obtain ⟨rfl, rfl, hP, hK⟩ := hv
  have hx := B.exec
  have hb := B.bytes
  have hr := B.returns
  have hts : ∀ w ∈ TB, w.before _ s = true := fun w h => atoms_spec (ws := Cond.code y_MM_step b_MM_step 4 none :: TB) B.pre w (List.mem_cons_of_mem _ h)
  have hown : s.vm.findClass "CodeJudgeModel" = some m.cls := findClass_of_methodNamed B.named
  have hlocks := B.notSynchronized
  have hl := lv_entry ([.ref (a 0), .int p1, .int p2]) (n := 4) (Nat.le_of_ble_eq_true rfl)
  rw [lg_entry_eq]
  generalize (lg_sl ([.ref (a 0), .int p1, .int p2]) ++ List.replicate (4 - (lg_sl ([.ref (a 0), .int p1, .int p2])).length) Slot.unset).toArray = ls at hl ⊢
  have hl : lv_has ls 4 [(0, .ref (a 0)), (1, .int p1), (2, .int p2)] := hl
  obtain ⟨Q, hQ⟩ : ∃ Q, Q = MQ below (va_Qv (fun (u : SI × SF) => Post u.1 u.2) (fun u t => va_P D vwCl (mw a cI cZ u.1 u.2) t.heap) (xA 26 a s.heap.size)) ([.ref (a 0), .int p1, .int p2]).toArray s 0 0 (xA 26 a s.heap.size) := ⟨_, rfl⟩
  rw [← hQ]
  have J35 : ∀ (s0 : Int32) (I : SI) (F : SF) (H : Heap) (locs : List Loc) (ls : Array Slot), lv_has ls 4 [] → va_P D vwCl (mw a cI cZ I F) H → va_S (xA 26 a s.heap.size) s.heap H locs → wp_MM_step_35 Post s0 I F → W p l e (headSpec (Cond.code y_MM_step b_MM_step 4 none :: TB) { frames := 2, cells := 0, slots := 0, locals := 45 }).room s m ([.ref (a 0), .int p1, .int p2]).toArray below meth c H locs 0 0 Q (F0 m 35 ls [.int s0, .ref (a 0)]) := by
    intro s0 I F H locs ls hl hP hS hw
    dsimp only [wp_MM_step_35] at hw
    obtain ⟨P5, hc5, hw⟩ := hw
    refine mc_v (va_runV (As := [.int s0]) (rest := []) ⟨hx, hb, hml, hown, hts⟩ (c_MM_pushValue l D a cI cZ hJ I F s0 H.size P5 hc5) (cwV 1 hts (tb_V (C := "CodeJudgeModel") wc_MM_pushValue tw_5_55 tw_5_57 tw_0_39 tw_1_9) rfl rfl rfl (by decide +kernel) ⟨Nat.le_of_ble_eq_true rfl, Nat.le_of_ble_eq_true rfl⟩) ⟨mP_bl, va_recv hK hP rfl mw_0, mP_at hP hK⟩ rfl rfl hl.1 rfl (lv_room (Nat.le_of_ble_eq_true rfl)) dMM_step_35 ⟨Nat.le_of_ble_eq_true rfl, Nat.le_of_ble_eq_true rfl⟩) hS (fun I5 F5 H locs hP hp5 hS => ?_)
    have hw := hw I5 F5 hp5
    refine lv_goto (tgt := 223) hx hb dMM_step_38 (by decide) ?_
    rw [hQ]
    exact W.vret hx hb hr (fun t ht hW => ⟨⟨(I5, F5), rfl, hw, by subst ht; exact hP⟩, hS.F ht⟩) hS.2.2 dMM_step_223
  have J25 : ∀ (x1 : Int32) (x2 : Int32) (I : SI) (F : SF) (H : Heap) (locs : List Loc) (ls : Array Slot), lv_has ls 4 [(0, .ref (a 0)), (1, .int x1), (2, .int x2)] → va_P D vwCl (mw a cI cZ I F) H → va_S (xA 26 a s.heap.size) s.heap H locs → wp_MM_step_25 Post x1 x2 I F → W p l e (headSpec (Cond.code y_MM_step b_MM_step 4 none :: TB) { frames := 2, cells := 0, slots := 0, locals := 45 }).room s m ([.ref (a 0), .int p1, .int p2]).toArray below meth c H locs 0 0 Q (F0 m 25 ls []) := by
    intro x1 x2 I F H locs ls hl hP hS hw
    dsimp only [wp_MM_step_25] at hw
    refine lv_aload_n hx hb dMM_step_25 rfl (lv_at hl 0 rfl) ?_
    refine lv_iload_n hx hb dMM_step_26 rfl (lv_at hl 1 rfl) ?_
    refine lv_if_ne (tgt := 34) hx hb dMM_step_27 (by decide) (fun h4 => ?_) (fun h4 => ?_)
    · have hw := hw.1 h4
      refine lv_iconst (v := (-1)) hx hb dMM_step_34 (by decide) ?_
      exact J35 (-1) I F H locs ls (lv_sub hl [] rfl) hP hS hw
    · have hw := hw.2 h4
      refine lv_iload_n hx hb dMM_step_30 rfl (lv_at hl 2 rfl) ?_
      refine lv_goto (tgt := 35) hx hb dMM_step_31 (by decide) ?_
      exact J35 x2 I F H locs ls (lv_sub hl [] rfl) hP hS hw
  have J51 : ∀ (x2 : Int32) (I : SI) (F : SF) (H : Heap) (locs : List Loc) (ls : Array Slot), lv_has ls 4 [(0, .ref (a 0)), (2, .int x2)] → va_P D vwCl (mw a cI cZ I F) H → va_S (xA 26 a s.heap.size) s.heap H locs → wp_MM_step_51 Post x2 I F → W p l e (headSpec (Cond.code y_MM_step b_MM_step 4 none :: TB) { frames := 2, cells := 0, slots := 0, locals := 45 }).room s m ([.ref (a 0), .int p1, .int p2]).toArray below meth c H locs 0 0 Q (F0 m 51 ls []) := by
    intro x2 I F H locs ls hl hP hS hw
    dsimp only [wp_MM_step_51] at hw
    refine lv_aload_n hx hb dMM_step_51 rfl (lv_at hl 0 rfl) ?_
    refine lv_aload_n hx hb dMM_step_52 rfl (lv_at hl 0 rfl) ?_
    refine va_get (D := D) (v := .ref (a 21)) (ci := 8) (C := "CodeJudgeModel") (T := T_MM) (N := 37) hx hb hts in_MM hown hK hP 0 mw_0 rfl 26 (by decide) (hts (.fieldLink "CodeJudgeModel" 71 "CodeJudgeModel" "slots" "[I") tw_4_91) (fun _ h9 => h9) rfl dMM_step_53 ?_
    refine lv_bipush (v := 10) hx hb dMM_step_56 (by decide) ?_
    refine lv_aload_n hx hb dMM_step_58 rfl (lv_at hl 0 rfl) ?_
    refine va_get (D := D) (v := .int (I 5)) (ci := 8) (C := "CodeJudgeModel") (T := T_MM) (N := 37) hx hb hts in_MM hown hK hP 0 mw_0 rfl 21 (by decide) (hts (.fieldLink "CodeJudgeModel" 154 "CodeJudgeModel" "frames" "I") tw_4_86) (fun _ h9 => h9) rfl dMM_step_59 ?_
    refine lv_imul hx hb dMM_step_62 ?_
    refine lv_bipush (v := 10) hx hb dMM_step_63 (by decide) ?_
    refine lv_isub hx hb dMM_step_65 ?_
    refine lv_iload_n hx hb dMM_step_66 rfl (lv_at hl 1 rfl) ?_
    refine lv_iadd hx hb dMM_step_67 ?_
    obtain ⟨h8, hw⟩ := hw
    refine va_iald hx hb hK hP 21 0 mw_21 rfl h8 dMM_step_68 ?_
    obtain ⟨P9, hc9, hw⟩ := hw
    refine mc_v (va_runV (As := [.int ((F 21) ((((10 : Int32) * (I 5)) - 10) + x2 : Int32).toNatClampNeg)]) (rest := []) ⟨hx, hb, hml, hown, hts⟩ (c_MM_pushValue l D a cI cZ hJ I F ((F 21) ((((10 : Int32) * (I 5)) - 10) + x2 : Int32).toNatClampNeg) H.size P9 hc9) (cwV 1 hts (tb_V (C := "CodeJudgeModel") wc_MM_pushValue tw_5_55 tw_5_57 tw_0_39 tw_1_9) rfl rfl rfl (by decide +kernel) ⟨Nat.le_of_ble_eq_true rfl, Nat.le_of_ble_eq_true rfl⟩) ⟨mP_bl, va_recv hK hP rfl mw_0, mP_at hP hK⟩ rfl rfl hl.1 rfl (lv_room (Nat.le_of_ble_eq_true rfl)) dMM_step_69 ⟨Nat.le_of_ble_eq_true rfl, Nat.le_of_ble_eq_true rfl⟩) hS (fun I9 F9 H locs hP hp9 hS => ?_)
    have hw := hw I9 F9 hp9
    refine lv_goto (tgt := 223) hx hb dMM_step_72 (by decide) ?_
    rw [hQ]
    exact W.vret hx hb hr (fun t ht hW => ⟨⟨(I9, F9), rfl, hw, by subst ht; exact hP⟩, hS.F ht⟩) hS.2.2 dMM_step_223
  have J85 : ∀ (x2 : Int32) (I : SI) (F : SF) (H : Heap) (locs : List Loc) (ls : Array Slot), lv_has ls 4 [(0, .ref (a 0)), (2, .int x2)] → va_P D vwCl (mw a cI cZ I F) H → va_S (xA 26 a s.heap.size) s.heap H locs → wp_MM_step_85 Post x2 I F → W p l e (headSpec (Cond.code y_MM_step b_MM_step 4 none :: TB) { frames := 2, cells := 0, slots := 0, locals := 45 }).room s m ([.ref (a 0), .int p1, .int p2]).toArray below meth c H locs 0 0 Q (F0 m 85 ls []) := by
    intro x2 I F H locs ls hl hP hS hw
    dsimp only [wp_MM_step_85] at hw
    refine lv_aload_n hx hb dMM_step_85 rfl (lv_at hl 0 rfl) ?_
    refine va_get (D := D) (v := .ref (a 21)) (ci := 8) (C := "CodeJudgeModel") (T := T_MM) (N := 37) hx hb hts in_MM hown hK hP 0 mw_0 rfl 26 (by decide) (hts (.fieldLink "CodeJudgeModel" 71 "CodeJudgeModel" "slots" "[I") tw_4_91) (fun _ h9 => h9) rfl dMM_step_86 ?_
    refine lv_bipush (v := 10) hx hb dMM_step_89 (by decide) ?_
    refine lv_aload_n hx hb dMM_step_91 rfl (lv_at hl 0 rfl) ?_
    refine va_get (D := D) (v := .int (I 5)) (ci := 8) (C := "CodeJudgeModel") (T := T_MM) (N := 37) hx hb hts in_MM hown hK hP 0 mw_0 rfl 21 (by decide) (hts (.fieldLink "CodeJudgeModel" 154 "CodeJudgeModel" "frames" "I") tw_4_86) (fun _ h9 => h9) rfl dMM_step_92 ?_
    refine lv_imul hx hb dMM_step_95 ?_
    refine lv_bipush (v := 10) hx hb dMM_step_96 (by decide) ?_
    refine lv_isub hx hb dMM_step_98 ?_
    refine lv_iload_n hx hb dMM_step_99 rfl (lv_at hl 1 rfl) ?_
    refine lv_iadd hx hb dMM_step_100 ?_
    refine lv_aload_n hx hb dMM_step_101 rfl (lv_at hl 0 rfl) ?_
    obtain ⟨P12, hc12, hw⟩ := hw
    refine mc_i (va_runV (As := []) (rest := [.int ((((10 : Int32) * (I 5)) - 10) + x2), .ref (a 21)]) ⟨hx, hb, hml, hown, hts⟩ (c_MM_popValue l D a cI cZ hJ I F H.size P12 hc12) (cwV 0 hts (tb_V (C := "CodeJudgeModel") wc_MM_popValue tw_5_59 tw_5_61 tw_0_40 tw_1_9) rfl rfl rfl (by decide +kernel) ⟨Nat.le_of_ble_eq_true rfl, Nat.le_of_ble_eq_true rfl⟩) ⟨mP_bl, va_recv hK hP rfl mw_0, mP_at hP hK⟩ rfl rfl hl.1 rfl (lv_room (Nat.le_of_ble_eq_true rfl)) dMM_step_102 ⟨Nat.le_of_ble_eq_true rfl, Nat.le_of_ble_eq_true rfl⟩) hS (fun r12 I12 F12 H locs hP hp12 hS => ?_)
    have hw := hw r12 I12 F12 hp12
    obtain ⟨h13, hw⟩ := hw
    refine va_iast hx hb hK hP (mD hJ) hS 21 0 mw_21 rfl h13 dMM_step_105 (fun H locs hP _ hS => ?_)
    have hP := mwa_21 hP
    refine lv_goto (tgt := 223) hx hb dMM_step_106 (by decide) ?_
    rw [hQ]
    exact W.vret hx hb hr (fun t ht hW => ⟨⟨(I12, (va_up F12 21 (upd (F12 21) ((((10 : Int32) * (I 5)) - 10) + x2 : Int32).toNatClampNeg r12))), rfl, hw, by subst ht; exact hP⟩, hS.F ht⟩) hS.2.2 dMM_step_223
  have J187 : ∀ (s0 : Int32) (s1 : Int32) (I : SI) (F : SF) (H : Heap) (locs : List Loc) (ls : Array Slot), lv_has ls 4 [] → va_P D vwCl (mw a cI cZ I F) H → va_S (xA 26 a s.heap.size) s.heap H locs → wp_MM_step_187 Post s0 s1 I F → W p l e (headSpec (Cond.code y_MM_step b_MM_step 4 none :: TB) { frames := 2, cells := 0, slots := 0, locals := 45 }).room s m ([.ref (a 0), .int p1, .int p2]).toArray below meth c H locs 0 0 Q (F0 m 187 ls [.int s0, .int s1, .ref (a 18)]) := by
    intro s0 s1 I F H locs ls hl hP hS hw
    dsimp only [wp_MM_step_187] at hw
    obtain ⟨h26, hw⟩ := hw
    refine va_iast hx hb hK hP (mD hJ) hS 18 0 mw_18 rfl h26 dMM_step_187 (fun H locs hP _ hS => ?_)
    have hP := mwa_18 hP
    refine lv_goto (tgt := 223) hx hb dMM_step_188 (by decide) ?_
    rw [hQ]
    exact W.vret hx hb hr (fun t ht hW => ⟨⟨(I, (va_up F 18 (upd (F 18) s1.toNatClampNeg s0))), rfl, hw, by subst ht; exact hP⟩, hS.F ht⟩) hS.2.2 dMM_step_223
  have J154 : ∀ (x1 : Int32) (x2 : Int32) (I : SI) (F : SF) (H : Heap) (locs : List Loc) (ls : Array Slot), lv_has ls 4 [(0, .ref (a 0)), (1, .int x1), (2, .int x2)] → va_P D vwCl (mw a cI cZ I F) H → va_S (xA 26 a s.heap.size) s.heap H locs → wp_MM_step_154 Post x1 x2 I F → W p l e (headSpec (Cond.code y_MM_step b_MM_step 4 none :: TB) { frames := 2, cells := 0, slots := 0, locals := 45 }).room s m ([.ref (a 0), .int p1, .int p2]).toArray below meth c H locs 0 0 Q (F0 m 154 ls []) := by
    intro x1 x2 I F H locs ls hl hP hS hw
    dsimp only [wp_MM_step_154] at hw
    refine lv_aload_n hx hb dMM_step_154 rfl (lv_at hl 0 rfl) ?_
    refine va_get (D := D) (v := .ref (a 18)) (ci := 8) (C := "CodeJudgeModel") (T := T_MM) (N := 37) hx hb hts in_MM hown hK hP 0 mw_0 rfl 23 (by decide) (hts (.fieldLink "CodeJudgeModel" 62 "CodeJudgeModel" "places" "[I") tw_4_88) (fun _ h9 => h9) rfl dMM_step_155 ?_
    refine lv_aload_n hx hb dMM_step_158 rfl (lv_at hl 0 rfl) ?_
    refine va_get (D := D) (v := .int (I 5)) (ci := 8) (C := "CodeJudgeModel") (T := T_MM) (N := 37) hx hb hts in_MM hown hK hP 0 mw_0 rfl 21 (by decide) (hts (.fieldLink "CodeJudgeModel" 154 "CodeJudgeModel" "frames" "I") tw_4_86) (fun _ h9 => h9) rfl dMM_step_159 ?_
    refine lv_iconst (v := 1) hx hb dMM_step_162 (by decide) ?_
    refine lv_isub hx hb dMM_step_163 ?_
    refine lv_aload_n hx hb dMM_step_164 rfl (lv_at hl 0 rfl) ?_
    refine lv_iload_n hx hb dMM_step_165 rfl (lv_at hl 1 rfl) ?_
    obtain ⟨P23, hc23, hw⟩ := hw
    refine mc_i (va_runV (As := [.int x1]) (rest := [.int ((I 5) - 1), .ref (a 18)]) ⟨hx, hb, hml, hown, hts⟩ (c_MM_jumps l D a cI cZ hJ I F x1 H.size P23 hc23) (cwV 1 hts (tb_V (C := "CodeJudgeModel") wc_MM_jumps tw_5_66 tw_5_68 tw_0_41 tw_1_9) rfl rfl rfl (by decide +kernel) ⟨Nat.le_of_ble_eq_true rfl, Nat.le_of_ble_eq_true rfl⟩) ⟨mP_bl, va_recv hK hP rfl mw_0, mP_at hP hK⟩ rfl rfl hl.1 rfl (lv_room (Nat.le_of_ble_eq_true rfl)) dMM_step_166 ⟨Nat.le_of_ble_eq_true rfl, Nat.le_of_ble_eq_true rfl⟩) hS (fun r23 I23 F23 H locs hP hp23 hS => ?_)
    have hw := hw r23 I23 F23 hp23
    refine lv_if_eq (tgt := 176) hx hb dMM_step_169 (by decide) (fun h24 => ?_) (fun h24 => ?_)
    · have hw := hw.1 h24
      refine lv_aload_n hx hb dMM_step_176 rfl (lv_at hl 0 rfl) ?_
      refine va_get (D := D) (v := .ref (a 18)) (ci := 8) (C := "CodeJudgeModel") (T := T_MM) (N := 37) hx hb hts in_MM hown hK hP 0 mw_0 rfl 23 (by decide) (hts (.fieldLink "CodeJudgeModel" 62 "CodeJudgeModel" "places" "[I") tw_4_88) (fun _ h9 => h9) rfl dMM_step_177 ?_
      refine lv_aload_n hx hb dMM_step_180 rfl (lv_at hl 0 rfl) ?_
      refine va_get (D := D) (v := .int (I23 5)) (ci := 8) (C := "CodeJudgeModel") (T := T_MM) (N := 37) hx hb hts in_MM hown hK hP 0 mw_0 rfl 21 (by decide) (hts (.fieldLink "CodeJudgeModel" 154 "CodeJudgeModel" "frames" "I") tw_4_86) (fun _ h9 => h9) rfl dMM_step_181 ?_
      refine lv_iconst (v := 1) hx hb dMM_step_184 (by decide) ?_
      refine lv_isub hx hb dMM_step_185 ?_
      obtain ⟨h25, hw⟩ := hw
      refine va_iald hx hb hK hP 18 0 mw_18 rfl h25 dMM_step_186 ?_
      exact J187 ((F23 18) ((I23 5) - 1 : Int32).toNatClampNeg) ((I 5) - 1) I23 F23 H locs ls (lv_sub hl [] rfl) hP hS hw
    · have hw := hw.2 h24
      refine lv_iload_n hx hb dMM_step_172 rfl (lv_at hl 2 rfl) ?_
      refine lv_goto (tgt := 187) hx hb dMM_step_173 (by decide) ?_
      exact J187 x2 ((I 5) - 1) I23 F23 H locs ls (lv_sub hl [] rfl) hP hS hw
  have J148 : ∀ (x1 : Int32) (x2 : Int32) (I : SI) (F : SF) (H : Heap) (locs : List Loc) (ls : Array Slot), lv_has ls 4 [(0, .ref (a 0)), (1, .int x1), (2, .int x2)] → va_P D vwCl (mw a cI cZ I F) H → va_S (xA 26 a s.heap.size) s.heap H locs → wp_MM_step_148 Post x1 x2 I F → W p l e (headSpec (Cond.code y_MM_step b_MM_step 4 none :: TB) { frames := 2, cells := 0, slots := 0, locals := 45 }).room s m ([.ref (a 0), .int p1, .int p2]).toArray below meth c H locs 0 0 Q (F0 m 148 ls []) := by
    intro x1 x2 I F H locs ls hl hP hS hw
    dsimp only [wp_MM_step_148] at hw
    refine lv_iload_n hx hb dMM_step_148 rfl (lv_at hl 1 rfl) ?_
    refine lv_bipush (v := 19) hx hb dMM_step_149 (by decide) ?_
    refine lv_icmp_ne (tgt := 191) hx hb dMM_step_151 (by decide) (fun h17 => ?_) (fun h17 => ?_)
    · have hw := hw.1 h17
      refine lv_iload_n hx hb dMM_step_191 rfl (lv_at hl 1 rfl) ?_
      refine lv_bipush (v := 23) hx hb dMM_step_192 (by decide) ?_
      refine lv_icmp_ne (tgt := 205) hx hb dMM_step_194 (by decide) (fun h18 => ?_) (fun h18 => ?_)
      · have hw := hw.1 h18
        refine lv_iload_n hx hb dMM_step_205 rfl (lv_at hl 1 rfl) ?_
        refine lv_bipush (v := 24) hx hb dMM_step_206 (by decide) ?_
        refine lv_icmp_ne (tgt := 218) hx hb dMM_step_208 (by decide) (fun h19 => ?_) (fun h19 => ?_)
        · have hw := hw.1 h19
          refine lv_aload_n hx hb dMM_step_218 rfl (lv_at hl 0 rfl) ?_
          refine lv_iload_n hx hb dMM_step_219 rfl (lv_at hl 1 rfl) ?_
          obtain ⟨P20, hc20, hw⟩ := hw
          refine mc_v (va_runV (As := [.int x1]) (rest := []) ⟨hx, hb, hml, hown, hts⟩ (c_MM_handle l D a cI cZ hJ I F x1 H.size P20 hc20) (cwV 1 hts (tb_V (C := "CodeJudgeModel") wc_MM_handle tw_5_78 tw_5_80 tw_0_44 tw_1_9) rfl rfl rfl (by decide +kernel) ⟨Nat.le_of_ble_eq_true rfl, Nat.le_of_ble_eq_true rfl⟩) ⟨mP_bl, va_recv hK hP rfl mw_0, mP_at hP hK⟩ rfl rfl hl.1 rfl (lv_room (Nat.le_of_ble_eq_true rfl)) dMM_step_220 ⟨Nat.le_of_ble_eq_true rfl, Nat.le_of_ble_eq_true rfl⟩) hS (fun I20 F20 H locs hP hp20 hS => ?_)
          have hw := hw I20 F20 hp20
          rw [hQ]
          exact W.vret hx hb hr (fun t ht hW => ⟨⟨(I20, F20), rfl, hw, by subst ht; exact hP⟩, hS.F ht⟩) hS.2.2 dMM_step_223
        · have hw := hw.2 h19
          refine lv_aload_n hx hb dMM_step_211 rfl (lv_at hl 0 rfl) ?_
          obtain ⟨P21, hc21, hw⟩ := hw
          refine mc_v (va_runV (As := []) (rest := []) ⟨hx, hb, hml, hown, hts⟩ (c_MM_back l D a cI cZ hJ I F H.size P21 hc21) (cwV 0 hts (tb_V (C := "CodeJudgeModel") wc_MM_back tw_5_74 tw_5_76 tw_0_43 tw_1_9) rfl rfl rfl (by decide +kernel) ⟨Nat.le_of_ble_eq_true rfl, Nat.le_of_ble_eq_true rfl⟩) ⟨mP_bl, va_recv hK hP rfl mw_0, mP_at hP hK⟩ rfl rfl hl.1 rfl (lv_room (Nat.le_of_ble_eq_true rfl)) dMM_step_212 ⟨Nat.le_of_ble_eq_true rfl, Nat.le_of_ble_eq_true rfl⟩) hS (fun I21 F21 H locs hP hp21 hS => ?_)
          have hw := hw I21 F21 hp21
          refine lv_goto (tgt := 223) hx hb dMM_step_215 (by decide) ?_
          rw [hQ]
          exact W.vret hx hb hr (fun t ht hW => ⟨⟨(I21, F21), rfl, hw, by subst ht; exact hP⟩, hS.F ht⟩) hS.2.2 dMM_step_223
      · have hw := hw.2 h18
        refine lv_aload_n hx hb dMM_step_197 rfl (lv_at hl 0 rfl) ?_
        refine lv_iload_n hx hb dMM_step_198 rfl (lv_at hl 2 rfl) ?_
        obtain ⟨P22, hc22, hw⟩ := hw
        refine mc_v (va_runV (As := [.int x2]) (rest := []) ⟨hx, hb, hml, hown, hts⟩ (c_MM_into l D a cI cZ hJ I F x2 H.size P22 hc22) (cwV 1 hts (tb_V (C := "CodeJudgeModel") wc_MM_into tw_5_70 tw_5_72 tw_0_42 tw_1_9) rfl rfl rfl (by decide +kernel) ⟨Nat.le_of_ble_eq_true rfl, Nat.le_of_ble_eq_true rfl⟩) ⟨mP_bl, va_recv hK hP rfl mw_0, mP_at hP hK⟩ rfl rfl hl.1 rfl (lv_room (Nat.le_of_ble_eq_true rfl)) dMM_step_199 ⟨Nat.le_of_ble_eq_true rfl, Nat.le_of_ble_eq_true rfl⟩) hS (fun I22 F22 H locs hP hp22 hS => ?_)
        have hw := hw I22 F22 hp22
        refine lv_goto (tgt := 223) hx hb dMM_step_202 (by decide) ?_
        rw [hQ]
        exact W.vret hx hb hr (fun t ht hW => ⟨⟨(I22, F22), rfl, hw, by subst ht; exact hP⟩, hS.F ht⟩) hS.2.2 dMM_step_223
    · have hw := hw.2 h17
      exact J154 x1 x2 I F H locs ls (lv_sub hl [0, 1, 2] rfl) hP hS hw
  suffices hM : ∀ (H : Heap) (locs : List Loc), va_P D vwCl (mw a cI cZ I F) H → va_S (xA 26 a s.heap.size) s.heap H locs → W p l e (headSpec (Cond.code y_MM_step b_MM_step 4 none :: TB) { frames := 2, cells := 0, slots := 0, locals := 45 }).room s m ([.ref (a 0), .int p1, .int p2]).toArray below meth c H locs 0 0 (Q) (F0 m 0 ls []) from hM s.heap [] hP va_S.rf
  clear hP
  intro H locs hP hS
  dsimp only [wp_MM_step] at hw
  refine lv_aload_n hx hb dMM_step_0 rfl (lv_at hl 0 rfl) ?_
  refine va_get (D := D) (v := .ref (a 18)) (ci := 8) (C := "CodeJudgeModel") (T := T_MM) (N := 37) hx hb hts in_MM hown hK hP 0 mw_0 rfl 23 (by decide) (hts (.fieldLink "CodeJudgeModel" 62 "CodeJudgeModel" "places" "[I") tw_4_88) (fun _ h9 => h9) rfl dMM_step_1 ?_
  refine lv_aload_n hx hb dMM_step_4 rfl (lv_at hl 0 rfl) ?_
  refine va_get (D := D) (v := .int (I 5)) (ci := 8) (C := "CodeJudgeModel") (T := T_MM) (N := 37) hx hb hts in_MM hown hK hP 0 mw_0 rfl 21 (by decide) (hts (.fieldLink "CodeJudgeModel" 154 "CodeJudgeModel" "frames" "I") tw_4_86) (fun _ h9 => h9) rfl dMM_step_5 ?_
  refine lv_iconst (v := 1) hx hb dMM_step_8 (by decide) ?_
  refine lv_isub hx hb dMM_step_9 ?_
  refine lv_dup2_11 hx hb dMM_step_10 rfl rfl ?_
  obtain ⟨h1, hw⟩ := hw
  refine va_iald hx hb hK hP 18 0 mw_18 rfl h1 dMM_step_11 ?_
  refine lv_iconst (v := 1) hx hb dMM_step_12 (by decide) ?_
  refine lv_iadd hx hb dMM_step_13 ?_
  obtain ⟨h2, hw⟩ := hw
  refine va_iast hx hb hK hP (mD hJ) hS 18 0 mw_18 rfl h2 dMM_step_14 (fun H locs hP _ hS => ?_)
  have hP := mwa_18 hP
  refine lv_iload_n hx hb dMM_step_15 rfl (lv_at hl 1 rfl) ?_
  refine lv_if_eq (tgt := 25) hx hb dMM_step_16 (by decide) (fun h3 => ?_) (fun h3 => ?_)
  · have hw := hw.1 h3
    exact J25 p1 p2 I (va_up F 18 (upd (F 18) ((I 5) - 1 : Int32).toNatClampNeg (((F 18) ((I 5) - 1 : Int32).toNatClampNeg) + 1))) H locs ls (lv_sub hl [0, 1, 2] rfl) hP hS hw
  · have hw := hw.2 h3
    refine lv_iload_n hx hb dMM_step_19 rfl (lv_at hl 1 rfl) ?_
    refine lv_bipush (v := 18) hx hb dMM_step_20 (by decide) ?_
    refine lv_icmp_ne (tgt := 41) hx hb dMM_step_22 (by decide) (fun h6 => ?_) (fun h6 => ?_)
    · have hw := hw.1 h6
      refine lv_iload_n hx hb dMM_step_41 rfl (lv_at hl 1 rfl) ?_
      refine lv_iconst (v := 1) hx hb dMM_step_42 (by decide) ?_
      refine lv_icmp_eq (tgt := 51) hx hb dMM_step_43 (by decide) (fun h7 => ?_) (fun h7 => ?_)
      · have hw := hw.1 h7
        exact J51 p2 I (va_up F 18 (upd (F 18) ((I 5) - 1 : Int32).toNatClampNeg (((F 18) ((I 5) - 1 : Int32).toNatClampNeg) + 1))) H locs ls (lv_sub hl [0, 2] rfl) hP hS hw
      · have hw := hw.2 h7
        refine lv_iload_n hx hb dMM_step_46 rfl (lv_at hl 1 rfl) ?_
        refine lv_iconst (v := 3) hx hb dMM_step_47 (by decide) ?_
        refine lv_icmp_ne (tgt := 75) hx hb dMM_step_48 (by decide) (fun h10 => ?_) (fun h10 => ?_)
        · have hw := hw.1 h10
          refine lv_iload_n hx hb dMM_step_75 rfl (lv_at hl 1 rfl) ?_
          refine lv_iconst (v := 2) hx hb dMM_step_76 (by decide) ?_
          refine lv_icmp_eq (tgt := 85) hx hb dMM_step_77 (by decide) (fun h11 => ?_) (fun h11 => ?_)
          · have hw := hw.1 h11
            exact J85 p2 I (va_up F 18 (upd (F 18) ((I 5) - 1 : Int32).toNatClampNeg (((F 18) ((I 5) - 1 : Int32).toNatClampNeg) + 1))) H locs ls (lv_sub hl [0, 2] rfl) hP hS hw
          · have hw := hw.2 h11
            refine lv_iload_n hx hb dMM_step_80 rfl (lv_at hl 1 rfl) ?_
            refine lv_iconst (v := 4) hx hb dMM_step_81 (by decide) ?_
            refine lv_icmp_ne (tgt := 109) hx hb dMM_step_82 (by decide) (fun h14 => ?_) (fun h14 => ?_)
            · have hw := hw.1 h14
              refine lv_iload_n hx hb dMM_step_109 rfl (lv_at hl 1 rfl) ?_
              refine lv_bipush (v := 10) hx hb dMM_step_110 (by decide) ?_
              refine lv_icmp_ge (tgt := 136) hx hb dMM_step_112 (by decide) (fun h15 => ?_) (fun h15 => ?_)
              · have hw := hw.1 h15
                refine lv_iload_n hx hb dMM_step_136 rfl (lv_at hl 1 rfl) ?_
                refine lv_bipush (v := 14) hx hb dMM_step_137 (by decide) ?_
                refine lv_icmp_lt (tgt := 148) hx hb dMM_step_139 (by decide) (fun h16 => ?_) (fun h16 => ?_)
                · have hw := hw.1 h16
                  exact J148 p1 p2 I (va_up F 18 (upd (F 18) ((I 5) - 1 : Int32).toNatClampNeg (((F 18) ((I 5) - 1 : Int32).toNatClampNeg) + 1))) H locs ls (lv_sub hl [0, 1, 2] rfl) hP hS hw
                · have hw := hw.2 h16
                  refine lv_iload_n hx hb dMM_step_142 rfl (lv_at hl 1 rfl) ?_
                  refine lv_bipush (v := 17) hx hb dMM_step_143 (by decide) ?_
                  refine lv_icmp_le (tgt := 154) hx hb dMM_step_145 (by decide) (fun h27 => ?_) (fun h27 => ?_)
                  · have hw := hw.1 h27
                    exact J154 p1 p2 I (va_up F 18 (upd (F 18) ((I 5) - 1 : Int32).toNatClampNeg (((F 18) ((I 5) - 1 : Int32).toNatClampNeg) + 1))) H locs ls (lv_sub hl [0, 1, 2] rfl) hP hS hw
                  · have hw := hw.2 h27
                    exact J148 p1 p2 I (va_up F 18 (upd (F 18) ((I 5) - 1 : Int32).toNatClampNeg (((F 18) ((I 5) - 1 : Int32).toNatClampNeg) + 1))) H locs ls (lv_sub hl [0, 1, 2] rfl) hP hS hw
              · have hw := hw.2 h15
                refine lv_aload_n hx hb dMM_step_115 rfl (lv_at hl 0 rfl) ?_
                obtain ⟨P28, hc28, hw⟩ := hw
                refine mc_i (va_runV (As := []) (rest := []) ⟨hx, hb, hml, hown, hts⟩ (c_MM_popValue l D a cI cZ hJ I (va_up F 18 (upd (F 18) ((I 5) - 1 : Int32).toNatClampNeg (((F 18) ((I 5) - 1 : Int32).toNatClampNeg) + 1))) H.size P28 hc28) (cwV 0 hts (tb_V (C := "CodeJudgeModel") wc_MM_popValue tw_5_59 tw_5_61 tw_0_40 tw_1_9) rfl rfl rfl (by decide +kernel) ⟨Nat.le_of_ble_eq_true rfl, Nat.le_of_ble_eq_true rfl⟩) ⟨mP_bl, va_recv hK hP rfl mw_0, mP_at hP hK⟩ rfl rfl hl.1 rfl (lv_room (Nat.le_of_ble_eq_true rfl)) dMM_step_116 ⟨Nat.le_of_ble_eq_true rfl, Nat.le_of_ble_eq_true rfl⟩) hS (fun r28 I28 F28 H locs hP hp28 hS => ?_)
                have hw := hw r28 I28 F28 hp28
                refine lv_istore_n (lv' := [(3, .int r28), (0, .ref (a 0)), (1, .int p1), (2, .int p2)]) hx hb dMM_step_119 rfl hl (by decide) rfl (fun ls hl => ?_)
                refine lv_aload_n hx hb dMM_step_120 rfl (lv_at hl 1 rfl) ?_
                refine lv_iload_n hx hb dMM_step_121 rfl (lv_at hl 2 rfl) ?_
                refine lv_aload_n hx hb dMM_step_122 rfl (lv_at hl 1 rfl) ?_
                obtain ⟨P29, hc29, hw⟩ := hw
                refine mc_i (va_runV (As := []) (rest := [.int p1, .ref (a 0)]) ⟨hx, hb, hml, hown, hts⟩ (c_MM_popValue l D a cI cZ hJ I28 F28 H.size P29 hc29) (cwV 0 hts (tb_V (C := "CodeJudgeModel") wc_MM_popValue tw_5_59 tw_5_61 tw_0_40 tw_1_9) rfl rfl rfl (by decide +kernel) ⟨Nat.le_of_ble_eq_true rfl, Nat.le_of_ble_eq_true rfl⟩) ⟨mP_bl, va_recv hK hP rfl mw_0, mP_at hP hK⟩ rfl rfl hl.1 rfl (lv_room (Nat.le_of_ble_eq_true rfl)) dMM_step_123 ⟨Nat.le_of_ble_eq_true rfl, Nat.le_of_ble_eq_true rfl⟩) hS (fun r29 I29 F29 H locs hP hp29 hS => ?_)
                have hw := hw r29 I29 F29 hp29
                refine lv_iload_n hx hb dMM_step_126 rfl (lv_at hl 0 rfl) ?_
                obtain ⟨P30, hc30, hw⟩ := hw
                refine mc_i (va_runS (As := [.int p1, .int r29, .int r28]) (rest := [.ref (a 0)]) ⟨hx, hb, hml, hown, hts⟩ (c_MM_worked l D a cI cZ hJ I29 F29 p1 r29 r28 H.size P30 hc30) (va_cwS 3 hts (tb_S wc_MM_worked tw_5_63 tw_5_64 tw_1_9) rfl rfl rfl (by decide +kernel) ⟨Nat.le_of_ble_eq_true rfl, Nat.le_of_ble_eq_true rfl⟩) ⟨mP_bl, mP_at hP hK⟩ rfl rfl hl.1 rfl (lv_room (Nat.le_of_ble_eq_true rfl)) dMM_step_127 ⟨Nat.le_of_ble_eq_true rfl, Nat.le_of_ble_eq_true rfl⟩) hS (fun r30 I30 F30 H locs hP hp30 hS => ?_)
                have hw := hw r30 I30 F30 hp30
                obtain ⟨P31, hc31, hw⟩ := hw
                refine mc_v (va_runV (As := [.int r30]) (rest := []) ⟨hx, hb, hml, hown, hts⟩ (c_MM_pushValue l D a cI cZ hJ I30 F30 r30 H.size P31 hc31) (cwV 1 hts (tb_V (C := "CodeJudgeModel") wc_MM_pushValue tw_5_55 tw_5_57 tw_0_39 tw_1_9) rfl rfl rfl (by decide +kernel) ⟨Nat.le_of_ble_eq_true rfl, Nat.le_of_ble_eq_true rfl⟩) ⟨mP_bl, va_recv hK hP rfl mw_0, mP_at hP hK⟩ rfl rfl hl.1 rfl (lv_room (Nat.le_of_ble_eq_true rfl)) dMM_step_130 ⟨Nat.le_of_ble_eq_true rfl, Nat.le_of_ble_eq_true rfl⟩) hS (fun I31 F31 H locs hP hp31 hS => ?_)
                have hw := hw I31 F31 hp31
                refine lv_goto (tgt := 223) hx hb dMM_step_133 (by decide) ?_
                rw [hQ]
                exact W.vret hx hb hr (fun t ht hW => ⟨⟨(I31, F31), rfl, hw, by subst ht; exact hP⟩, hS.F ht⟩) hS.2.2 dMM_step_223
            · have hw := hw.2 h14
              exact J85 p2 I (va_up F 18 (upd (F 18) ((I 5) - 1 : Int32).toNatClampNeg (((F 18) ((I 5) - 1 : Int32).toNatClampNeg) + 1))) H locs ls (lv_sub hl [0, 2] rfl) hP hS hw
        · have hw := hw.2 h10
          exact J51 p2 I (va_up F 18 (upd (F 18) ((I 5) - 1 : Int32).toNatClampNeg (((F 18) ((I 5) - 1 : Int32).toNatClampNeg) + 1))) H locs ls (lv_sub hl [0, 2] rfl) hP hS hw
    · have hw := hw.2 h6
      exact J25 p1 p2 I (va_up F 18 (upd (F 18) ((I 5) - 1 : Int32).toNatClampNeg (((F 18) ((I 5) - 1 : Int32).toNatClampNeg) + 1))) H locs ls (lv_sub hl [0, 1, 2] rfl) hP hS hw
def wp_MM_run_113 (Post : Int32 → SI → SF → Prop) (x2 : Int32) (I : SI) (F : SF) : Prop := Post x2 (va_up I 7 ((I 7) + x2)) F
def wp_MM_run_110 (K24 : Int32 → Int32 → SI → SF → Prop) (Post : Int32 → SI → SF → Prop) (x1 : Int32) (x2 : Int32) (I : SI) (F : SF) : Prop := K24 x1 x2 I F
def wp_MM_run_24 (Post : Int32 → SI → SF → Prop) : Nat → Int32 → Int32 → SI → SF → Prop
  | 0 => fun _ _ _ _ => False
  | n + 1 => fun x1 x2 I F => (x1 ≤ x2 → (wp_MM_run_113 Post x2 I F)) ∧ (¬ x1 ≤ x2 → (((I 5) ≤ 0 → (wp_MM_run_113 Post x2 I F)) ∧ (¬ (I 5) ≤ 0 → ((¬ (I 6) = 0 → (wp_MM_run_113 Post x2 I F)) ∧ ((I 6) = 0 → (vp_in ((I 5) - 1) 50 ∧ (vp_in ((I 5) - 1) 50 ∧ (∀ x9 : Int32, x9 = ((120 : Int32) * ((F 17) ((I 5) - 1 : Int32).toNatClampNeg)) + ((F 18) ((I 5) - 1 : Int32).toNatClampNeg) → (vp_in x9 960 ∧ (∃ P11 : Int32 → SI → SF → Prop, wp_MM_troubleOf ((F 8) x9.toNatClampNeg) I F P11 ∧ ∀ r11 I11 F11, P11 r11 I11 F11 → ((¬ r11 = 0 → (wp_MM_run_110 (wp_MM_run_24 Post n) Post x1 x2 (va_up I11 6 r11) F11)) ∧ (r11 = 0 → (vp_in x9 960 ∧ (vp_in x9 960 ∧ (∃ P15 : SI → SF → Prop, wp_MM_step ((F11 8) x9.toNatClampNeg) ((F11 9) x9.toNatClampNeg) (va_up I11 6 r11) F11 P15 ∧ ∀ I15 F15, P15 I15 F15 → (∀ x16 : Int32, x16 = x2 + 1 → (wp_MM_run_110 (wp_MM_run_24 Post n) Post x1 x16 I15 F15)))))))))))))))))
def wp_MM_run (p1 : Int32) (I : SI) (F : SF) (Post : Int32 → SI → SF → Prop) : Prop := ∃ P1 : Int32 → SI → SF → Prop, wp_MM_within p1 0 2000 I F P1 ∧ ∀ r1 I1 F1, P1 r1 I1 F1 → (∃ P2 : Int32 → SI → SF → Prop, wp_MM_goes r1 (I1 4) 1 I1 F1 P2 ∧ ∀ r2 I2 F2, P2 r2 I2 F2 → ((¬ r2 = 0 → (∃ q24, wp_MM_run_24 Post q24 p1 0 I2 F2)) ∧ (r2 = 0 → (Post 0 I2 F2))))
set_option maxHeartbeats 4000000 in
set_option maxRecDepth 100000 in
theorem c_MM_run (l : Launch) (D : va_G) (a : Nat → Nat) (cI cZ : ClassId) (hJ : xJ 26 a) (I : SI) (F : SF) (p1 : Int32) (sz : Nat) (Post : Int32 → SI → SF → Prop) (hw : wp_MM_run p1 I F Post) : Met l y_MM_run (Cond.code y_MM_run b_MM_run 4 (some .int) :: TB) { frames := 3, cells := 0, slots := 0, locals := 68 } (va_Pc [.ref (a 0), .int p1] (mP D a cI cZ I F sz)) (va_Qi (fun r (u : SI × SF) => Post r u.1 u.2) (fun u t => va_P D vwCl (mw a cI cZ u.1 u.2) t.heap) (xA 26 a sz)) 0 0 (xA 26 a sz) := by
  refine Met.ofW (cc := b_MM_run) (maxL := 4) (ret := (some .int)) (by decide) rfl ?_
  intro p e s m args below meth c s₁ B hml hv
  obtain ⟨rfl, rfl, hP, hK⟩ := hv
  have hx := B.exec
  have hb := B.bytes
  have hr := B.returns
  have hts : ∀ w ∈ TB, w.before _ s = true := fun w h => atoms_spec (ws := Cond.code y_MM_run b_MM_run 4 (some .int) :: TB) B.pre w (List.mem_cons_of_mem _ h)
  have hown : s.vm.findClass "CodeJudgeModel" = some m.cls := findClass_of_methodNamed B.named
  have hlocks := B.notSynchronized
  have hl := lv_entry ([.ref (a 0), .int p1]) (n := 4) (Nat.le_of_ble_eq_true rfl)
  rw [lg_entry_eq]
  generalize (lg_sl ([.ref (a 0), .int p1]) ++ List.replicate (4 - (lg_sl ([.ref (a 0), .int p1])).length) Slot.unset).toArray = ls at hl ⊢
  have hl : lv_has ls 4 [(0, .ref (a 0)), (1, .int p1)] := hl
  obtain ⟨Q, hQ⟩ : ∃ Q, Q = MQ below (va_Qi (fun r (u : SI × SF) => Post r u.1 u.2) (fun u t => va_P D vwCl (mw a cI cZ u.1 u.2) t.heap) (xA 26 a s.heap.size)) ([.ref (a 0), .int p1]).toArray s 0 0 (xA 26 a s.heap.size) := ⟨_, rfl⟩
  rw [← hQ]
  have J113 : ∀ (x2 : Int32) (I : SI) (F : SF) (H : Heap) (locs : List Loc) (ls : Array Slot), lv_has ls 4 [(0, .ref (a 0)), (2, .int x2)] → va_P D vwCl (mw a cI cZ I F) H → va_S (xA 26 a s.heap.size) s.heap H locs → wp_MM_run_113 Post x2 I F → W p l e (headSpec (Cond.code y_MM_run b_MM_run 4 (some .int) :: TB) { frames := 3, cells := 0, slots := 0, locals := 68 }).room s m ([.ref (a 0), .int p1]).toArray below meth c H locs 0 0 Q (F0 m 113 ls []) := by
    intro x2 I F H locs ls hl hP hS hw
    dsimp only [wp_MM_run_113] at hw
    refine lv_aload_n hx hb dMM_run_113 rfl (lv_at hl 0 rfl) ?_
    refine lv_aload_n hx hb dMM_run_114 rfl (lv_at hl 0 rfl) ?_
    refine va_get (D := D) (v := .int (I 7)) (ci := 8) (C := "CodeJudgeModel") (T := T_MM) (N := 37) hx hb hts in_MM hown hK hP 0 mw_0 rfl 28 (by decide) (hts (.fieldLink "CodeJudgeModel" 167 "CodeJudgeModel" "steps" "I") tw_4_93) (fun _ h9 => h9) rfl dMM_run_115 ?_
    refine lv_iload_n hx hb dMM_run_118 rfl (lv_at hl 1 rfl) ?_
    refine lv_iadd hx hb dMM_run_119 ?_
    refine va_put (D := D) (ci := 8) (v := .int ((I 7) + x2)) (ty := .int) (C := "CodeJudgeModel") (T := T_MM) (N := 37) hx hb hts in_MM ty_MM ok_MM nm_MM hown hK hP (mD hJ) hS 0 mw_0 rfl 28 (by decide) (hts (.fieldLink "CodeJudgeModel" 167 "CodeJudgeModel" "steps" "I") tw_4_93) (fun _ h9 => h9) rfl (by decide +kernel) rfl rfl (Nat.le_of_ble_eq_true rfl) dMM_run_120 (fun H locs hP _ hS => ?_)
    have hP := mwp_7 hP
    refine lv_iload_n hx hb dMM_run_123 rfl (lv_at hl 1 rfl) ?_
    rw [hQ]
    exact W.iret (v := x2) hx hb hr (fun t ht hW => ⟨⟨x2, ((va_up I 7 ((I 7) + x2)), F), rfl, hw, by subst ht; exact hP⟩, hS.F ht⟩) hS.2.2 dMM_run_124
  have J24 : ∀ n : Nat, ∀ (x1 : Int32) (x2 : Int32) (I : SI) (F : SF) (H : Heap) (locs : List Loc) (ls : Array Slot), lv_has ls 4 [(0, .ref (a 0)), (1, .int x1), (2, .int x2)] → va_P D vwCl (mw a cI cZ I F) H → va_S (xA 26 a s.heap.size) s.heap H locs → wp_MM_run_24 Post n x1 x2 I F → W p l e (headSpec (Cond.code y_MM_run b_MM_run 4 (some .int) :: TB) { frames := 3, cells := 0, slots := 0, locals := 68 }).room s m ([.ref (a 0), .int p1]).toArray below meth c H locs 0 0 Q (F0 m 24 ls []) := by
    intro n24
    induction n24 with
    | zero =>
      intro x1 x2 I F H locs ls hl hP hS hw
      exact False.elim hw
    | succ n24 ih24 =>
      have J110 : ∀ (x1 : Int32) (x2 : Int32) (I : SI) (F : SF) (H : Heap) (locs : List Loc) (ls : Array Slot), lv_has ls 4 [(0, .ref (a 0)), (1, .int x1), (2, .int x2)] → va_P D vwCl (mw a cI cZ I F) H → va_S (xA 26 a s.heap.size) s.heap H locs → wp_MM_run_110 (wp_MM_run_24 Post n24) Post x1 x2 I F → W p l e (headSpec (Cond.code y_MM_run b_MM_run 4 (some .int) :: TB) { frames := 3, cells := 0, slots := 0, locals := 68 }).room s m ([.ref (a 0), .int p1]).toArray below meth c H locs 0 0 Q (F0 m 110 ls []) := by
        intro x1 x2 I F H locs ls hl hP hS hw
        dsimp only [wp_MM_run_110] at hw
        refine lv_goto (tgt := 24) hx hb dMM_run_110 (by decide) ?_
        exact ih24 x1 x2 I F H locs ls (lv_sub hl [0, 1, 2] rfl) hP hS hw
      intro x1 x2 I F H locs ls hl hP hS hw
      dsimp only [wp_MM_run_24] at hw
      refine lv_iload_n hx hb dMM_run_24 rfl (lv_at hl 2 rfl) ?_
      refine lv_iload_n hx hb dMM_run_25 rfl (lv_at hl 1 rfl) ?_
      refine lv_icmp_ge (tgt := 113) hx hb dMM_run_26 (by decide) (fun h4 => ?_) (fun h4 => ?_)
      · have hw := hw.1 h4
        exact J113 x2 I F H locs ls (lv_sub hl [0, 2] rfl) hP hS hw
      · have hw := hw.2 h4
        refine lv_aload_n hx hb dMM_run_29 rfl (lv_at hl 0 rfl) ?_
        refine va_get (D := D) (v := .int (I 5)) (ci := 8) (C := "CodeJudgeModel") (T := T_MM) (N := 37) hx hb hts in_MM hown hK hP 0 mw_0 rfl 21 (by decide) (hts (.fieldLink "CodeJudgeModel" 154 "CodeJudgeModel" "frames" "I") tw_4_86) (fun _ h9 => h9) rfl dMM_run_30 ?_
        refine lv_if_le (tgt := 113) hx hb dMM_run_33 (by decide) (fun h5 => ?_) (fun h5 => ?_)
        · have hw := hw.1 h5
          exact J113 x2 I F H locs ls (lv_sub hl [0, 2] rfl) hP hS hw
        · have hw := hw.2 h5
          refine lv_aload_n hx hb dMM_run_36 rfl (lv_at hl 0 rfl) ?_
          refine va_get (D := D) (v := .int (I 6)) (ci := 8) (C := "CodeJudgeModel") (T := T_MM) (N := 37) hx hb hts in_MM hown hK hP 0 mw_0 rfl 27 (by decide) (hts (.fieldLink "CodeJudgeModel" 164 "CodeJudgeModel" "trouble" "I") tw_4_92) (fun _ h9 => h9) rfl dMM_run_37 ?_
          refine lv_if_ne (tgt := 113) hx hb dMM_run_40 (by decide) (fun h6 => ?_) (fun h6 => ?_)
          · have hw := hw.1 h6
            exact J113 x2 I F H locs ls (lv_sub hl [0, 2] rfl) hP hS hw
          · have hw := hw.2 h6
            refine lv_bipush (v := 120) hx hb dMM_run_43 (by decide) ?_
            refine lv_aload_n hx hb dMM_run_45 rfl (lv_at hl 0 rfl) ?_
            refine va_get (D := D) (v := .ref (a 17)) (ci := 8) (C := "CodeJudgeModel") (T := T_MM) (N := 37) hx hb hts in_MM hown hK hP 0 mw_0 rfl 22 (by decide) (hts (.fieldLink "CodeJudgeModel" 59 "CodeJudgeModel" "methods" "[I") tw_4_87) (fun _ h9 => h9) rfl dMM_run_46 ?_
            refine lv_aload_n hx hb dMM_run_49 rfl (lv_at hl 0 rfl) ?_
            refine va_get (D := D) (v := .int (I 5)) (ci := 8) (C := "CodeJudgeModel") (T := T_MM) (N := 37) hx hb hts in_MM hown hK hP 0 mw_0 rfl 21 (by decide) (hts (.fieldLink "CodeJudgeModel" 154 "CodeJudgeModel" "frames" "I") tw_4_86) (fun _ h9 => h9) rfl dMM_run_50 ?_
            refine lv_iconst (v := 1) hx hb dMM_run_53 (by decide) ?_
            refine lv_isub hx hb dMM_run_54 ?_
            obtain ⟨h7, hw⟩ := hw
            refine va_iald hx hb hK hP 17 0 mw_17 rfl h7 dMM_run_55 ?_
            refine lv_imul hx hb dMM_run_56 ?_
            refine lv_aload_n hx hb dMM_run_57 rfl (lv_at hl 0 rfl) ?_
            refine va_get (D := D) (v := .ref (a 18)) (ci := 8) (C := "CodeJudgeModel") (T := T_MM) (N := 37) hx hb hts in_MM hown hK hP 0 mw_0 rfl 23 (by decide) (hts (.fieldLink "CodeJudgeModel" 62 "CodeJudgeModel" "places" "[I") tw_4_88) (fun _ h9 => h9) rfl dMM_run_58 ?_
            refine lv_aload_n hx hb dMM_run_61 rfl (lv_at hl 0 rfl) ?_
            refine va_get (D := D) (v := .int (I 5)) (ci := 8) (C := "CodeJudgeModel") (T := T_MM) (N := 37) hx hb hts in_MM hown hK hP 0 mw_0 rfl 21 (by decide) (hts (.fieldLink "CodeJudgeModel" 154 "CodeJudgeModel" "frames" "I") tw_4_86) (fun _ h9 => h9) rfl dMM_run_62 ?_
            refine lv_iconst (v := 1) hx hb dMM_run_65 (by decide) ?_
            refine lv_isub hx hb dMM_run_66 ?_
            obtain ⟨h8, hw⟩ := hw
            refine va_iald hx hb hK hP 18 0 mw_18 rfl h8 dMM_run_67 ?_
            refine lv_iadd hx hb dMM_run_68 ?_
            refine lv_topi (fun x9 e_x9 => ?_)
            have hw := hw x9 e_x9
            refine lv_istore_n (lv' := [(3, .int x9), (0, .ref (a 0)), (1, .int x1), (2, .int x2)]) hx hb dMM_run_69 rfl hl (by decide) rfl (fun ls hl => ?_)
            refine lv_aload_n hx hb dMM_run_70 rfl (lv_at hl 1 rfl) ?_
            refine lv_aload_n hx hb dMM_run_71 rfl (lv_at hl 1 rfl) ?_
            refine lv_aload_n hx hb dMM_run_72 rfl (lv_at hl 1 rfl) ?_
            refine va_get (D := D) (v := .ref (a 8)) (ci := 8) (C := "CodeJudgeModel") (T := T_MM) (N := 37) hx hb hts in_MM hown hK hP 0 mw_0 rfl 8 (by decide) (hts (.fieldLink "CodeJudgeModel" 32 "CodeJudgeModel" "orders" "[I") tw_4_74) (fun _ h9 => h9) rfl dMM_run_73 ?_
            refine lv_iload_n hx hb dMM_run_76 rfl (lv_at hl 0 rfl) ?_
            obtain ⟨h10, hw⟩ := hw
            refine va_iald hx hb hK hP 8 0 mw_8 rfl h10 dMM_run_77 ?_
            obtain ⟨P11, hc11, hw⟩ := hw
            refine mc_i (va_runV (As := [.int ((F 8) x9.toNatClampNeg)]) (rest := [.ref (a 0)]) ⟨hx, hb, hml, hown, hts⟩ (c_MM_troubleOf l D a cI cZ hJ I F ((F 8) x9.toNatClampNeg) H.size P11 hc11) (cwV 1 hts (tb_V (C := "CodeJudgeModel") wc_MM_troubleOf tw_5_43 tw_5_45 tw_0_36 tw_1_9) rfl rfl rfl (by decide +kernel) ⟨Nat.le_of_ble_eq_true rfl, Nat.le_of_ble_eq_true rfl⟩) ⟨mP_bl, va_recv hK hP rfl mw_0, mP_at hP hK⟩ rfl rfl hl.1 rfl (lv_room (Nat.le_of_ble_eq_true rfl)) dMM_run_78 ⟨Nat.le_of_ble_eq_true rfl, Nat.le_of_ble_eq_true rfl⟩) hS (fun r11 I11 F11 H locs hP hp11 hS => ?_)
            have hw := hw r11 I11 F11 hp11
            refine va_put (D := D) (ci := 8) (v := .int r11) (ty := .int) (C := "CodeJudgeModel") (T := T_MM) (N := 37) hx hb hts in_MM ty_MM ok_MM nm_MM hown hK hP (mD hJ) hS 0 mw_0 rfl 27 (by decide) (hts (.fieldLink "CodeJudgeModel" 164 "CodeJudgeModel" "trouble" "I") tw_4_92) (fun _ h9 => h9) rfl (by decide +kernel) rfl rfl (Nat.le_of_ble_eq_true rfl) dMM_run_81 (fun H locs hP _ hS => ?_)
            have hP := mwp_6 hP
            refine lv_aload_n hx hb dMM_run_84 rfl (lv_at hl 1 rfl) ?_
            refine va_get (D := D) (v := .int r11) (ci := 8) (C := "CodeJudgeModel") (T := T_MM) (N := 37) hx hb hts in_MM hown hK hP 0 mw_0 rfl 27 (by decide) (hts (.fieldLink "CodeJudgeModel" 164 "CodeJudgeModel" "trouble" "I") tw_4_92) (fun _ h9 => h9) rfl dMM_run_85 ?_
            refine lv_if_ne (tgt := 110) hx hb dMM_run_88 (by decide) (fun h12 => ?_) (fun h12 => ?_)
            · have hw := hw.1 h12
              exact J110 x1 x2 (va_up I11 6 r11) F11 H locs ls (lv_sub hl [1, 2, 3] rfl) hP hS hw
            · have hw := hw.2 h12
              refine lv_aload_n hx hb dMM_run_91 rfl (lv_at hl 1 rfl) ?_
              refine lv_aload_n hx hb dMM_run_92 rfl (lv_at hl 1 rfl) ?_
              refine va_get (D := D) (v := .ref (a 8)) (ci := 8) (C := "CodeJudgeModel") (T := T_MM) (N := 37) hx hb hts in_MM hown hK hP 0 mw_0 rfl 8 (by decide) (hts (.fieldLink "CodeJudgeModel" 32 "CodeJudgeModel" "orders" "[I") tw_4_74) (fun _ h9 => h9) rfl dMM_run_93 ?_
              refine lv_iload_n hx hb dMM_run_96 rfl (lv_at hl 0 rfl) ?_
              obtain ⟨h13, hw⟩ := hw
              refine va_iald hx hb hK hP 8 0 mw_8 rfl h13 dMM_run_97 ?_
              refine lv_aload_n hx hb dMM_run_98 rfl (lv_at hl 1 rfl) ?_
              refine va_get (D := D) (v := .ref (a 9)) (ci := 8) (C := "CodeJudgeModel") (T := T_MM) (N := 37) hx hb hts in_MM hown hK hP 0 mw_0 rfl 9 (by decide) (hts (.fieldLink "CodeJudgeModel" 35 "CodeJudgeModel" "numbers" "[I") tw_4_75) (fun _ h9 => h9) rfl dMM_run_99 ?_
              refine lv_iload_n hx hb dMM_run_102 rfl (lv_at hl 0 rfl) ?_
              obtain ⟨h14, hw⟩ := hw
              refine va_iald hx hb hK hP 9 0 mw_9 rfl h14 dMM_run_103 ?_
              obtain ⟨P15, hc15, hw⟩ := hw
              refine mc_v (va_runV (As := [.int ((F11 8) x9.toNatClampNeg), .int ((F11 9) x9.toNatClampNeg)]) (rest := []) ⟨hx, hb, hml, hown, hts⟩ (c_MM_step l D a cI cZ hJ (va_up I11 6 r11) F11 ((F11 8) x9.toNatClampNeg) ((F11 9) x9.toNatClampNeg) H.size P15 hc15) (cwV 2 hts (tb_V (C := "CodeJudgeModel") wc_MM_step tw_5_51 tw_5_53 tw_0_38 tw_1_9) rfl rfl rfl (by decide +kernel) ⟨Nat.le_of_ble_eq_true rfl, Nat.le_of_ble_eq_true rfl⟩) ⟨mP_bl, va_recv hK hP rfl mw_0, mP_at hP hK⟩ rfl rfl hl.1 rfl (lv_room (Nat.le_of_ble_eq_true rfl)) dMM_run_104 ⟨Nat.le_of_ble_eq_true rfl, Nat.le_of_ble_eq_true rfl⟩) hS (fun I15 F15 H locs hP hp15 hS => ?_)
              have hw := hw I15 F15 hp15
              obtain ⟨x16, e_x16⟩ : ∃ z : Int32, z = x2 + 1 := ⟨_, rfl⟩
              have hw := hw x16 e_x16
              refine lv_iinc (k := 3) (v := x16) (lv' := [(2, .int x16), (3, .int x9), (0, .ref (a 0)), (1, .int x1)]) hx hb dMM_run_107 hl rfl (e_x16 ▸ (by first | rfl | decide)) (by decide) rfl (fun ls hl => ?_)
              exact J110 x1 x16 I15 F15 H locs ls (lv_sub hl [2, 3, 0] rfl) hP hS hw
  suffices hM : ∀ (H : Heap) (locs : List Loc), va_P D vwCl (mw a cI cZ I F) H → va_S (xA 26 a s.heap.size) s.heap H locs → W p l e (headSpec (Cond.code y_MM_run b_MM_run 4 (some .int) :: TB) { frames := 3, cells := 0, slots := 0, locals := 68 }).room s m ([.ref (a 0), .int p1]).toArray below meth c H locs 0 0 (Q) (F0 m 0 ls []) from hM s.heap [] hP va_S.rf
  clear hP
  intro H locs hP hS
  dsimp only [wp_MM_run] at hw
  refine lv_aload_n hx hb dMM_run_0 rfl (lv_at hl 0 rfl) ?_
  refine lv_iload_n hx hb dMM_run_1 rfl (lv_at hl 1 rfl) ?_
  refine lv_iconst (v := 0) hx hb dMM_run_2 (by decide) ?_
  refine lv_sipush (v := 2000) hx hb dMM_run_3 (by decide) ?_
  obtain ⟨P1, hc1, hw⟩ := hw
  refine mc_i (va_runS (As := [.int p1, .int 0, .int 2000]) (rest := [.ref (a 0)]) ⟨hx, hb, hml, hown, hts⟩ (c_MM_within l D a cI cZ hJ I F p1 0 2000 H.size P1 hc1) (va_cwS 3 hts (tb_S wc_MM_within tw_4_185 tw_4_186 tw_1_9) rfl rfl rfl (by decide +kernel) ⟨Nat.le_of_ble_eq_true rfl, Nat.le_of_ble_eq_true rfl⟩) ⟨mP_bl, mP_at hP hK⟩ rfl rfl hl.1 rfl (lv_room (Nat.le_of_ble_eq_true rfl)) dMM_run_6 ⟨Nat.le_of_ble_eq_true rfl, Nat.le_of_ble_eq_true rfl⟩) hS (fun r1 I1 F1 H locs hP hp1 hS => ?_)
  have hw := hw r1 I1 F1 hp1
  refine lv_aload_n hx hb dMM_run_9 rfl (lv_at hl 0 rfl) ?_
  refine va_get (D := D) (v := .int (I1 4)) (ci := 8) (C := "CodeJudgeModel") (T := T_MM) (N := 37) hx hb hts in_MM hown hK hP 0 mw_0 rfl 20 (by decide) (hts (.fieldLink "CodeJudgeModel" 98 "CodeJudgeModel" "isRun" "Z") tw_4_85) (fun _ h9 => h9) rfl dMM_run_10 ?_
  refine lv_iconst (v := 1) hx hb dMM_run_13 (by decide) ?_
  obtain ⟨P2, hc2, hw⟩ := hw
  refine mc_i (va_runV (As := [.int r1, .int (I1 4), .int 1]) (rest := []) ⟨hx, hb, hml, hown, hts⟩ (c_MM_goes l D a cI cZ hJ I1 F1 r1 (I1 4) 1 H.size P2 hc2) (cwV 3 hts (tb_V (C := "CodeJudgeModel") wc_MM_goes tw_4_188 tw_4_190 tw_0_21 tw_1_9) rfl rfl rfl (by decide +kernel) ⟨Nat.le_of_ble_eq_true rfl, Nat.le_of_ble_eq_true rfl⟩) ⟨mP_bl, va_recv hK hP rfl mw_0, mP_at hP hK⟩ rfl rfl hl.1 rfl (lv_room (Nat.le_of_ble_eq_true rfl)) dMM_run_14 ⟨Nat.le_of_ble_eq_true rfl, Nat.le_of_ble_eq_true rfl⟩) hS (fun r2 I2 F2 H locs hP hp2 hS => ?_)
  have hw := hw r2 I2 F2 hp2
  refine lv_if_ne (tgt := 22) hx hb dMM_run_17 (by decide) (fun h3 => ?_) (fun h3 => ?_)
  · have hw := hw.1 h3
    refine lv_iconst (v := 0) hx hb dMM_run_22 (by decide) ?_
    refine lv_istore_n (lv' := [(2, .int 0), (0, .ref (a 0)), (1, .int p1)]) hx hb dMM_run_23 rfl hl (by decide) rfl (fun ls hl => ?_)
    obtain ⟨n24, hw⟩ := hw
    exact J24 n24 p1 0 I2 F2 H locs ls (lv_sub hl [1, 2, 0] rfl) hP hS hw
  · have hw := hw.2 h3
    refine lv_iconst (v := 0) hx hb dMM_run_20 (by decide) ?_
    rw [hQ]
    exact W.iret (v := 0) hx hb hr (fun t ht hW => ⟨⟨0, (I2, F2), rfl, hw, by subst ht; exact hP⟩, hS.F ht⟩) hS.2.2 dMM_run_21
def wp_MM_start_217 (K161 : Int32 → Int32 → Int32 → Int32 → Int32 → Int32 → SI → SF → Prop) (Post : SI → SF → Prop) (x1 : Int32) (x2 : Int32) (x3 : Int32) (x4 : Int32) (x5 : Int32) (x8 : Int32) (s0 : Int32) (s1 : Int32) (I : SI) (F : SF) : Prop := vp_in s1 500 ∧ (∀ x13 : Int32, x13 = x8 + 1 → (K161 x1 x2 x3 x4 x5 x13 I (va_up F 21 (upd (F 21) s1.toNatClampNeg s0))))
def wp_MM_start_161 (Post : SI → SF → Prop) : Nat → Int32 → Int32 → Int32 → Int32 → Int32 → Int32 → SI → SF → Prop
  | 0 => fun _ _ _ _ _ _ _ _ => False
  | n + 1 => fun x1 x2 x3 x4 x5 x8 I F => vp_in x1 8 ∧ ((((F 2) x1.toNatClampNeg) ≤ x8 → (Post I F)) ∧ (¬ ((F 2) x1.toNatClampNeg) ≤ x8 → (∃ P9 : Int32 → SI → SF → Prop, wp_MM_of x8 x2 x3 x4 x5 I F P9 ∧ ∀ r9 I9 F9, P9 r9 I9 F9 → (vp_in x1 8 ∧ ((¬ ((((F9 3) x1.toNatClampNeg) >>> (x8 &&& 31)) &&& 1) = 1 → (wp_MM_start_217 (wp_MM_start_161 Post n) Post x1 x2 x3 x4 x5 x8 r9 x8 I9 F9)) ∧ (((((F9 3) x1.toNatClampNeg) >>> (x8 &&& 31)) &&& 1) = 1 → (∃ P14 : Int32 → SI → SF → Prop, wp_MM_make r9 I9 F9 P14 ∧ ∀ r14 I14 F14, P14 r14 I14 F14 → (wp_MM_start_217 (wp_MM_start_161 Post n) Post x1 x2 x3 x4 x5 x8 r14 x8 I14 F14))))))))
def wp_MM_start_106 (Post : SI → SF → Prop) (x1 : Int32) (x2 : Int32) (x3 : Int32) (x4 : Int32) (x5 : Int32) (s0 : Int32) (s1 : Int32) (s2 : Int32) (I : SI) (F : SF) : Prop := ∃ P4 : Int32 → SI → SF → Prop, wp_MM_goes s2 s1 s0 I F P4 ∧ ∀ r4 I4 F4, P4 r4 I4 F4 → ((¬ r4 = 0 → (∃ P6 : SI → SF → Prop, wp_MM_open x1 (va_up (va_up (va_up (va_up (va_up (va_up (va_up (va_up I4 4 1) 5 0) 6 0) 7 0) 8 0) 9 0) 10 0) 11 0) F4 P6 ∧ ∀ I6 F6, P6 I6 F6 → (∃ q161, wp_MM_start_161 Post q161 x1 x2 x3 x4 x5 0 I6 F6))) ∧ (r4 = 0 → (Post I4 F4)))
def wp_MM_start_105 (Post : SI → SF → Prop) (x1 : Int32) (x2 : Int32) (x3 : Int32) (x4 : Int32) (x5 : Int32) (s0 : Int32) (s1 : Int32) (I : SI) (F : SF) : Prop := wp_MM_start_106 Post x1 x2 x3 x4 x5 0 s0 s1 I F
def wp_MM_start_78 (Post : SI → SF → Prop) (x1 : Int32) (x2 : Int32) (x3 : Int32) (x4 : Int32) (x5 : Int32) (x6 : Int32) (x7 : Int32) (I : SI) (F : SF) : Prop := (x6 = 0 → (wp_MM_start_105 Post x1 x2 x3 x4 x5 x7 x6 I F)) ∧ (¬ x6 = 0 → ((x7 = 0 → (wp_MM_start_105 Post x1 x2 x3 x4 x5 x7 x6 I F)) ∧ (¬ x7 = 0 → (∃ P16 : Int32 → SI → SF → Prop, wp_MM_allGood x1 I F P16 ∧ ∀ r16 I16 F16, P16 r16 I16 F16 → ((r16 = 0 → (wp_MM_start_105 Post x1 x2 x3 x4 x5 x7 x6 I16 F16)) ∧ (¬ r16 = 0 → (wp_MM_start_106 Post x1 x2 x3 x4 x5 1 x7 x6 I16 F16)))))))
def wp_MM_start_70 (K14 : Int32 → Int32 → Int32 → Int32 → Int32 → Int32 → Int32 → Int32 → SI → SF → Prop) (Post : SI → SF → Prop) (x1 : Int32) (x2 : Int32) (x3 : Int32) (x4 : Int32) (x5 : Int32) (x6 : Int32) (x8 : Int32) (s0 : Int32) (I : SI) (F : SF) : Prop := ∀ x20 : Int32, x20 = x8 + 1 → (K14 x1 x2 x3 x4 x5 x6 s0 x20 I F)
def wp_MM_start_69 (K14 : Int32 → Int32 → Int32 → Int32 → Int32 → Int32 → Int32 → Int32 → SI → SF → Prop) (Post : SI → SF → Prop) (x1 : Int32) (x2 : Int32) (x3 : Int32) (x4 : Int32) (x5 : Int32) (x6 : Int32) (x8 : Int32) (I : SI) (F : SF) : Prop := wp_MM_start_70 K14 Post x1 x2 x3 x4 x5 x6 x8 0 I F
def wp_MM_start_65 (K14 : Int32 → Int32 → Int32 → Int32 → Int32 → Int32 → Int32 → Int32 → SI → SF → Prop) (Post : SI → SF → Prop) (x1 : Int32) (x2 : Int32) (x3 : Int32) (x4 : Int32) (x5 : Int32) (x6 : Int32) (x8 : Int32) (I : SI) (F : SF) : Prop := wp_MM_start_70 K14 Post x1 x2 x3 x4 x5 x6 x8 1 I F
def wp_MM_start_14 (Post : SI → SF → Prop) : Nat → Int32 → Int32 → Int32 → Int32 → Int32 → Int32 → Int32 → Int32 → SI → SF → Prop
  | 0 => fun _ _ _ _ _ _ _ _ _ _ => False
  | n + 1 => fun x1 x2 x3 x4 x5 x6 x7 x8 I F => (4 ≤ x8 → (wp_MM_start_78 Post x1 x2 x3 x4 x5 x6 x7 I F)) ∧ (¬ 4 ≤ x8 → ((x6 = 0 → (wp_MM_start_78 Post x1 x2 x3 x4 x5 x6 x7 I F)) ∧ (¬ x6 = 0 → ((x7 = 0 → (wp_MM_start_69 (wp_MM_start_14 Post n) Post x1 x2 x3 x4 x5 x6 x8 I F)) ∧ (¬ x7 = 0 → (vp_in x1 8 ∧ ((((((F 3) x1.toNatClampNeg) >>> (x8 &&& 31)) &&& 1) = 0 → (wp_MM_start_65 (wp_MM_start_14 Post n) Post x1 x2 x3 x4 x5 x6 x8 I F)) ∧ (¬ ((((F 3) x1.toNatClampNeg) >>> (x8 &&& 31)) &&& 1) = 0 → (∃ P23 : Int32 → SI → SF → Prop, wp_MM_of x8 x2 x3 x4 x5 I F P23 ∧ ∀ r23 I23 F23, P23 r23 I23 F23 → (∃ P24 : Int32 → SI → SF → Prop, wp_MM_within r23 0 400 I23 F23 P24 ∧ ∀ r24 I24 F24, P24 r24 I24 F24 → ((r24 = 0 → (wp_MM_start_69 (wp_MM_start_14 Post n) Post x1 x2 x3 x4 x5 x6 x8 I24 F24)) ∧ (¬ r24 = 0 → (wp_MM_start_65 (wp_MM_start_14 Post n) Post x1 x2 x3 x4 x5 x6 x8 I24 F24)))))))))))))
def wp_MM_start (p1 : Int32) (p2 : Int32) (p3 : Int32) (p4 : Int32) (p5 : Int32) (I : SI) (F : SF) (Post : SI → SF → Prop) : Prop := ∃ P1 : Int32 → SI → SF → Prop, wp_MM_isMethod p1 I F P1 ∧ ∀ r1 I1 F1, P1 r1 I1 F1 → (∃ q14, wp_MM_start_14 Post q14 p1 p2 p3 p4 p5 r1 r1 0 I1 F1)
set_option maxHeartbeats 4000000 in
set_option maxRecDepth 100000 in
theorem c_MM_start (l : Launch) (D : va_G) (a : Nat → Nat) (cI cZ : ClassId) (hJ : xJ 26 a) (I : SI) (F : SF) (p1 : Int32) (p2 : Int32) (p3 : Int32) (p4 : Int32) (p5 : Int32) (sz : Nat) (Post : SI → SF → Prop) (hw : wp_MM_start p1 p2 p3 p4 p5 I F Post) : Met l y_MM_start (Cond.code y_MM_start b_MM_start 10 none :: TB) { frames := 6, cells := 0, slots := 0, locals := 144 } (va_Pc [.ref (a 0), .int p1, .int p2, .int p3, .int p4, .int p5] (mP D a cI cZ I F sz)) (va_Qv (fun (u : SI × SF) => Post u.1 u.2) (fun u t => va_P D vwCl (mw a cI cZ u.1 u.2) t.heap) (xA 26 a sz)) 0 0 (xA 26 a sz) := by
  refine Met.ofW (cc := b_MM_start) (maxL := 10) (ret := none) (by decide) rfl ?_
  intro p e s m args below meth c s₁ B hml hv
  obtain ⟨rfl, rfl, hP, hK⟩ := hv
  have hx := B.exec
  have hb := B.bytes
  have hr := B.returns
  have hts : ∀ w ∈ TB, w.before _ s = true := fun w h => atoms_spec (ws := Cond.code y_MM_start b_MM_start 10 none :: TB) B.pre w (List.mem_cons_of_mem _ h)
  have hown : s.vm.findClass "CodeJudgeModel" = some m.cls := findClass_of_methodNamed B.named
  have hlocks := B.notSynchronized
  have hl := lv_entry ([.ref (a 0), .int p1, .int p2, .int p3, .int p4, .int p5]) (n := 10) (Nat.le_of_ble_eq_true rfl)
  rw [lg_entry_eq]
  generalize (lg_sl ([.ref (a 0), .int p1, .int p2, .int p3, .int p4, .int p5]) ++ List.replicate (10 - (lg_sl ([.ref (a 0), .int p1, .int p2, .int p3, .int p4, .int p5])).length) Slot.unset).toArray = ls at hl ⊢
  have hl : lv_has ls 10 [(0, .ref (a 0)), (1, .int p1), (2, .int p2), (3, .int p3), (4, .int p4), (5, .int p5)] := hl
  obtain ⟨Q, hQ⟩ : ∃ Q, Q = MQ below (va_Qv (fun (u : SI × SF) => Post u.1 u.2) (fun u t => va_P D vwCl (mw a cI cZ u.1 u.2) t.heap) (xA 26 a s.heap.size)) ([.ref (a 0), .int p1, .int p2, .int p3, .int p4, .int p5]).toArray s 0 0 (xA 26 a s.heap.size) := ⟨_, rfl⟩
  rw [← hQ]
  have J161 : ∀ n : Nat, ∀ (x1 : Int32) (x2 : Int32) (x3 : Int32) (x4 : Int32) (x5 : Int32) (x8 : Int32) (I : SI) (F : SF) (H : Heap) (locs : List Loc) (ls : Array Slot), lv_has ls 10 [(0, .ref (a 0)), (1, .int x1), (2, .int x2), (3, .int x3), (4, .int x4), (5, .int x5), (8, .int x8)] → va_P D vwCl (mw a cI cZ I F) H → va_S (xA 26 a s.heap.size) s.heap H locs → wp_MM_start_161 Post n x1 x2 x3 x4 x5 x8 I F → W p l e (headSpec (Cond.code y_MM_start b_MM_start 10 none :: TB) { frames := 6, cells := 0, slots := 0, locals := 144 }).room s m ([.ref (a 0), .int p1, .int p2, .int p3, .int p4, .int p5]).toArray below meth c H locs 0 0 Q (F0 m 161 ls []) := by
    intro n161
    induction n161 with
    | zero =>
      intro x1 x2 x3 x4 x5 x8 I F H locs ls hl hP hS hw
      exact False.elim hw
    | succ n161 ih161 =>
      have J217 : ∀ (x1 : Int32) (x2 : Int32) (x3 : Int32) (x4 : Int32) (x5 : Int32) (x8 : Int32) (s0 : Int32) (s1 : Int32) (I : SI) (F : SF) (H : Heap) (locs : List Loc) (ls : Array Slot), lv_has ls 10 [(0, .ref (a 0)), (1, .int x1), (2, .int x2), (3, .int x3), (4, .int x4), (5, .int x5), (8, .int x8)] → va_P D vwCl (mw a cI cZ I F) H → va_S (xA 26 a s.heap.size) s.heap H locs → wp_MM_start_217 (wp_MM_start_161 Post n161) Post x1 x2 x3 x4 x5 x8 s0 s1 I F → W p l e (headSpec (Cond.code y_MM_start b_MM_start 10 none :: TB) { frames := 6, cells := 0, slots := 0, locals := 144 }).room s m ([.ref (a 0), .int p1, .int p2, .int p3, .int p4, .int p5]).toArray below meth c H locs 0 0 Q (F0 m 217 ls [.int s0, .int s1, .ref (a 21)]) := by
        intro x1 x2 x3 x4 x5 x8 s0 s1 I F H locs ls hl hP hS hw
        dsimp only [wp_MM_start_217] at hw
        obtain ⟨h12, hw⟩ := hw
        refine va_iast hx hb hK hP (mD hJ) hS 21 0 mw_21 rfl h12 dMM_start_217 (fun H locs hP _ hS => ?_)
        have hP := mwa_21 hP
        obtain ⟨x13, e_x13⟩ : ∃ z : Int32, z = x8 + 1 := ⟨_, rfl⟩
        have hw := hw x13 e_x13
        refine lv_iinc (k := 6) (v := x13) (lv' := [(8, .int x13), (0, .ref (a 0)), (1, .int x1), (2, .int x2), (3, .int x3), (4, .int x4), (5, .int x5)]) hx hb dMM_start_218 hl rfl (e_x13 ▸ (by first | rfl | decide)) (by decide) rfl (fun ls hl => ?_)
        refine lv_goto (tgt := 161) hx hb dMM_start_221 (by decide) ?_
        exact ih161 x1 x2 x3 x4 x5 x13 I (va_up F 21 (upd (F 21) s1.toNatClampNeg s0)) H locs ls (lv_sub hl [1, 2, 3, 4, 5, 6, 0] rfl) hP hS hw
      intro x1 x2 x3 x4 x5 x8 I F H locs ls hl hP hS hw
      dsimp only [wp_MM_start_161] at hw
      refine lv_iload hx hb dMM_start_161 (lv_at hl 6 rfl) ?_
      refine lv_aload_n hx hb dMM_start_163 rfl (lv_at hl 0 rfl) ?_
      refine va_get (D := D) (v := .ref (a 2)) (ci := 8) (C := "CodeJudgeModel") (T := T_MM) (N := 37) hx hb hts in_MM hown hK hP 0 mw_0 rfl 2 (by decide) (hts (.fieldLink "CodeJudgeModel" 13 "CodeJudgeModel" "parameters" "[I") tw_4_68) (fun _ h9 => h9) rfl dMM_start_164 ?_
      refine lv_iload_n hx hb dMM_start_167 rfl (lv_at hl 1 rfl) ?_
      obtain ⟨h7, hw⟩ := hw
      refine va_iald hx hb hK hP 2 0 mw_2 rfl h7 dMM_start_168 ?_
      refine lv_icmp_ge (tgt := 224) hx hb dMM_start_169 (by decide) (fun h8 => ?_) (fun h8 => ?_)
      · have hw := hw.1 h8
        rw [hQ]
        exact W.vret hx hb hr (fun t ht hW => ⟨⟨(I, F), rfl, hw, by subst ht; exact hP⟩, hS.F ht⟩) hS.2.2 dMM_start_224
      · have hw := hw.2 h8
        refine lv_iload hx hb dMM_start_172 (lv_at hl 6 rfl) ?_
        refine lv_iload_n hx hb dMM_start_174 rfl (lv_at hl 2 rfl) ?_
        refine lv_iload_n hx hb dMM_start_175 rfl (lv_at hl 3 rfl) ?_
        refine lv_iload hx hb dMM_start_176 (lv_at hl 4 rfl) ?_
        refine lv_iload hx hb dMM_start_178 (lv_at hl 5 rfl) ?_
        obtain ⟨P9, hc9, hw⟩ := hw
        refine mc_i (va_runS (As := [.int x8, .int x2, .int x3, .int x4, .int x5]) (rest := []) ⟨hx, hb, hml, hown, hts⟩ (c_MM_of l D a cI cZ hJ I F x8 x2 x3 x4 x5 H.size P9 hc9) (va_cwS 5 hts (tb_S wc_MM_of tw_5_24 tw_5_25 tw_1_9) rfl rfl rfl (by decide +kernel) ⟨Nat.le_of_ble_eq_true rfl, Nat.le_of_ble_eq_true rfl⟩) ⟨mP_bl, mP_at hP hK⟩ rfl rfl hl.1 rfl (lv_room (Nat.le_of_ble_eq_true rfl)) dMM_start_180 ⟨Nat.le_of_ble_eq_true rfl, Nat.le_of_ble_eq_true rfl⟩) hS (fun r9 I9 F9 H locs hP hp9 hS => ?_)
        have hw := hw r9 I9 F9 hp9
        refine lv_istore (lv' := [(9, .int r9), (0, .ref (a 0)), (1, .int x1), (2, .int x2), (3, .int x3), (4, .int x4), (5, .int x5), (8, .int x8)]) hx hb dMM_start_183 hl (by decide) rfl (fun ls hl => ?_)
        refine lv_aload_n hx hb dMM_start_185 rfl (lv_at hl 1 rfl) ?_
        refine va_get (D := D) (v := .ref (a 21)) (ci := 8) (C := "CodeJudgeModel") (T := T_MM) (N := 37) hx hb hts in_MM hown hK hP 0 mw_0 rfl 26 (by decide) (hts (.fieldLink "CodeJudgeModel" 71 "CodeJudgeModel" "slots" "[I") tw_4_91) (fun _ h9 => h9) rfl dMM_start_186 ?_
        refine lv_iload hx hb dMM_start_189 (lv_at hl 7 rfl) ?_
        refine lv_aload_n hx hb dMM_start_191 rfl (lv_at hl 1 rfl) ?_
        refine va_get (D := D) (v := .ref (a 3)) (ci := 8) (C := "CodeJudgeModel") (T := T_MM) (N := 37) hx hb hts in_MM hown hK hP 0 mw_0 rfl 3 (by decide) (hts (.fieldLink "CodeJudgeModel" 17 "CodeJudgeModel" "arrays" "[I") tw_4_69) (fun _ h9 => h9) rfl dMM_start_192 ?_
        refine lv_iload_n hx hb dMM_start_195 rfl (lv_at hl 2 rfl) ?_
        obtain ⟨h10, hw⟩ := hw
        refine va_iald hx hb hK hP 3 0 mw_3 rfl h10 dMM_start_196 ?_
        refine lv_iload hx hb dMM_start_197 (lv_at hl 7 rfl) ?_
        refine lv_ishr hx hb dMM_start_199 ?_
        refine lv_iconst (v := 1) hx hb dMM_start_200 (by decide) ?_
        refine lv_iand hx hb dMM_start_201 ?_
        refine lv_iconst (v := 1) hx hb dMM_start_202 (by decide) ?_
        refine lv_icmp_ne (tgt := 215) hx hb dMM_start_203 (by decide) (fun h11 => ?_) (fun h11 => ?_)
        · have hw := hw.1 h11
          refine lv_iload hx hb dMM_start_215 (lv_at hl 0 rfl) ?_
          exact J217 x1 x2 x3 x4 x5 x8 r9 x8 I9 F9 H locs ls (lv_sub hl [1, 2, 3, 4, 5, 6, 7] rfl) hP hS hw
        · have hw := hw.2 h11
          refine lv_aload_n hx hb dMM_start_206 rfl (lv_at hl 1 rfl) ?_
          refine lv_iload hx hb dMM_start_207 (lv_at hl 0 rfl) ?_
          obtain ⟨P14, hc14, hw⟩ := hw
          refine mc_i (va_runV (As := [.int r9]) (rest := [.int x8, .ref (a 21)]) ⟨hx, hb, hml, hown, hts⟩ (c_MM_make l D a cI cZ hJ I9 F9 r9 H.size P14 hc14) (cwV 1 hts (tb_V (C := "CodeJudgeModel") wc_MM_make tw_5_35 tw_5_37 tw_0_35 tw_1_9) rfl rfl rfl (by decide +kernel) ⟨Nat.le_of_ble_eq_true rfl, Nat.le_of_ble_eq_true rfl⟩) ⟨mP_bl, va_recv hK hP rfl mw_0, mP_at hP hK⟩ rfl rfl hl.1 rfl (lv_room (Nat.le_of_ble_eq_true rfl)) dMM_start_209 ⟨Nat.le_of_ble_eq_true rfl, Nat.le_of_ble_eq_true rfl⟩) hS (fun r14 I14 F14 H locs hP hp14 hS => ?_)
          have hw := hw r14 I14 F14 hp14
          refine lv_goto (tgt := 217) hx hb dMM_start_212 (by decide) ?_
          exact J217 x1 x2 x3 x4 x5 x8 r14 x8 I14 F14 H locs ls (lv_sub hl [1, 2, 3, 4, 5, 6, 7] rfl) hP hS hw
  have J106 : ∀ (x1 : Int32) (x2 : Int32) (x3 : Int32) (x4 : Int32) (x5 : Int32) (s0 : Int32) (s1 : Int32) (s2 : Int32) (I : SI) (F : SF) (H : Heap) (locs : List Loc) (ls : Array Slot), lv_has ls 10 [(0, .ref (a 0)), (1, .int x1), (2, .int x2), (3, .int x3), (4, .int x4), (5, .int x5)] → va_P D vwCl (mw a cI cZ I F) H → va_S (xA 26 a s.heap.size) s.heap H locs → wp_MM_start_106 Post x1 x2 x3 x4 x5 s0 s1 s2 I F → W p l e (headSpec (Cond.code y_MM_start b_MM_start 10 none :: TB) { frames := 6, cells := 0, slots := 0, locals := 144 }).room s m ([.ref (a 0), .int p1, .int p2, .int p3, .int p4, .int p5]).toArray below meth c H locs 0 0 Q (F0 m 106 ls [.int s0, .int s1, .int s2, .ref (a 0)]) := by
    intro x1 x2 x3 x4 x5 s0 s1 s2 I F H locs ls hl hP hS hw
    dsimp only [wp_MM_start_106] at hw
    obtain ⟨P4, hc4, hw⟩ := hw
    refine mc_i (va_runV (As := [.int s2, .int s1, .int s0]) (rest := []) ⟨hx, hb, hml, hown, hts⟩ (c_MM_goes l D a cI cZ hJ I F s2 s1 s0 H.size P4 hc4) (cwV 3 hts (tb_V (C := "CodeJudgeModel") wc_MM_goes tw_4_188 tw_4_190 tw_0_21 tw_1_9) rfl rfl rfl (by decide +kernel) ⟨Nat.le_of_ble_eq_true rfl, Nat.le_of_ble_eq_true rfl⟩) ⟨mP_bl, va_recv hK hP rfl mw_0, mP_at hP hK⟩ rfl rfl hl.1 rfl (lv_room (Nat.le_of_ble_eq_true rfl)) dMM_start_106 ⟨Nat.le_of_ble_eq_true rfl, Nat.le_of_ble_eq_true rfl⟩) hS (fun r4 I4 F4 H locs hP hp4 hS => ?_)
    have hw := hw r4 I4 F4 hp4
    refine lv_if_ne (tgt := 113) hx hb dMM_start_109 (by decide) (fun h5 => ?_) (fun h5 => ?_)
    · have hw := hw.1 h5
      refine lv_aload_n hx hb dMM_start_113 rfl (lv_at hl 0 rfl) ?_
      refine lv_iconst (v := 1) hx hb dMM_start_114 (by decide) ?_
      refine va_put (D := D) (ci := 8) (v := .int 1) (ty := .boolean) (C := "CodeJudgeModel") (T := T_MM) (N := 37) hx hb hts in_MM ty_MM ok_MM nm_MM hown hK hP (mD hJ) hS 0 mw_0 rfl 20 (by decide) (hts (.fieldLink "CodeJudgeModel" 98 "CodeJudgeModel" "isRun" "Z") tw_4_85) (fun _ h9 => h9) rfl (by decide +kernel) rfl rfl (Nat.le_of_ble_eq_true rfl) dMM_start_115 (fun H locs hP _ hS => ?_)
      have hP := mwp_4 hP
      refine lv_aload_n hx hb dMM_start_118 rfl (lv_at hl 0 rfl) ?_
      refine lv_iconst (v := 0) hx hb dMM_start_119 (by decide) ?_
      refine va_put (D := D) (ci := 8) (v := .int 0) (ty := .int) (C := "CodeJudgeModel") (T := T_MM) (N := 37) hx hb hts in_MM ty_MM ok_MM nm_MM hown hK hP (mD hJ) hS 0 mw_0 rfl 21 (by decide) (hts (.fieldLink "CodeJudgeModel" 154 "CodeJudgeModel" "frames" "I") tw_4_86) (fun _ h9 => h9) rfl (by decide +kernel) rfl rfl (Nat.le_of_ble_eq_true rfl) dMM_start_120 (fun H locs hP _ hS => ?_)
      have hP := mwp_5 hP
      refine lv_aload_n hx hb dMM_start_123 rfl (lv_at hl 0 rfl) ?_
      refine lv_iconst (v := 0) hx hb dMM_start_124 (by decide) ?_
      refine va_put (D := D) (ci := 8) (v := .int 0) (ty := .int) (C := "CodeJudgeModel") (T := T_MM) (N := 37) hx hb hts in_MM ty_MM ok_MM nm_MM hown hK hP (mD hJ) hS 0 mw_0 rfl 27 (by decide) (hts (.fieldLink "CodeJudgeModel" 164 "CodeJudgeModel" "trouble" "I") tw_4_92) (fun _ h9 => h9) rfl (by decide +kernel) rfl rfl (Nat.le_of_ble_eq_true rfl) dMM_start_125 (fun H locs hP _ hS => ?_)
      have hP := mwp_6 hP
      refine lv_aload_n hx hb dMM_start_128 rfl (lv_at hl 0 rfl) ?_
      refine lv_iconst (v := 0) hx hb dMM_start_129 (by decide) ?_
      refine va_put (D := D) (ci := 8) (v := .int 0) (ty := .int) (C := "CodeJudgeModel") (T := T_MM) (N := 37) hx hb hts in_MM ty_MM ok_MM nm_MM hown hK hP (mD hJ) hS 0 mw_0 rfl 28 (by decide) (hts (.fieldLink "CodeJudgeModel" 167 "CodeJudgeModel" "steps" "I") tw_4_93) (fun _ h9 => h9) rfl (by decide +kernel) rfl rfl (Nat.le_of_ble_eq_true rfl) dMM_start_130 (fun H locs hP _ hS => ?_)
      have hP := mwp_7 hP
      refine lv_aload_n hx hb dMM_start_133 rfl (lv_at hl 0 rfl) ?_
      refine lv_iconst (v := 0) hx hb dMM_start_134 (by decide) ?_
      refine va_put (D := D) (ci := 8) (v := .int 0) (ty := .int) (C := "CodeJudgeModel") (T := T_MM) (N := 37) hx hb hts in_MM ty_MM ok_MM nm_MM hown hK hP (mD hJ) hS 0 mw_0 rfl 29 (by decide) (hts (.fieldLink "CodeJudgeModel" 170 "CodeJudgeModel" "answer" "I") tw_4_94) (fun _ h9 => h9) rfl (by decide +kernel) rfl rfl (Nat.le_of_ble_eq_true rfl) dMM_start_135 (fun H locs hP _ hS => ?_)
      have hP := mwp_8 hP
      refine lv_aload_n hx hb dMM_start_138 rfl (lv_at hl 0 rfl) ?_
      refine lv_iconst (v := 0) hx hb dMM_start_139 (by decide) ?_
      refine va_put (D := D) (ci := 8) (v := .int 0) (ty := .int) (C := "CodeJudgeModel") (T := T_MM) (N := 37) hx hb hts in_MM ty_MM ok_MM nm_MM hown hK hP (mD hJ) hS 0 mw_0 rfl 30 (by decide) (hts (.fieldLink "CodeJudgeModel" 148 "CodeJudgeModel" "made" "I") tw_4_95) (fun _ h9 => h9) rfl (by decide +kernel) rfl rfl (Nat.le_of_ble_eq_true rfl) dMM_start_140 (fun H locs hP _ hS => ?_)
      have hP := mwp_9 hP
      refine lv_aload_n hx hb dMM_start_143 rfl (lv_at hl 0 rfl) ?_
      refine lv_iconst (v := 0) hx hb dMM_start_144 (by decide) ?_
      refine va_put (D := D) (ci := 8) (v := .int 0) (ty := .int) (C := "CodeJudgeModel") (T := T_MM) (N := 37) hx hb hts in_MM ty_MM ok_MM nm_MM hown hK hP (mD hJ) hS 0 mw_0 rfl 31 (by decide) (hts (.fieldLink "CodeJudgeModel" 151 "CodeJudgeModel" "cells" "I") tw_4_96) (fun _ h9 => h9) rfl (by decide +kernel) rfl rfl (Nat.le_of_ble_eq_true rfl) dMM_start_145 (fun H locs hP _ hS => ?_)
      have hP := mwp_10 hP
      refine lv_aload_n hx hb dMM_start_148 rfl (lv_at hl 0 rfl) ?_
      refine lv_iconst (v := 0) hx hb dMM_start_149 (by decide) ?_
      refine va_put (D := D) (ci := 8) (v := .int 0) (ty := .int) (C := "CodeJudgeModel") (T := T_MM) (N := 37) hx hb hts in_MM ty_MM ok_MM nm_MM hown hK hP (mD hJ) hS 0 mw_0 rfl 35 (by decide) (hts (.fieldLink "CodeJudgeModel" 173 "CodeJudgeModel" "outs" "I") tw_4_100) (fun _ h9 => h9) rfl (by decide +kernel) rfl rfl (Nat.le_of_ble_eq_true rfl) dMM_start_150 (fun H locs hP _ hS => ?_)
      have hP := mwp_11 hP
      refine lv_aload_n hx hb dMM_start_153 rfl (lv_at hl 0 rfl) ?_
      refine lv_iload_n hx hb dMM_start_154 rfl (lv_at hl 1 rfl) ?_
      obtain ⟨P6, hc6, hw⟩ := hw
      refine mc_v (va_runV (As := [.int x1]) (rest := []) ⟨hx, hb, hml, hown, hts⟩ (c_MM_open l D a cI cZ hJ (va_up (va_up (va_up (va_up (va_up (va_up (va_up (va_up I4 4 1) 5 0) 6 0) 7 0) 8 0) 9 0) 10 0) 11 0) F4 x1 H.size P6 hc6) (cwV 1 hts (tb_V (C := "CodeJudgeModel") wc_MM_open tw_5_31 tw_5_33 tw_0_34 tw_1_9) rfl rfl rfl (by decide +kernel) ⟨Nat.le_of_ble_eq_true rfl, Nat.le_of_ble_eq_true rfl⟩) ⟨mP_bl, va_recv hK hP rfl mw_0, mP_at hP hK⟩ rfl rfl hl.1 rfl (lv_room (Nat.le_of_ble_eq_true rfl)) dMM_start_155 ⟨Nat.le_of_ble_eq_true rfl, Nat.le_of_ble_eq_true rfl⟩) hS (fun I6 F6 H locs hP hp6 hS => ?_)
      have hw := hw I6 F6 hp6
      refine lv_iconst (v := 0) hx hb dMM_start_158 (by decide) ?_
      refine lv_istore (lv' := [(8, .int 0), (0, .ref (a 0)), (1, .int x1), (2, .int x2), (3, .int x3), (4, .int x4), (5, .int x5)]) hx hb dMM_start_159 hl (by decide) rfl (fun ls hl => ?_)
      obtain ⟨n161, hw⟩ := hw
      exact J161 n161 x1 x2 x3 x4 x5 0 I6 F6 H locs ls (lv_sub hl [1, 2, 3, 4, 5, 6, 0] rfl) hP hS hw
    · have hw := hw.2 h5
      rw [hQ]
      exact W.vret hx hb hr (fun t ht hW => ⟨⟨(I4, F4), rfl, hw, by subst ht; exact hP⟩, hS.F ht⟩) hS.2.2 dMM_start_112
  have J105 : ∀ (x1 : Int32) (x2 : Int32) (x3 : Int32) (x4 : Int32) (x5 : Int32) (s0 : Int32) (s1 : Int32) (I : SI) (F : SF) (H : Heap) (locs : List Loc) (ls : Array Slot), lv_has ls 10 [(0, .ref (a 0)), (1, .int x1), (2, .int x2), (3, .int x3), (4, .int x4), (5, .int x5)] → va_P D vwCl (mw a cI cZ I F) H → va_S (xA 26 a s.heap.size) s.heap H locs → wp_MM_start_105 Post x1 x2 x3 x4 x5 s0 s1 I F → W p l e (headSpec (Cond.code y_MM_start b_MM_start 10 none :: TB) { frames := 6, cells := 0, slots := 0, locals := 144 }).room s m ([.ref (a 0), .int p1, .int p2, .int p3, .int p4, .int p5]).toArray below meth c H locs 0 0 Q (F0 m 105 ls [.int s0, .int s1, .ref (a 0)]) := by
    intro x1 x2 x3 x4 x5 s0 s1 I F H locs ls hl hP hS hw
    dsimp only [wp_MM_start_105] at hw
    refine lv_iconst (v := 0) hx hb dMM_start_105 (by decide) ?_
    exact J106 x1 x2 x3 x4 x5 0 s0 s1 I F H locs ls (lv_sub hl [0, 1, 2, 3, 4, 5] rfl) hP hS hw
  have J78 : ∀ (x1 : Int32) (x2 : Int32) (x3 : Int32) (x4 : Int32) (x5 : Int32) (x6 : Int32) (x7 : Int32) (I : SI) (F : SF) (H : Heap) (locs : List Loc) (ls : Array Slot), lv_has ls 10 [(0, .ref (a 0)), (1, .int x1), (2, .int x2), (3, .int x3), (4, .int x4), (5, .int x5), (6, .int x6), (7, .int x7)] → va_P D vwCl (mw a cI cZ I F) H → va_S (xA 26 a s.heap.size) s.heap H locs → wp_MM_start_78 Post x1 x2 x3 x4 x5 x6 x7 I F → W p l e (headSpec (Cond.code y_MM_start b_MM_start 10 none :: TB) { frames := 6, cells := 0, slots := 0, locals := 144 }).room s m ([.ref (a 0), .int p1, .int p2, .int p3, .int p4, .int p5]).toArray below meth c H locs 0 0 Q (F0 m 78 ls []) := by
    intro x1 x2 x3 x4 x5 x6 x7 I F H locs ls hl hP hS hw
    dsimp only [wp_MM_start_78] at hw
    refine lv_aload_n hx hb dMM_start_78 rfl (lv_at hl 0 rfl) ?_
    refine lv_iload hx hb dMM_start_79 (lv_at hl 6 rfl) ?_
    refine lv_iload hx hb dMM_start_81 (lv_at hl 7 rfl) ?_
    refine lv_iload hx hb dMM_start_83 (lv_at hl 6 rfl) ?_
    refine lv_if_eq (tgt := 105) hx hb dMM_start_85 (by decide) (fun h3 => ?_) (fun h3 => ?_)
    · have hw := hw.1 h3
      exact J105 x1 x2 x3 x4 x5 x7 x6 I F H locs ls (lv_sub hl [0, 1, 2, 3, 4, 5] rfl) hP hS hw
    · have hw := hw.2 h3
      refine lv_iload hx hb dMM_start_88 (lv_at hl 7 rfl) ?_
      refine lv_if_eq (tgt := 105) hx hb dMM_start_90 (by decide) (fun h15 => ?_) (fun h15 => ?_)
      · have hw := hw.1 h15
        exact J105 x1 x2 x3 x4 x5 x7 x6 I F H locs ls (lv_sub hl [0, 1, 2, 3, 4, 5] rfl) hP hS hw
      · have hw := hw.2 h15
        refine lv_aload_n hx hb dMM_start_93 rfl (lv_at hl 0 rfl) ?_
        refine lv_iload_n hx hb dMM_start_94 rfl (lv_at hl 1 rfl) ?_
        obtain ⟨P16, hc16, hw⟩ := hw
        refine mc_i (va_runV (As := [.int x1]) (rest := [.int x7, .int x6, .ref (a 0)]) ⟨hx, hb, hml, hown, hts⟩ (c_MM_allGood l D a cI cZ hJ I F x1 H.size P16 hc16) (cwV 1 hts (tb_V (C := "CodeJudgeModel") wc_MM_allGood tw_5_27 tw_5_29 tw_0_33 tw_1_9) rfl rfl rfl (by decide +kernel) ⟨Nat.le_of_ble_eq_true rfl, Nat.le_of_ble_eq_true rfl⟩) ⟨mP_bl, va_recv hK hP rfl mw_0, mP_at hP hK⟩ rfl rfl hl.1 rfl (lv_room (Nat.le_of_ble_eq_true rfl)) dMM_start_95 ⟨Nat.le_of_ble_eq_true rfl, Nat.le_of_ble_eq_true rfl⟩) hS (fun r16 I16 F16 H locs hP hp16 hS => ?_)
        have hw := hw r16 I16 F16 hp16
        refine lv_if_eq (tgt := 105) hx hb dMM_start_98 (by decide) (fun h17 => ?_) (fun h17 => ?_)
        · have hw := hw.1 h17
          exact J105 x1 x2 x3 x4 x5 x7 x6 I16 F16 H locs ls (lv_sub hl [0, 1, 2, 3, 4, 5] rfl) hP hS hw
        · have hw := hw.2 h17
          refine lv_iconst (v := 1) hx hb dMM_start_101 (by decide) ?_
          refine lv_goto (tgt := 106) hx hb dMM_start_102 (by decide) ?_
          exact J106 x1 x2 x3 x4 x5 1 x7 x6 I16 F16 H locs ls (lv_sub hl [0, 1, 2, 3, 4, 5] rfl) hP hS hw
  have J14 : ∀ n : Nat, ∀ (x1 : Int32) (x2 : Int32) (x3 : Int32) (x4 : Int32) (x5 : Int32) (x6 : Int32) (x7 : Int32) (x8 : Int32) (I : SI) (F : SF) (H : Heap) (locs : List Loc) (ls : Array Slot), lv_has ls 10 [(0, .ref (a 0)), (1, .int x1), (2, .int x2), (3, .int x3), (4, .int x4), (5, .int x5), (6, .int x6), (7, .int x7), (8, .int x8)] → va_P D vwCl (mw a cI cZ I F) H → va_S (xA 26 a s.heap.size) s.heap H locs → wp_MM_start_14 Post n x1 x2 x3 x4 x5 x6 x7 x8 I F → W p l e (headSpec (Cond.code y_MM_start b_MM_start 10 none :: TB) { frames := 6, cells := 0, slots := 0, locals := 144 }).room s m ([.ref (a 0), .int p1, .int p2, .int p3, .int p4, .int p5]).toArray below meth c H locs 0 0 Q (F0 m 14 ls []) := by
    intro n14
    induction n14 with
    | zero =>
      intro x1 x2 x3 x4 x5 x6 x7 x8 I F H locs ls hl hP hS hw
      exact False.elim hw
    | succ n14 ih14 =>
      have J70 : ∀ (x1 : Int32) (x2 : Int32) (x3 : Int32) (x4 : Int32) (x5 : Int32) (x6 : Int32) (x8 : Int32) (s0 : Int32) (I : SI) (F : SF) (H : Heap) (locs : List Loc) (ls : Array Slot), lv_has ls 10 [(0, .ref (a 0)), (1, .int x1), (2, .int x2), (3, .int x3), (4, .int x4), (5, .int x5), (6, .int x6), (8, .int x8)] → va_P D vwCl (mw a cI cZ I F) H → va_S (xA 26 a s.heap.size) s.heap H locs → wp_MM_start_70 (wp_MM_start_14 Post n14) Post x1 x2 x3 x4 x5 x6 x8 s0 I F → W p l e (headSpec (Cond.code y_MM_start b_MM_start 10 none :: TB) { frames := 6, cells := 0, slots := 0, locals := 144 }).room s m ([.ref (a 0), .int p1, .int p2, .int p3, .int p4, .int p5]).toArray below meth c H locs 0 0 Q (F0 m 70 ls [.int s0]) := by
        intro x1 x2 x3 x4 x5 x6 x8 s0 I F H locs ls hl hP hS hw
        dsimp only [wp_MM_start_70] at hw
        refine lv_istore (lv' := [(7, .int s0), (0, .ref (a 0)), (1, .int x1), (2, .int x2), (3, .int x3), (4, .int x4), (5, .int x5), (6, .int x6), (8, .int x8)]) hx hb dMM_start_70 hl (by decide) rfl (fun ls hl => ?_)
        obtain ⟨x20, e_x20⟩ : ∃ z : Int32, z = x8 + 1 := ⟨_, rfl⟩
        have hw := hw x20 e_x20
        refine lv_iinc (k := 8) (v := x20) (lv' := [(8, .int x20), (7, .int s0), (0, .ref (a 0)), (1, .int x1), (2, .int x2), (3, .int x3), (4, .int x4), (5, .int x5), (6, .int x6)]) hx hb dMM_start_72 hl rfl (e_x20 ▸ (by first | rfl | decide)) (by decide) rfl (fun ls hl => ?_)
        refine lv_goto (tgt := 14) hx hb dMM_start_75 (by decide) ?_
        exact ih14 x1 x2 x3 x4 x5 x6 s0 x20 I F H locs ls (lv_sub hl [2, 3, 4, 5, 6, 7, 8, 1, 0] rfl) hP hS hw
      have J69 : ∀ (x1 : Int32) (x2 : Int32) (x3 : Int32) (x4 : Int32) (x5 : Int32) (x6 : Int32) (x8 : Int32) (I : SI) (F : SF) (H : Heap) (locs : List Loc) (ls : Array Slot), lv_has ls 10 [(0, .ref (a 0)), (1, .int x1), (2, .int x2), (3, .int x3), (4, .int x4), (5, .int x5), (6, .int x6), (8, .int x8)] → va_P D vwCl (mw a cI cZ I F) H → va_S (xA 26 a s.heap.size) s.heap H locs → wp_MM_start_69 (wp_MM_start_14 Post n14) Post x1 x2 x3 x4 x5 x6 x8 I F → W p l e (headSpec (Cond.code y_MM_start b_MM_start 10 none :: TB) { frames := 6, cells := 0, slots := 0, locals := 144 }).room s m ([.ref (a 0), .int p1, .int p2, .int p3, .int p4, .int p5]).toArray below meth c H locs 0 0 Q (F0 m 69 ls []) := by
        intro x1 x2 x3 x4 x5 x6 x8 I F H locs ls hl hP hS hw
        dsimp only [wp_MM_start_69] at hw
        refine lv_iconst (v := 0) hx hb dMM_start_69 (by decide) ?_
        exact J70 x1 x2 x3 x4 x5 x6 x8 0 I F H locs ls (lv_sub hl [0, 1, 2, 3, 4, 5, 6, 7] rfl) hP hS hw
      have J65 : ∀ (x1 : Int32) (x2 : Int32) (x3 : Int32) (x4 : Int32) (x5 : Int32) (x6 : Int32) (x8 : Int32) (I : SI) (F : SF) (H : Heap) (locs : List Loc) (ls : Array Slot), lv_has ls 10 [(0, .ref (a 0)), (1, .int x1), (2, .int x2), (3, .int x3), (4, .int x4), (5, .int x5), (6, .int x6), (8, .int x8)] → va_P D vwCl (mw a cI cZ I F) H → va_S (xA 26 a s.heap.size) s.heap H locs → wp_MM_start_65 (wp_MM_start_14 Post n14) Post x1 x2 x3 x4 x5 x6 x8 I F → W p l e (headSpec (Cond.code y_MM_start b_MM_start 10 none :: TB) { frames := 6, cells := 0, slots := 0, locals := 144 }).room s m ([.ref (a 0), .int p1, .int p2, .int p3, .int p4, .int p5]).toArray below meth c H locs 0 0 Q (F0 m 65 ls []) := by
        intro x1 x2 x3 x4 x5 x6 x8 I F H locs ls hl hP hS hw
        dsimp only [wp_MM_start_65] at hw
        refine lv_iconst (v := 1) hx hb dMM_start_65 (by decide) ?_
        refine lv_goto (tgt := 70) hx hb dMM_start_66 (by decide) ?_
        exact J70 x1 x2 x3 x4 x5 x6 x8 1 I F H locs ls (lv_sub hl [0, 1, 2, 3, 4, 5, 6, 7] rfl) hP hS hw
      intro x1 x2 x3 x4 x5 x6 x7 x8 I F H locs ls hl hP hS hw
      dsimp only [wp_MM_start_14] at hw
      refine lv_iload hx hb dMM_start_14 (lv_at hl 8 rfl) ?_
      refine lv_iconst (v := 4) hx hb dMM_start_16 (by decide) ?_
      refine lv_icmp_ge (tgt := 78) hx hb dMM_start_17 (by decide) (fun h2 => ?_) (fun h2 => ?_)
      · have hw := hw.1 h2
        exact J78 x1 x2 x3 x4 x5 x6 x7 I F H locs ls (lv_sub hl [0, 1, 2, 3, 4, 5, 6, 7] rfl) hP hS hw
      · have hw := hw.2 h2
        refine lv_iload hx hb dMM_start_20 (lv_at hl 6 rfl) ?_
        refine lv_if_eq (tgt := 78) hx hb dMM_start_22 (by decide) (fun h18 => ?_) (fun h18 => ?_)
        · have hw := hw.1 h18
          exact J78 x1 x2 x3 x4 x5 x6 x7 I F H locs ls (lv_sub hl [0, 1, 2, 3, 4, 5, 6, 7] rfl) hP hS hw
        · have hw := hw.2 h18
          refine lv_iload hx hb dMM_start_25 (lv_at hl 7 rfl) ?_
          refine lv_if_eq (tgt := 69) hx hb dMM_start_27 (by decide) (fun h19 => ?_) (fun h19 => ?_)
          · have hw := hw.1 h19
            exact J69 x1 x2 x3 x4 x5 x6 x8 I F H locs ls (lv_sub hl [0, 1, 2, 3, 4, 5, 6, 8] rfl) hP hS hw
          · have hw := hw.2 h19
            refine lv_aload_n hx hb dMM_start_30 rfl (lv_at hl 0 rfl) ?_
            refine va_get (D := D) (v := .ref (a 3)) (ci := 8) (C := "CodeJudgeModel") (T := T_MM) (N := 37) hx hb hts in_MM hown hK hP 0 mw_0 rfl 3 (by decide) (hts (.fieldLink "CodeJudgeModel" 17 "CodeJudgeModel" "arrays" "[I") tw_4_69) (fun _ h9 => h9) rfl dMM_start_31 ?_
            refine lv_iload_n hx hb dMM_start_34 rfl (lv_at hl 1 rfl) ?_
            obtain ⟨h21, hw⟩ := hw
            refine va_iald hx hb hK hP 3 0 mw_3 rfl h21 dMM_start_35 ?_
            refine lv_iload hx hb dMM_start_36 (lv_at hl 8 rfl) ?_
            refine lv_ishr hx hb dMM_start_38 ?_
            refine lv_iconst (v := 1) hx hb dMM_start_39 (by decide) ?_
            refine lv_iand hx hb dMM_start_40 ?_
            refine lv_if_eq (tgt := 65) hx hb dMM_start_41 (by decide) (fun h22 => ?_) (fun h22 => ?_)
            · have hw := hw.1 h22
              exact J65 x1 x2 x3 x4 x5 x6 x8 I F H locs ls (lv_sub hl [0, 1, 2, 3, 4, 5, 6, 8] rfl) hP hS hw
            · have hw := hw.2 h22
              refine lv_iload hx hb dMM_start_44 (lv_at hl 8 rfl) ?_
              refine lv_iload_n hx hb dMM_start_46 rfl (lv_at hl 2 rfl) ?_
              refine lv_iload_n hx hb dMM_start_47 rfl (lv_at hl 3 rfl) ?_
              refine lv_iload hx hb dMM_start_48 (lv_at hl 4 rfl) ?_
              refine lv_iload hx hb dMM_start_50 (lv_at hl 5 rfl) ?_
              obtain ⟨P23, hc23, hw⟩ := hw
              refine mc_i (va_runS (As := [.int x8, .int x2, .int x3, .int x4, .int x5]) (rest := []) ⟨hx, hb, hml, hown, hts⟩ (c_MM_of l D a cI cZ hJ I F x8 x2 x3 x4 x5 H.size P23 hc23) (va_cwS 5 hts (tb_S wc_MM_of tw_5_24 tw_5_25 tw_1_9) rfl rfl rfl (by decide +kernel) ⟨Nat.le_of_ble_eq_true rfl, Nat.le_of_ble_eq_true rfl⟩) ⟨mP_bl, mP_at hP hK⟩ rfl rfl hl.1 rfl (lv_room (Nat.le_of_ble_eq_true rfl)) dMM_start_52 ⟨Nat.le_of_ble_eq_true rfl, Nat.le_of_ble_eq_true rfl⟩) hS (fun r23 I23 F23 H locs hP hp23 hS => ?_)
              have hw := hw r23 I23 F23 hp23
              refine lv_iconst (v := 0) hx hb dMM_start_55 (by decide) ?_
              refine lv_sipush (v := 400) hx hb dMM_start_56 (by decide) ?_
              obtain ⟨P24, hc24, hw⟩ := hw
              refine mc_i (va_runS (As := [.int r23, .int 0, .int 400]) (rest := []) ⟨hx, hb, hml, hown, hts⟩ (c_MM_within l D a cI cZ hJ I23 F23 r23 0 400 H.size P24 hc24) (va_cwS 3 hts (tb_S wc_MM_within tw_4_185 tw_4_186 tw_1_9) rfl rfl rfl (by decide +kernel) ⟨Nat.le_of_ble_eq_true rfl, Nat.le_of_ble_eq_true rfl⟩) ⟨mP_bl, mP_at hP hK⟩ rfl rfl hl.1 rfl (lv_room (Nat.le_of_ble_eq_true rfl)) dMM_start_59 ⟨Nat.le_of_ble_eq_true rfl, Nat.le_of_ble_eq_true rfl⟩) hS (fun r24 I24 F24 H locs hP hp24 hS => ?_)
              have hw := hw r24 I24 F24 hp24
              refine lv_if_eq (tgt := 69) hx hb dMM_start_62 (by decide) (fun h25 => ?_) (fun h25 => ?_)
              · have hw := hw.1 h25
                exact J69 x1 x2 x3 x4 x5 x6 x8 I24 F24 H locs ls (lv_sub hl [0, 1, 2, 3, 4, 5, 6, 8] rfl) hP hS hw
              · have hw := hw.2 h25
                exact J65 x1 x2 x3 x4 x5 x6 x8 I24 F24 H locs ls (lv_sub hl [0, 1, 2, 3, 4, 5, 6, 8] rfl) hP hS hw
  suffices hM : ∀ (H : Heap) (locs : List Loc), va_P D vwCl (mw a cI cZ I F) H → va_S (xA 26 a s.heap.size) s.heap H locs → W p l e (headSpec (Cond.code y_MM_start b_MM_start 10 none :: TB) { frames := 6, cells := 0, slots := 0, locals := 144 }).room s m ([.ref (a 0), .int p1, .int p2, .int p3, .int p4, .int p5]).toArray below meth c H locs 0 0 (Q) (F0 m 0 ls []) from hM s.heap [] hP va_S.rf
  clear hP
  intro H locs hP hS
  dsimp only [wp_MM_start] at hw
  refine lv_aload_n hx hb dMM_start_0 rfl (lv_at hl 0 rfl) ?_
  refine lv_iload_n hx hb dMM_start_1 rfl (lv_at hl 1 rfl) ?_
  obtain ⟨P1, hc1, hw⟩ := hw
  refine mc_i (va_runV (As := [.int p1]) (rest := []) ⟨hx, hb, hml, hown, hts⟩ (c_MM_isMethod l D a cI cZ hJ I F p1 H.size P1 hc1) (cwV 1 hts (tb_V (C := "CodeJudgeModel") wc_MM_isMethod tw_4_196 tw_4_198 tw_0_22 tw_1_9) rfl rfl rfl (by decide +kernel) ⟨Nat.le_of_ble_eq_true rfl, Nat.le_of_ble_eq_true rfl⟩) ⟨mP_bl, va_recv hK hP rfl mw_0, mP_at hP hK⟩ rfl rfl hl.1 rfl (lv_room (Nat.le_of_ble_eq_true rfl)) dMM_start_2 ⟨Nat.le_of_ble_eq_true rfl, Nat.le_of_ble_eq_true rfl⟩) hS (fun r1 I1 F1 H locs hP hp1 hS => ?_)
  have hw := hw r1 I1 F1 hp1
  refine lv_istore (lv' := [(6, .int r1), (0, .ref (a 0)), (1, .int p1), (2, .int p2), (3, .int p3), (4, .int p4), (5, .int p5)]) hx hb dMM_start_5 hl (by decide) rfl (fun ls hl => ?_)
  refine lv_iload hx hb dMM_start_7 (lv_at hl 0 rfl) ?_
  refine lv_istore (lv' := [(7, .int r1), (6, .int r1), (0, .ref (a 0)), (1, .int p1), (2, .int p2), (3, .int p3), (4, .int p4), (5, .int p5)]) hx hb dMM_start_9 hl (by decide) rfl (fun ls hl => ?_)
  refine lv_iconst (v := 0) hx hb dMM_start_11 (by decide) ?_
  refine lv_istore (lv' := [(8, .int 0), (7, .int r1), (6, .int r1), (0, .ref (a 0)), (1, .int p1), (2, .int p2), (3, .int p3), (4, .int p4), (5, .int p5)]) hx hb dMM_start_12 hl (by decide) rfl (fun ls hl => ?_)
  obtain ⟨n14, hw⟩ := hw
  exact J14 n14 p1 p2 p3 p4 p5 r1 r1 0 I1 F1 H locs ls (lv_sub hl [3, 4, 5, 6, 7, 8, 2, 1, 0] rfl) hP hS hw
