def wp_MM_state (p1 : Int32) (I : SI) (F : SF) (Post : Int32 → SI → SF → Prop) : Prop := ∃ P1 : Int32 → SI → SF → Prop, wp_MM_within p1 0 8 I F P1 ∧ ∀ r1 I1 F1, P1 r1 I1 F1 → (∃ P2 : Int32 → SI → SF → Prop, wp_MM_goes r1 (I1 4) 1 I1 F1 P2 ∧ ∀ r2 I2 F2, P2 r2 I2 F2 → ((¬ r2 = 0 → ((p1 = 0 → (((I2 6) ≤ 0 → ((¬ (I2 5) = 0 → (Post 0 I2 F2)) ∧ ((I2 5) = 0 → (Post 1 I2 F2)))) ∧ (¬ (I2 6) ≤ 0 → (Post (I2 6) I2 F2)))) ∧ (p1 = 1 → (Post (I2 7) I2 F2)) ∧ (p1 = 2 → (Post (I2 5) I2 F2)) ∧ (p1 = 3 → ((¬ (I2 5) = 0 → (vp_in ((I2 5) - 1) 50 ∧ (Post ((F2 17) ((I2 5) - 1 : Int32).toNatClampNeg) I2 F2))) ∧ ((I2 5) = 0 → (Post (-1) I2 F2)))) ∧ (p1 = 4 → ((¬ (I2 5) = 0 → (vp_in ((I2 5) - 1) 50 ∧ (Post ((F2 18) ((I2 5) - 1 : Int32).toNatClampNeg) I2 F2))) ∧ ((I2 5) = 0 → (Post (-1) I2 F2)))) ∧ (p1 = 5 → (Post (I2 8) I2 F2)) ∧ (p1 = 6 → (Post (I2 9) I2 F2)) ∧ (p1 = 7 → (Post (I2 10) I2 F2)) ∧ ((¬ p1 = 0 ∧ ¬ p1 = 1 ∧ ¬ p1 = 2 ∧ ¬ p1 = 3 ∧ ¬ p1 = 4 ∧ ¬ p1 = 5 ∧ ¬ p1 = 6 ∧ ¬ p1 = 7) → (Post (I2 11) I2 F2)))) ∧ (r2 = 0 → (Post 0 I2 F2))))
set_option maxHeartbeats 4000000 in
set_option maxRecDepth 100000 in
theorem c_MM_state (l : Launch) (D : va_G) (a : Nat → Nat) (cI cZ : ClassId) (hJ : xJ 26 a) (I : SI) (F : SF) (p1 : Int32) (sz : Nat) (Post : Int32 → SI → SF → Prop) (hw : wp_MM_state p1 I F Post) : Met l y_MM_state (Cond.code y_MM_state b_MM_state 2 (some .int) :: TB) { frames := 1, cells := 0, slots := 0, locals := 23 } (va_Pc [.ref (a 0), .int p1] (mP D a cI cZ I F sz)) (va_Qi (fun r (u : SI × SF) => Post r u.1 u.2) (fun u t => va_P D vwCl (mw a cI cZ u.1 u.2) t.heap) (xA 26 a sz)) 0 0 (xA 26 a sz) := by
  refine Met.ofW (cc := b_MM_state) (maxL := 2) (ret := (some .int)) (by decide) rfl ?_
  intro p e s m args below meth c s₁ B hml hv
  obtain ⟨rfl, rfl, hP, hK⟩ := hv
  have hx := B.exec
  have hb := B.bytes
  have hr := B.returns
  have hts : ∀ w ∈ TB, w.before _ s = true := fun w h => atoms_spec (ws := Cond.code y_MM_state b_MM_state 2 (some .int) :: TB) B.pre w (List.mem_cons_of_mem _ h)
  have hown : s.vm.findClass "CodeJudgeModel" = some m.cls := findClass_of_methodNamed B.named
  have hlocks := B.notSynchronized
  have hl := lv_entry ([.ref (a 0), .int p1]) (n := 2) (Nat.le_of_ble_eq_true rfl)
  rw [lg_entry_eq]
  generalize (lg_sl ([.ref (a 0), .int p1]) ++ List.replicate (2 - (lg_sl ([.ref (a 0), .int p1])).length) Slot.unset).toArray = ls at hl ⊢
  have hl : lv_has ls 2 [(0, .ref (a 0)), (1, .int p1)] := hl
  suffices hM : ∀ (H : Heap) (locs : List Loc), va_P D vwCl (mw a cI cZ I F) H → va_S (xA 26 a s.heap.size) s.heap H locs → W p l e (headSpec (Cond.code y_MM_state b_MM_state 2 (some .int) :: TB) { frames := 1, cells := 0, slots := 0, locals := 23 }).room s m ([.ref (a 0), .int p1]).toArray below meth c H locs 0 0 (MQ below (va_Qi (fun r (u : SI × SF) => Post r u.1 u.2) (fun u t => va_P D vwCl (mw a cI cZ u.1 u.2) t.heap) (xA 26 a s.heap.size)) ([.ref (a 0), .int p1]).toArray s 0 0 (xA 26 a s.heap.size)) (F0 m 0 ls []) from hM s.heap [] hP va_S.rf
  clear hP
  intro H locs hP hS
  dsimp only [wp_MM_state] at hw
  refine lv_aload_n hx hb dMM_state_0 rfl (lv_at hl 0 rfl) ?_
  refine lv_iload_n hx hb dMM_state_1 rfl (lv_at hl 1 rfl) ?_
  refine lv_iconst (v := 0) hx hb dMM_state_2 (by decide) ?_
  refine lv_bipush (v := 8) hx hb dMM_state_3 (by decide) ?_
  obtain ⟨P1, hc1, hw⟩ := hw
  refine mc_i (va_runS (As := [.int p1, .int 0, .int 8]) (rest := [.ref (a 0)]) ⟨hx, hb, hml, hown, hts⟩ (c_MM_within l D a cI cZ hJ I F p1 0 8 H.size P1 hc1) (va_cwS 3 hts (tb_S wc_MM_within tw_4_185 tw_4_186 tw_1_9) rfl rfl rfl (by decide +kernel) ⟨Nat.le_of_ble_eq_true rfl, Nat.le_of_ble_eq_true rfl⟩) ⟨mP_bl, mP_at hP hK⟩ rfl rfl hl.1 rfl (lv_room (Nat.le_of_ble_eq_true rfl)) dMM_state_5 ⟨Nat.le_of_ble_eq_true rfl, Nat.le_of_ble_eq_true rfl⟩) hS (fun r1 I1 F1 H locs hP hp1 hS => ?_)
  have hw := hw r1 I1 F1 hp1
  refine lv_aload_n hx hb dMM_state_8 rfl (lv_at hl 0 rfl) ?_
  refine va_get (D := D) (v := .int (I1 4)) (ci := 8) (C := "CodeJudgeModel") (T := T_MM) (N := 37) hx hb hts in_MM hown hK hP 0 mw_0 rfl 20 (by decide) (hts (.fieldLink "CodeJudgeModel" 98 "CodeJudgeModel" "isRun" "Z") tw_4_85) (fun _ h9 => h9) rfl dMM_state_9 ?_
  refine lv_iconst (v := 1) hx hb dMM_state_12 (by decide) ?_
  obtain ⟨P2, hc2, hw⟩ := hw
  refine mc_i (va_runV (As := [.int r1, .int (I1 4), .int 1]) (rest := []) ⟨hx, hb, hml, hown, hts⟩ (c_MM_goes l D a cI cZ hJ I1 F1 r1 (I1 4) 1 H.size P2 hc2) (cwV 3 hts (tb_V (C := "CodeJudgeModel") wc_MM_goes tw_4_188 tw_4_190 tw_0_21 tw_1_9) rfl rfl rfl (by decide +kernel) ⟨Nat.le_of_ble_eq_true rfl, Nat.le_of_ble_eq_true rfl⟩) ⟨mP_bl, va_recv hK hP rfl mw_0, mP_at hP hK⟩ rfl rfl hl.1 rfl (lv_room (Nat.le_of_ble_eq_true rfl)) dMM_state_13 ⟨Nat.le_of_ble_eq_true rfl, Nat.le_of_ble_eq_true rfl⟩) hS (fun r2 I2 F2 H locs hP hp2 hS => ?_)
  have hw := hw r2 I2 F2 hp2
  refine lv_if_ne (tgt := 21) hx hb dMM_state_16 (by decide) (fun h3 => ?_) (fun h3 => ?_)
  · have hw := hw.1 h3
    refine lv_iload_n hx hb dMM_state_21 rfl (lv_at hl 1 rfl) ?_
    refine sw_MM_state_22 hx hb (fun h4 => ?_) (fun h4 => ?_) (fun h4 => ?_) (fun h4 => ?_) (fun h4 => ?_) (fun h4 => ?_) (fun h4 => ?_) (fun h4 => ?_) (fun h4 => ?_)
    · have hw := hw.1 h4
      refine lv_aload_n hx hb dMM_state_68 rfl (lv_at hl 0 rfl) ?_
      refine va_get (D := D) (v := .int (I2 6)) (ci := 8) (C := "CodeJudgeModel") (T := T_MM) (N := 37) hx hb hts in_MM hown hK hP 0 mw_0 rfl 27 (by decide) (hts (.fieldLink "CodeJudgeModel" 164 "CodeJudgeModel" "trouble" "I") tw_4_92) (fun _ h9 => h9) rfl dMM_state_69 ?_
      refine lv_if_le (tgt := 82) hx hb dMM_state_72 (by decide) (fun h5 => ?_) (fun h5 => ?_)
      · have hw := hw.1 h5
        refine lv_aload_n hx hb dMM_state_82 rfl (lv_at hl 0 rfl) ?_
        refine va_get (D := D) (v := .int (I2 5)) (ci := 8) (C := "CodeJudgeModel") (T := T_MM) (N := 37) hx hb hts in_MM hown hK hP 0 mw_0 rfl 21 (by decide) (hts (.fieldLink "CodeJudgeModel" 154 "CodeJudgeModel" "frames" "I") tw_4_86) (fun _ h9 => h9) rfl dMM_state_83 ?_
        refine lv_if_ne (tgt := 93) hx hb dMM_state_86 (by decide) (fun h6 => ?_) (fun h6 => ?_)
        · have hw := hw.1 h6
          refine lv_iconst (v := 0) hx hb dMM_state_93 (by decide) ?_
          exact W.iret (v := 0) hx hb hr (fun t ht hW => ⟨⟨0, (I2, F2), rfl, hw, by subst ht; exact hP⟩, hS.F ht⟩) hS.2.2 dMM_state_94
        · have hw := hw.2 h6
          refine lv_iconst (v := 1) hx hb dMM_state_89 (by decide) ?_
          refine lv_goto (tgt := 94) hx hb dMM_state_90 (by decide) ?_
          exact W.iret (v := 1) hx hb hr (fun t ht hW => ⟨⟨1, (I2, F2), rfl, hw, by subst ht; exact hP⟩, hS.F ht⟩) hS.2.2 dMM_state_94
      · have hw := hw.2 h5
        refine lv_aload_n hx hb dMM_state_75 rfl (lv_at hl 0 rfl) ?_
        refine va_get (D := D) (v := .int (I2 6)) (ci := 8) (C := "CodeJudgeModel") (T := T_MM) (N := 37) hx hb hts in_MM hown hK hP 0 mw_0 rfl 27 (by decide) (hts (.fieldLink "CodeJudgeModel" 164 "CodeJudgeModel" "trouble" "I") tw_4_92) (fun _ h9 => h9) rfl dMM_state_76 ?_
        refine lv_goto (tgt := 94) hx hb dMM_state_79 (by decide) ?_
        exact W.iret (v := (I2 6)) hx hb hr (fun t ht hW => ⟨⟨(I2 6), (I2, F2), rfl, hw, by subst ht; exact hP⟩, hS.F ht⟩) hS.2.2 dMM_state_94
    · have hw := hw.2.1 h4
      refine lv_aload_n hx hb dMM_state_95 rfl (lv_at hl 0 rfl) ?_
      refine va_get (D := D) (v := .int (I2 7)) (ci := 8) (C := "CodeJudgeModel") (T := T_MM) (N := 37) hx hb hts in_MM hown hK hP 0 mw_0 rfl 28 (by decide) (hts (.fieldLink "CodeJudgeModel" 167 "CodeJudgeModel" "steps" "I") tw_4_93) (fun _ h9 => h9) rfl dMM_state_96 ?_
      exact W.iret (v := (I2 7)) hx hb hr (fun t ht hW => ⟨⟨(I2 7), (I2, F2), rfl, hw, by subst ht; exact hP⟩, hS.F ht⟩) hS.2.2 dMM_state_99
    · have hw := hw.2.2.1 h4
      refine lv_aload_n hx hb dMM_state_100 rfl (lv_at hl 0 rfl) ?_
      refine va_get (D := D) (v := .int (I2 5)) (ci := 8) (C := "CodeJudgeModel") (T := T_MM) (N := 37) hx hb hts in_MM hown hK hP 0 mw_0 rfl 21 (by decide) (hts (.fieldLink "CodeJudgeModel" 154 "CodeJudgeModel" "frames" "I") tw_4_86) (fun _ h9 => h9) rfl dMM_state_101 ?_
      exact W.iret (v := (I2 5)) hx hb hr (fun t ht hW => ⟨⟨(I2 5), (I2, F2), rfl, hw, by subst ht; exact hP⟩, hS.F ht⟩) hS.2.2 dMM_state_104
    · have hw := hw.2.2.2.1 h4
      refine lv_aload_n hx hb dMM_state_105 rfl (lv_at hl 0 rfl) ?_
      refine va_get (D := D) (v := .int (I2 5)) (ci := 8) (C := "CodeJudgeModel") (T := T_MM) (N := 37) hx hb hts in_MM hown hK hP 0 mw_0 rfl 21 (by decide) (hts (.fieldLink "CodeJudgeModel" 154 "CodeJudgeModel" "frames" "I") tw_4_86) (fun _ h9 => h9) rfl dMM_state_106 ?_
      refine lv_if_ne (tgt := 116) hx hb dMM_state_109 (by decide) (fun h7 => ?_) (fun h7 => ?_)
      · have hw := hw.1 h7
        refine lv_aload_n hx hb dMM_state_116 rfl (lv_at hl 0 rfl) ?_
        refine va_get (D := D) (v := .ref (a 17)) (ci := 8) (C := "CodeJudgeModel") (T := T_MM) (N := 37) hx hb hts in_MM hown hK hP 0 mw_0 rfl 22 (by decide) (hts (.fieldLink "CodeJudgeModel" 59 "CodeJudgeModel" "methods" "[I") tw_4_87) (fun _ h9 => h9) rfl dMM_state_117 ?_
        refine lv_aload_n hx hb dMM_state_120 rfl (lv_at hl 0 rfl) ?_
        refine va_get (D := D) (v := .int (I2 5)) (ci := 8) (C := "CodeJudgeModel") (T := T_MM) (N := 37) hx hb hts in_MM hown hK hP 0 mw_0 rfl 21 (by decide) (hts (.fieldLink "CodeJudgeModel" 154 "CodeJudgeModel" "frames" "I") tw_4_86) (fun _ h9 => h9) rfl dMM_state_121 ?_
        refine lv_iconst (v := 1) hx hb dMM_state_124 (by decide) ?_
        refine lv_isub hx hb dMM_state_125 ?_
        obtain ⟨h8, hw⟩ := hw
        refine va_iald hx hb hK hP 17 0 mw_17 rfl h8 dMM_state_126 ?_
        exact W.iret (v := ((F2 17) ((I2 5) - 1 : Int32).toNatClampNeg)) hx hb hr (fun t ht hW => ⟨⟨((F2 17) ((I2 5) - 1 : Int32).toNatClampNeg), (I2, F2), rfl, hw, by subst ht; exact hP⟩, hS.F ht⟩) hS.2.2 dMM_state_127
      · have hw := hw.2 h7
        refine lv_iconst (v := (-1)) hx hb dMM_state_112 (by decide) ?_
        refine lv_goto (tgt := 127) hx hb dMM_state_113 (by decide) ?_
        exact W.iret (v := (-1)) hx hb hr (fun t ht hW => ⟨⟨(-1), (I2, F2), rfl, hw, by subst ht; exact hP⟩, hS.F ht⟩) hS.2.2 dMM_state_127
    · have hw := hw.2.2.2.2.1 h4
      refine lv_aload_n hx hb dMM_state_128 rfl (lv_at hl 0 rfl) ?_
      refine va_get (D := D) (v := .int (I2 5)) (ci := 8) (C := "CodeJudgeModel") (T := T_MM) (N := 37) hx hb hts in_MM hown hK hP 0 mw_0 rfl 21 (by decide) (hts (.fieldLink "CodeJudgeModel" 154 "CodeJudgeModel" "frames" "I") tw_4_86) (fun _ h9 => h9) rfl dMM_state_129 ?_
      refine lv_if_ne (tgt := 139) hx hb dMM_state_132 (by decide) (fun h9 => ?_) (fun h9 => ?_)
      · have hw := hw.1 h9
        refine lv_aload_n hx hb dMM_state_139 rfl (lv_at hl 0 rfl) ?_
        refine va_get (D := D) (v := .ref (a 18)) (ci := 8) (C := "CodeJudgeModel") (T := T_MM) (N := 37) hx hb hts in_MM hown hK hP 0 mw_0 rfl 23 (by decide) (hts (.fieldLink "CodeJudgeModel" 62 "CodeJudgeModel" "places" "[I") tw_4_88) (fun _ h9 => h9) rfl dMM_state_140 ?_
        refine lv_aload_n hx hb dMM_state_143 rfl (lv_at hl 0 rfl) ?_
        refine va_get (D := D) (v := .int (I2 5)) (ci := 8) (C := "CodeJudgeModel") (T := T_MM) (N := 37) hx hb hts in_MM hown hK hP 0 mw_0 rfl 21 (by decide) (hts (.fieldLink "CodeJudgeModel" 154 "CodeJudgeModel" "frames" "I") tw_4_86) (fun _ h9 => h9) rfl dMM_state_144 ?_
        refine lv_iconst (v := 1) hx hb dMM_state_147 (by decide) ?_
        refine lv_isub hx hb dMM_state_148 ?_
        obtain ⟨h10, hw⟩ := hw
        refine va_iald hx hb hK hP 18 0 mw_18 rfl h10 dMM_state_149 ?_
        exact W.iret (v := ((F2 18) ((I2 5) - 1 : Int32).toNatClampNeg)) hx hb hr (fun t ht hW => ⟨⟨((F2 18) ((I2 5) - 1 : Int32).toNatClampNeg), (I2, F2), rfl, hw, by subst ht; exact hP⟩, hS.F ht⟩) hS.2.2 dMM_state_150
      · have hw := hw.2 h9
        refine lv_iconst (v := (-1)) hx hb dMM_state_135 (by decide) ?_
        refine lv_goto (tgt := 150) hx hb dMM_state_136 (by decide) ?_
        exact W.iret (v := (-1)) hx hb hr (fun t ht hW => ⟨⟨(-1), (I2, F2), rfl, hw, by subst ht; exact hP⟩, hS.F ht⟩) hS.2.2 dMM_state_150
    · have hw := hw.2.2.2.2.2.1 h4
      refine lv_aload_n hx hb dMM_state_151 rfl (lv_at hl 0 rfl) ?_
      refine va_get (D := D) (v := .int (I2 8)) (ci := 8) (C := "CodeJudgeModel") (T := T_MM) (N := 37) hx hb hts in_MM hown hK hP 0 mw_0 rfl 29 (by decide) (hts (.fieldLink "CodeJudgeModel" 170 "CodeJudgeModel" "answer" "I") tw_4_94) (fun _ h9 => h9) rfl dMM_state_152 ?_
      exact W.iret (v := (I2 8)) hx hb hr (fun t ht hW => ⟨⟨(I2 8), (I2, F2), rfl, hw, by subst ht; exact hP⟩, hS.F ht⟩) hS.2.2 dMM_state_155
    · have hw := hw.2.2.2.2.2.2.1 h4
      refine lv_aload_n hx hb dMM_state_156 rfl (lv_at hl 0 rfl) ?_
      refine va_get (D := D) (v := .int (I2 9)) (ci := 8) (C := "CodeJudgeModel") (T := T_MM) (N := 37) hx hb hts in_MM hown hK hP 0 mw_0 rfl 30 (by decide) (hts (.fieldLink "CodeJudgeModel" 148 "CodeJudgeModel" "made" "I") tw_4_95) (fun _ h9 => h9) rfl dMM_state_157 ?_
      exact W.iret (v := (I2 9)) hx hb hr (fun t ht hW => ⟨⟨(I2 9), (I2, F2), rfl, hw, by subst ht; exact hP⟩, hS.F ht⟩) hS.2.2 dMM_state_160
    · have hw := hw.2.2.2.2.2.2.2.1 h4
      refine lv_aload_n hx hb dMM_state_161 rfl (lv_at hl 0 rfl) ?_
      refine va_get (D := D) (v := .int (I2 10)) (ci := 8) (C := "CodeJudgeModel") (T := T_MM) (N := 37) hx hb hts in_MM hown hK hP 0 mw_0 rfl 31 (by decide) (hts (.fieldLink "CodeJudgeModel" 151 "CodeJudgeModel" "cells" "I") tw_4_96) (fun _ h9 => h9) rfl dMM_state_162 ?_
      exact W.iret (v := (I2 10)) hx hb hr (fun t ht hW => ⟨⟨(I2 10), (I2, F2), rfl, hw, by subst ht; exact hP⟩, hS.F ht⟩) hS.2.2 dMM_state_165
    · have hw := hw.2.2.2.2.2.2.2.2 h4
      refine lv_aload_n hx hb dMM_state_166 rfl (lv_at hl 0 rfl) ?_
      refine va_get (D := D) (v := .int (I2 11)) (ci := 8) (C := "CodeJudgeModel") (T := T_MM) (N := 37) hx hb hts in_MM hown hK hP 0 mw_0 rfl 35 (by decide) (hts (.fieldLink "CodeJudgeModel" 173 "CodeJudgeModel" "outs" "I") tw_4_100) (fun _ h9 => h9) rfl dMM_state_167 ?_
      exact W.iret (v := (I2 11)) hx hb hr (fun t ht hW => ⟨⟨(I2 11), (I2, F2), rfl, hw, by subst ht; exact hP⟩, hS.F ht⟩) hS.2.2 dMM_state_170
  · have hw := hw.2 h3
    refine lv_iconst (v := 0) hx hb dMM_state_19 (by decide) ?_
    exact W.iret (v := 0) hx hb hr (fun t ht hW => ⟨⟨0, (I2, F2), rfl, hw, by subst ht; exact hP⟩, hS.F ht⟩) hS.2.2 dMM_state_20
def wp_MM_thrown (I : SI) (F : SF) (Post : Int32 → SI → SF → Prop) : Prop := Post (I 0) I F
set_option maxHeartbeats 4000000 in
set_option maxRecDepth 100000 in
theorem c_MM_thrown (l : Launch) (D : va_G) (a : Nat → Nat) (cI cZ : ClassId) (hJ : xJ 26 a) (I : SI) (F : SF) (sz : Nat) (Post : Int32 → SI → SF → Prop) (hw : wp_MM_thrown I F Post) : Met l y_MM_thrown (Cond.code y_MM_thrown b_MM_thrown 1 (some .int) :: TB) { frames := 0, cells := 0, slots := 0, locals := 0 } (va_Pc [.ref (a 0)] (mP D a cI cZ I F sz)) (va_Qi (fun r (u : SI × SF) => Post r u.1 u.2) (fun u t => va_P D vwCl (mw a cI cZ u.1 u.2) t.heap) (xA 26 a sz)) 0 0 (xA 26 a sz) := by
  refine Met.ofW (cc := b_MM_thrown) (maxL := 1) (ret := (some .int)) (by decide) rfl ?_
  intro p e s m args below meth c s₁ B hml hv
  obtain ⟨rfl, rfl, hP, hK⟩ := hv
  have hx := B.exec
  have hb := B.bytes
  have hr := B.returns
  have hts : ∀ w ∈ TB, w.before _ s = true := fun w h => atoms_spec (ws := Cond.code y_MM_thrown b_MM_thrown 1 (some .int) :: TB) B.pre w (List.mem_cons_of_mem _ h)
  have hown : s.vm.findClass "CodeJudgeModel" = some m.cls := findClass_of_methodNamed B.named
  have hlocks := B.notSynchronized
  have hl := lv_entry ([.ref (a 0)]) (n := 1) (Nat.le_of_ble_eq_true rfl)
  rw [lg_entry_eq]
  generalize (lg_sl ([.ref (a 0)]) ++ List.replicate (1 - (lg_sl ([.ref (a 0)])).length) Slot.unset).toArray = ls at hl ⊢
  have hl : lv_has ls 1 [(0, .ref (a 0))] := hl
  suffices hM : ∀ (H : Heap) (locs : List Loc), va_P D vwCl (mw a cI cZ I F) H → va_S (xA 26 a s.heap.size) s.heap H locs → W p l e (headSpec (Cond.code y_MM_thrown b_MM_thrown 1 (some .int) :: TB) { frames := 0, cells := 0, slots := 0, locals := 0 }).room s m ([.ref (a 0)]).toArray below meth c H locs 0 0 (MQ below (va_Qi (fun r (u : SI × SF) => Post r u.1 u.2) (fun u t => va_P D vwCl (mw a cI cZ u.1 u.2) t.heap) (xA 26 a s.heap.size)) ([.ref (a 0)]).toArray s 0 0 (xA 26 a s.heap.size)) (F0 m 0 ls []) from hM s.heap [] hP va_S.rf
  clear hP
  intro H locs hP hS
  dsimp only [wp_MM_thrown] at hw
  refine lv_aload_n hx hb dMM_thrown_0 rfl (lv_at hl 0 rfl) ?_
  refine va_get (D := D) (v := .int (I 0)) (ci := 8) (C := "CodeJudgeModel") (T := T_MM) (N := 37) hx hb hts in_MM hown hK hP 0 mw_0 rfl 0 (by decide) (hts (.fieldLink "CodeJudgeModel" 86 "CodeJudgeModel" "thrown" "I") tw_4_66) (fun _ h9 => h9) rfl dMM_thrown_1 ?_
  exact W.iret (v := (I 0)) hx hb hr (fun t ht hW => ⟨⟨(I 0), (I, F), rfl, hw, by subst ht; exact hP⟩, hS.F ht⟩) hS.2.2 dMM_thrown_4
def wp_MM_type_98 (Post : Int32 → SI → SF → Prop) (x2 : Int32) (x3 : Int32) (x4 : Int32) (I : SI) (F : SF) : Prop := (¬ x3 = 0 → (vp_in (((10 : Int32) * x2) + x4) 1200 ∧ (Post ((F 12) (((10 : Int32) * x2) + x4 : Int32).toNatClampNeg) I F))) ∧ (x3 = 0 → (vp_in (((16 : Int32) * x2) + x4) 1920 ∧ (Post ((F 11) (((16 : Int32) * x2) + x4 : Int32).toNatClampNeg) I F)))
def wp_MM_type_62 (Post : Int32 → SI → SF → Prop) (x2 : Int32) (x3 : Int32) (x4 : Int32) (s0 : Int32) (s1 : Int32) (I : SI) (F : SF) : Prop := ∃ P4 : Int32 → SI → SF → Prop, wp_MM_goes s1 s0 1 I F P4 ∧ ∀ r4 I4 F4, P4 r4 I4 F4 → ((¬ r4 = 0 → (vp_in x2 120 ∧ ((((F4 10) x2.toNatClampNeg) = (-1) → (Post (-1) I4 F4)) ∧ (¬ ((F4 10) x2.toNatClampNeg) = (-1) → ((¬ x3 = 0 → (wp_MM_type_98 Post x2 x3 x4 I4 F4)) ∧ (x3 = 0 → (vp_in x2 120 ∧ ((x4 < ((F4 10) x2.toNatClampNeg) → (wp_MM_type_98 Post x2 x3 x4 I4 F4)) ∧ (¬ x4 < ((F4 10) x2.toNatClampNeg) → (Post (-1) I4 F4)))))))))) ∧ (r4 = 0 → (Post 0 I4 F4)))
def wp_MM_type_61 (Post : Int32 → SI → SF → Prop) (x2 : Int32) (x3 : Int32) (x4 : Int32) (s0 : Int32) (I : SI) (F : SF) : Prop := wp_MM_type_62 Post x2 x3 x4 0 s0 I F
def wp_MM_type_39 (Post : Int32 → SI → SF → Prop) (x1 : Int32) (x2 : Int32) (x3 : Int32) (x4 : Int32) (s0 : Int32) (I : SI) (F : SF) : Prop := (s0 = 0 → (wp_MM_type_61 Post x2 x3 x4 s0 I F)) ∧ (¬ s0 = 0 → (∃ P14 : Int32 → SI → SF → Prop, wp_MM_judge x1 I F P14 ∧ ∀ r14 I14 F14, P14 r14 I14 F14 → ((r14 = 0 → (wp_MM_type_61 Post x2 x3 x4 s0 I14 F14)) ∧ (¬ r14 = 0 → (wp_MM_type_62 Post x2 x3 x4 1 s0 I14 F14)))))
def wp_MM_type_38 (Post : Int32 → SI → SF → Prop) (x1 : Int32) (x2 : Int32) (x3 : Int32) (x4 : Int32) (I : SI) (F : SF) : Prop := wp_MM_type_39 Post x1 x2 x3 x4 0 I F
def wp_MM_type_34 (Post : Int32 → SI → SF → Prop) (x1 : Int32) (x2 : Int32) (x3 : Int32) (x4 : Int32) (I : SI) (F : SF) : Prop := wp_MM_type_39 Post x1 x2 x3 x4 1 I F
def wp_MM_type (p1 : Int32) (p2 : Int32) (p3 : Int32) (p4 : Int32) (I : SI) (F : SF) (Post : Int32 → SI → SF → Prop) : Prop := ∃ P1 : Int32 → SI → SF → Prop, wp_MM_isPlace p1 p2 I F P1 ∧ ∀ r1 I1 F1, P1 r1 I1 F1 → ((r1 = 0 → (wp_MM_type_38 Post p1 p2 p3 p4 I1 F1)) ∧ (¬ r1 = 0 → ((p4 < 0 → (wp_MM_type_38 Post p1 p2 p3 p4 I1 F1)) ∧ (¬ p4 < 0 → ((p3 = 0 → (wp_MM_type_34 Post p1 p2 p3 p4 I1 F1)) ∧ (¬ p3 = 0 → ((¬ p3 = 1 → (wp_MM_type_38 Post p1 p2 p3 p4 I1 F1)) ∧ (p3 = 1 → (vp_in p1 8 ∧ ((((F1 5) p1.toNatClampNeg) ≤ p4 → (wp_MM_type_38 Post p1 p2 p3 p4 I1 F1)) ∧ (¬ ((F1 5) p1.toNatClampNeg) ≤ p4 → (wp_MM_type_34 Post p1 p2 p3 p4 I1 F1))))))))))))
set_option maxHeartbeats 4000000 in
set_option maxRecDepth 100000 in
theorem c_MM_type (l : Launch) (D : va_G) (a : Nat → Nat) (cI cZ : ClassId) (hJ : xJ 26 a) (I : SI) (F : SF) (p1 : Int32) (p2 : Int32) (p3 : Int32) (p4 : Int32) (sz : Nat) (Post : Int32 → SI → SF → Prop) (hw : wp_MM_type p1 p2 p3 p4 I F Post) : Met l y_MM_type (Cond.code y_MM_type b_MM_type 6 (some .int) :: TB) { frames := 5, cells := 0, slots := 0, locals := 119 } (va_Pc [.ref (a 0), .int p1, .int p2, .int p3, .int p4] (mP D a cI cZ I F sz)) (va_Qi (fun r (u : SI × SF) => Post r u.1 u.2) (fun u t => va_P D vwCl (mw a cI cZ u.1 u.2) t.heap) (xA 26 a sz)) 0 0 (xA 26 a sz) := by
  refine Met.ofW (cc := b_MM_type) (maxL := 6) (ret := (some .int)) (by decide) rfl ?_
  intro p e s m args below meth c s₁ B hml hv
  obtain ⟨rfl, rfl, hP, hK⟩ := hv
  have hx := B.exec
  have hb := B.bytes
  have hr := B.returns
  have hts : ∀ w ∈ TB, w.before _ s = true := fun w h => atoms_spec (ws := Cond.code y_MM_type b_MM_type 6 (some .int) :: TB) B.pre w (List.mem_cons_of_mem _ h)
  have hown : s.vm.findClass "CodeJudgeModel" = some m.cls := findClass_of_methodNamed B.named
  have hlocks := B.notSynchronized
  have hl := lv_entry ([.ref (a 0), .int p1, .int p2, .int p3, .int p4]) (n := 6) (Nat.le_of_ble_eq_true rfl)
  rw [lg_entry_eq]
  generalize (lg_sl ([.ref (a 0), .int p1, .int p2, .int p3, .int p4]) ++ List.replicate (6 - (lg_sl ([.ref (a 0), .int p1, .int p2, .int p3, .int p4])).length) Slot.unset).toArray = ls at hl ⊢
  have hl : lv_has ls 6 [(0, .ref (a 0)), (1, .int p1), (2, .int p2), (3, .int p3), (4, .int p4)] := hl
  obtain ⟨Q, hQ⟩ : ∃ Q, Q = MQ below (va_Qi (fun r (u : SI × SF) => Post r u.1 u.2) (fun u t => va_P D vwCl (mw a cI cZ u.1 u.2) t.heap) (xA 26 a s.heap.size)) ([.ref (a 0), .int p1, .int p2, .int p3, .int p4]).toArray s 0 0 (xA 26 a s.heap.size) := ⟨_, rfl⟩
  rw [← hQ]
  have J98 : ∀ (x2 : Int32) (x3 : Int32) (x4 : Int32) (I : SI) (F : SF) (H : Heap) (locs : List Loc) (ls : Array Slot), lv_has ls 6 [(0, .ref (a 0)), (2, .int x2), (3, .int x3), (4, .int x4)] → va_P D vwCl (mw a cI cZ I F) H → va_S (xA 26 a s.heap.size) s.heap H locs → wp_MM_type_98 Post x2 x3 x4 I F → W p l e (headSpec (Cond.code y_MM_type b_MM_type 6 (some .int) :: TB) { frames := 5, cells := 0, slots := 0, locals := 119 }).room s m ([.ref (a 0), .int p1, .int p2, .int p3, .int p4]).toArray below meth c H locs 0 0 Q (F0 m 98 ls []) := by
    intro x2 x3 x4 I F H locs ls hl hP hS hw
    dsimp only [wp_MM_type_98] at hw
    refine lv_iload_n hx hb dMM_type_98 rfl (lv_at hl 2 rfl) ?_
    refine lv_if_ne (tgt := 117) hx hb dMM_type_99 (by decide) (fun h9 => ?_) (fun h9 => ?_)
    · have hw := hw.1 h9
      refine lv_aload_n hx hb dMM_type_117 rfl (lv_at hl 0 rfl) ?_
      refine va_get (D := D) (v := .ref (a 12)) (ci := 8) (C := "CodeJudgeModel") (T := T_MM) (N := 37) hx hb hts in_MM hown hK hP 0 mw_0 rfl 13 (by decide) (hts (.fieldLink "CodeJudgeModel" 44 "CodeJudgeModel" "types" "[I") tw_4_78) (fun _ h9 => h9) rfl dMM_type_118 ?_
      refine lv_bipush (v := 10) hx hb dMM_type_121 (by decide) ?_
      refine lv_iload_n hx hb dMM_type_123 rfl (lv_at hl 1 rfl) ?_
      refine lv_imul hx hb dMM_type_124 ?_
      refine lv_iload hx hb dMM_type_125 (lv_at hl 3 rfl) ?_
      refine lv_iadd hx hb dMM_type_127 ?_
      obtain ⟨h10, hw⟩ := hw
      refine va_iald hx hb hK hP 12 0 mw_12 rfl h10 dMM_type_128 ?_
      rw [hQ]
      exact W.iret (v := ((F 12) (((10 : Int32) * x2) + x4 : Int32).toNatClampNeg)) hx hb hr (fun t ht hW => ⟨⟨((F 12) (((10 : Int32) * x2) + x4 : Int32).toNatClampNeg), (I, F), rfl, hw, by subst ht; exact hP⟩, hS.F ht⟩) hS.2.2 dMM_type_129
    · have hw := hw.2 h9
      refine lv_aload_n hx hb dMM_type_102 rfl (lv_at hl 0 rfl) ?_
      refine va_get (D := D) (v := .ref (a 11)) (ci := 8) (C := "CodeJudgeModel") (T := T_MM) (N := 37) hx hb hts in_MM hown hK hP 0 mw_0 rfl 12 (by decide) (hts (.fieldLink "CodeJudgeModel" 41 "CodeJudgeModel" "stacks" "[I") tw_4_77) (fun _ h9 => h9) rfl dMM_type_103 ?_
      refine lv_bipush (v := 16) hx hb dMM_type_106 (by decide) ?_
      refine lv_iload_n hx hb dMM_type_108 rfl (lv_at hl 1 rfl) ?_
      refine lv_imul hx hb dMM_type_109 ?_
      refine lv_iload hx hb dMM_type_110 (lv_at hl 3 rfl) ?_
      refine lv_iadd hx hb dMM_type_112 ?_
      obtain ⟨h11, hw⟩ := hw
      refine va_iald hx hb hK hP 11 0 mw_11 rfl h11 dMM_type_113 ?_
      refine lv_goto (tgt := 129) hx hb dMM_type_114 (by decide) ?_
      rw [hQ]
      exact W.iret (v := ((F 11) (((16 : Int32) * x2) + x4 : Int32).toNatClampNeg)) hx hb hr (fun t ht hW => ⟨⟨((F 11) (((16 : Int32) * x2) + x4 : Int32).toNatClampNeg), (I, F), rfl, hw, by subst ht; exact hP⟩, hS.F ht⟩) hS.2.2 dMM_type_129
  have J62 : ∀ (x2 : Int32) (x3 : Int32) (x4 : Int32) (s0 : Int32) (s1 : Int32) (I : SI) (F : SF) (H : Heap) (locs : List Loc) (ls : Array Slot), lv_has ls 6 [(0, .ref (a 0)), (2, .int x2), (3, .int x3), (4, .int x4)] → va_P D vwCl (mw a cI cZ I F) H → va_S (xA 26 a s.heap.size) s.heap H locs → wp_MM_type_62 Post x2 x3 x4 s0 s1 I F → W p l e (headSpec (Cond.code y_MM_type b_MM_type 6 (some .int) :: TB) { frames := 5, cells := 0, slots := 0, locals := 119 }).room s m ([.ref (a 0), .int p1, .int p2, .int p3, .int p4]).toArray below meth c H locs 0 0 Q (F0 m 62 ls [.int s0, .int s1, .ref (a 0)]) := by
    intro x2 x3 x4 s0 s1 I F H locs ls hl hP hS hw
    dsimp only [wp_MM_type_62] at hw
    refine lv_iconst (v := 1) hx hb dMM_type_62 (by decide) ?_
    obtain ⟨P4, hc4, hw⟩ := hw
    refine mc_i (va_runV (As := [.int s1, .int s0, .int 1]) (rest := []) ⟨hx, hb, hml, hown, hts⟩ (c_MM_goes l D a cI cZ hJ I F s1 s0 1 H.size P4 hc4) (cwV 3 hts (tb_V (C := "CodeJudgeModel") wc_MM_goes tw_4_188 tw_4_190 tw_0_21 tw_1_9) rfl rfl rfl (by decide +kernel) ⟨Nat.le_of_ble_eq_true rfl, Nat.le_of_ble_eq_true rfl⟩) ⟨mP_bl, va_recv hK hP rfl mw_0, mP_at hP hK⟩ rfl rfl hl.1 rfl (lv_room (Nat.le_of_ble_eq_true rfl)) dMM_type_63 ⟨Nat.le_of_ble_eq_true rfl, Nat.le_of_ble_eq_true rfl⟩) hS (fun r4 I4 F4 H locs hP hp4 hS => ?_)
    have hw := hw r4 I4 F4 hp4
    refine lv_if_ne (tgt := 71) hx hb dMM_type_66 (by decide) (fun h5 => ?_) (fun h5 => ?_)
    · have hw := hw.1 h5
      refine lv_aload_n hx hb dMM_type_71 rfl (lv_at hl 0 rfl) ?_
      refine va_get (D := D) (v := .ref (a 10)) (ci := 8) (C := "CodeJudgeModel") (T := T_MM) (N := 37) hx hb hts in_MM hown hK hP 0 mw_0 rfl 11 (by decide) (hts (.fieldLink "CodeJudgeModel" 38 "CodeJudgeModel" "heights" "[I") tw_4_76) (fun _ h9 => h9) rfl dMM_type_72 ?_
      refine lv_iload_n hx hb dMM_type_75 rfl (lv_at hl 1 rfl) ?_
      obtain ⟨h6, hw⟩ := hw
      refine va_iald hx hb hK hP 10 0 mw_10 rfl h6 dMM_type_76 ?_
      refine lv_iconst (v := (-1)) hx hb dMM_type_77 (by decide) ?_
      refine lv_icmp_eq (tgt := 96) hx hb dMM_type_78 (by decide) (fun h7 => ?_) (fun h7 => ?_)
      · have hw := hw.1 h7
        refine lv_iconst (v := (-1)) hx hb dMM_type_96 (by decide) ?_
        rw [hQ]
        exact W.iret (v := (-1)) hx hb hr (fun t ht hW => ⟨⟨(-1), (I4, F4), rfl, hw, by subst ht; exact hP⟩, hS.F ht⟩) hS.2.2 dMM_type_97
      · have hw := hw.2 h7
        refine lv_iload_n hx hb dMM_type_81 rfl (lv_at hl 2 rfl) ?_
        refine lv_if_ne (tgt := 98) hx hb dMM_type_82 (by decide) (fun h8 => ?_) (fun h8 => ?_)
        · have hw := hw.1 h8
          exact J98 x2 x3 x4 I4 F4 H locs ls (lv_sub hl [0, 1, 2, 3] rfl) hP hS hw
        · have hw := hw.2 h8
          refine lv_iload hx hb dMM_type_85 (lv_at hl 3 rfl) ?_
          refine lv_aload_n hx hb dMM_type_87 rfl (lv_at hl 0 rfl) ?_
          refine va_get (D := D) (v := .ref (a 10)) (ci := 8) (C := "CodeJudgeModel") (T := T_MM) (N := 37) hx hb hts in_MM hown hK hP 0 mw_0 rfl 11 (by decide) (hts (.fieldLink "CodeJudgeModel" 38 "CodeJudgeModel" "heights" "[I") tw_4_76) (fun _ h9 => h9) rfl dMM_type_88 ?_
          refine lv_iload_n hx hb dMM_type_91 rfl (lv_at hl 1 rfl) ?_
          obtain ⟨h12, hw⟩ := hw
          refine va_iald hx hb hK hP 10 0 mw_10 rfl h12 dMM_type_92 ?_
          refine lv_icmp_lt (tgt := 98) hx hb dMM_type_93 (by decide) (fun h13 => ?_) (fun h13 => ?_)
          · have hw := hw.1 h13
            exact J98 x2 x3 x4 I4 F4 H locs ls (lv_sub hl [0, 1, 2, 3] rfl) hP hS hw
          · have hw := hw.2 h13
            refine lv_iconst (v := (-1)) hx hb dMM_type_96 (by decide) ?_
            rw [hQ]
            exact W.iret (v := (-1)) hx hb hr (fun t ht hW => ⟨⟨(-1), (I4, F4), rfl, hw, by subst ht; exact hP⟩, hS.F ht⟩) hS.2.2 dMM_type_97
    · have hw := hw.2 h5
      refine lv_iconst (v := 0) hx hb dMM_type_69 (by decide) ?_
      rw [hQ]
      exact W.iret (v := 0) hx hb hr (fun t ht hW => ⟨⟨0, (I4, F4), rfl, hw, by subst ht; exact hP⟩, hS.F ht⟩) hS.2.2 dMM_type_70
  have J61 : ∀ (x2 : Int32) (x3 : Int32) (x4 : Int32) (s0 : Int32) (I : SI) (F : SF) (H : Heap) (locs : List Loc) (ls : Array Slot), lv_has ls 6 [(0, .ref (a 0)), (2, .int x2), (3, .int x3), (4, .int x4)] → va_P D vwCl (mw a cI cZ I F) H → va_S (xA 26 a s.heap.size) s.heap H locs → wp_MM_type_61 Post x2 x3 x4 s0 I F → W p l e (headSpec (Cond.code y_MM_type b_MM_type 6 (some .int) :: TB) { frames := 5, cells := 0, slots := 0, locals := 119 }).room s m ([.ref (a 0), .int p1, .int p2, .int p3, .int p4]).toArray below meth c H locs 0 0 Q (F0 m 61 ls [.int s0, .ref (a 0)]) := by
    intro x2 x3 x4 s0 I F H locs ls hl hP hS hw
    dsimp only [wp_MM_type_61] at hw
    refine lv_iconst (v := 0) hx hb dMM_type_61 (by decide) ?_
    exact J62 x2 x3 x4 0 s0 I F H locs ls (lv_sub hl [0, 1, 2, 3] rfl) hP hS hw
  have J39 : ∀ (x1 : Int32) (x2 : Int32) (x3 : Int32) (x4 : Int32) (s0 : Int32) (I : SI) (F : SF) (H : Heap) (locs : List Loc) (ls : Array Slot), lv_has ls 6 [(0, .ref (a 0)), (1, .int x1), (2, .int x2), (3, .int x3), (4, .int x4)] → va_P D vwCl (mw a cI cZ I F) H → va_S (xA 26 a s.heap.size) s.heap H locs → wp_MM_type_39 Post x1 x2 x3 x4 s0 I F → W p l e (headSpec (Cond.code y_MM_type b_MM_type 6 (some .int) :: TB) { frames := 5, cells := 0, slots := 0, locals := 119 }).room s m ([.ref (a 0), .int p1, .int p2, .int p3, .int p4]).toArray below meth c H locs 0 0 Q (F0 m 39 ls [.int s0]) := by
    intro x1 x2 x3 x4 s0 I F H locs ls hl hP hS hw
    dsimp only [wp_MM_type_39] at hw
    refine lv_istore (lv' := [(5, .int s0), (0, .ref (a 0)), (1, .int x1), (2, .int x2), (3, .int x3), (4, .int x4)]) hx hb dMM_type_39 hl (by decide) rfl (fun ls hl => ?_)
    refine lv_aload_n hx hb dMM_type_41 rfl (lv_at hl 1 rfl) ?_
    refine lv_iload hx hb dMM_type_42 (lv_at hl 0 rfl) ?_
    refine lv_iload hx hb dMM_type_44 (lv_at hl 0 rfl) ?_
    refine lv_if_eq (tgt := 61) hx hb dMM_type_46 (by decide) (fun h3 => ?_) (fun h3 => ?_)
    · have hw := hw.1 h3
      exact J61 x2 x3 x4 s0 I F H locs ls (lv_sub hl [1, 3, 4, 5] rfl) hP hS hw
    · have hw := hw.2 h3
      refine lv_aload_n hx hb dMM_type_49 rfl (lv_at hl 1 rfl) ?_
      refine lv_iload_n hx hb dMM_type_50 rfl (lv_at hl 2 rfl) ?_
      obtain ⟨P14, hc14, hw⟩ := hw
      refine mc_i (va_runV (As := [.int x1]) (rest := [.int s0, .ref (a 0)]) ⟨hx, hb, hml, hown, hts⟩ (c_MM_judge l D a cI cZ hJ I F x1 H.size P14 hc14) (cwV 1 hts (tb_V (C := "CodeJudgeModel") wc_MM_judge tw_4_216 tw_4_218 tw_0_24 tw_1_9) rfl rfl rfl (by decide +kernel) ⟨Nat.le_of_ble_eq_true rfl, Nat.le_of_ble_eq_true rfl⟩) ⟨mP_bl, va_recv hK hP rfl mw_0, mP_at hP hK⟩ rfl rfl hl.1 rfl (lv_room (Nat.le_of_ble_eq_true rfl)) dMM_type_51 ⟨Nat.le_of_ble_eq_true rfl, Nat.le_of_ble_eq_true rfl⟩) hS (fun r14 I14 F14 H locs hP hp14 hS => ?_)
      have hw := hw r14 I14 F14 hp14
      refine lv_if_eq (tgt := 61) hx hb dMM_type_54 (by decide) (fun h15 => ?_) (fun h15 => ?_)
      · have hw := hw.1 h15
        exact J61 x2 x3 x4 s0 I14 F14 H locs ls (lv_sub hl [1, 3, 4, 5] rfl) hP hS hw
      · have hw := hw.2 h15
        refine lv_iconst (v := 1) hx hb dMM_type_57 (by decide) ?_
        refine lv_goto (tgt := 62) hx hb dMM_type_58 (by decide) ?_
        exact J62 x2 x3 x4 1 s0 I14 F14 H locs ls (lv_sub hl [1, 3, 4, 5] rfl) hP hS hw
  have J38 : ∀ (x1 : Int32) (x2 : Int32) (x3 : Int32) (x4 : Int32) (I : SI) (F : SF) (H : Heap) (locs : List Loc) (ls : Array Slot), lv_has ls 6 [(0, .ref (a 0)), (1, .int x1), (2, .int x2), (3, .int x3), (4, .int x4)] → va_P D vwCl (mw a cI cZ I F) H → va_S (xA 26 a s.heap.size) s.heap H locs → wp_MM_type_38 Post x1 x2 x3 x4 I F → W p l e (headSpec (Cond.code y_MM_type b_MM_type 6 (some .int) :: TB) { frames := 5, cells := 0, slots := 0, locals := 119 }).room s m ([.ref (a 0), .int p1, .int p2, .int p3, .int p4]).toArray below meth c H locs 0 0 Q (F0 m 38 ls []) := by
    intro x1 x2 x3 x4 I F H locs ls hl hP hS hw
    dsimp only [wp_MM_type_38] at hw
    refine lv_iconst (v := 0) hx hb dMM_type_38 (by decide) ?_
    exact J39 x1 x2 x3 x4 0 I F H locs ls (lv_sub hl [0, 1, 2, 3, 4] rfl) hP hS hw
  have J34 : ∀ (x1 : Int32) (x2 : Int32) (x3 : Int32) (x4 : Int32) (I : SI) (F : SF) (H : Heap) (locs : List Loc) (ls : Array Slot), lv_has ls 6 [(0, .ref (a 0)), (1, .int x1), (2, .int x2), (3, .int x3), (4, .int x4)] → va_P D vwCl (mw a cI cZ I F) H → va_S (xA 26 a s.heap.size) s.heap H locs → wp_MM_type_34 Post x1 x2 x3 x4 I F → W p l e (headSpec (Cond.code y_MM_type b_MM_type 6 (some .int) :: TB) { frames := 5, cells := 0, slots := 0, locals := 119 }).room s m ([.ref (a 0), .int p1, .int p2, .int p3, .int p4]).toArray below meth c H locs 0 0 Q (F0 m 34 ls []) := by
    intro x1 x2 x3 x4 I F H locs ls hl hP hS hw
    dsimp only [wp_MM_type_34] at hw
    refine lv_iconst (v := 1) hx hb dMM_type_34 (by decide) ?_
    refine lv_goto (tgt := 39) hx hb dMM_type_35 (by decide) ?_
    exact J39 x1 x2 x3 x4 1 I F H locs ls (lv_sub hl [0, 1, 2, 3, 4] rfl) hP hS hw
  suffices hM : ∀ (H : Heap) (locs : List Loc), va_P D vwCl (mw a cI cZ I F) H → va_S (xA 26 a s.heap.size) s.heap H locs → W p l e (headSpec (Cond.code y_MM_type b_MM_type 6 (some .int) :: TB) { frames := 5, cells := 0, slots := 0, locals := 119 }).room s m ([.ref (a 0), .int p1, .int p2, .int p3, .int p4]).toArray below meth c H locs 0 0 (Q) (F0 m 0 ls []) from hM s.heap [] hP va_S.rf
  clear hP
  intro H locs hP hS
  dsimp only [wp_MM_type] at hw
  refine lv_aload_n hx hb dMM_type_0 rfl (lv_at hl 0 rfl) ?_
  refine lv_iload_n hx hb dMM_type_1 rfl (lv_at hl 1 rfl) ?_
  refine lv_iload_n hx hb dMM_type_2 rfl (lv_at hl 2 rfl) ?_
  obtain ⟨P1, hc1, hw⟩ := hw
  refine mc_i (va_runV (As := [.int p1, .int p2]) (rest := []) ⟨hx, hb, hml, hown, hts⟩ (c_MM_isPlace l D a cI cZ hJ I F p1 p2 H.size P1 hc1) (cwV 2 hts (tb_V (C := "CodeJudgeModel") wc_MM_isPlace tw_4_204 tw_4_206 tw_0_23 tw_1_9) rfl rfl rfl (by decide +kernel) ⟨Nat.le_of_ble_eq_true rfl, Nat.le_of_ble_eq_true rfl⟩) ⟨mP_bl, va_recv hK hP rfl mw_0, mP_at hP hK⟩ rfl rfl hl.1 rfl (lv_room (Nat.le_of_ble_eq_true rfl)) dMM_type_3 ⟨Nat.le_of_ble_eq_true rfl, Nat.le_of_ble_eq_true rfl⟩) hS (fun r1 I1 F1 H locs hP hp1 hS => ?_)
  have hw := hw r1 I1 F1 hp1
  refine lv_if_eq (tgt := 38) hx hb dMM_type_6 (by decide) (fun h2 => ?_) (fun h2 => ?_)
  · have hw := hw.1 h2
    exact J38 p1 p2 p3 p4 I1 F1 H locs ls (lv_sub hl [0, 1, 2, 3, 4] rfl) hP hS hw
  · have hw := hw.2 h2
    refine lv_iload hx hb dMM_type_9 (lv_at hl 4 rfl) ?_
    refine lv_if_lt (tgt := 38) hx hb dMM_type_11 (by decide) (fun h16 => ?_) (fun h16 => ?_)
    · have hw := hw.1 h16
      exact J38 p1 p2 p3 p4 I1 F1 H locs ls (lv_sub hl [0, 1, 2, 3, 4] rfl) hP hS hw
    · have hw := hw.2 h16
      refine lv_iload_n hx hb dMM_type_14 rfl (lv_at hl 3 rfl) ?_
      refine lv_if_eq (tgt := 34) hx hb dMM_type_15 (by decide) (fun h17 => ?_) (fun h17 => ?_)
      · have hw := hw.1 h17
        exact J34 p1 p2 p3 p4 I1 F1 H locs ls (lv_sub hl [0, 1, 2, 3, 4] rfl) hP hS hw
      · have hw := hw.2 h17
        refine lv_iload_n hx hb dMM_type_18 rfl (lv_at hl 3 rfl) ?_
        refine lv_iconst (v := 1) hx hb dMM_type_19 (by decide) ?_
        refine lv_icmp_ne (tgt := 38) hx hb dMM_type_20 (by decide) (fun h18 => ?_) (fun h18 => ?_)
        · have hw := hw.1 h18
          exact J38 p1 p2 p3 p4 I1 F1 H locs ls (lv_sub hl [0, 1, 2, 3, 4] rfl) hP hS hw
        · have hw := hw.2 h18
          refine lv_iload hx hb dMM_type_23 (lv_at hl 4 rfl) ?_
          refine lv_aload_n hx hb dMM_type_25 rfl (lv_at hl 0 rfl) ?_
          refine va_get (D := D) (v := .ref (a 5)) (ci := 8) (C := "CodeJudgeModel") (T := T_MM) (N := 37) hx hb hts in_MM hown hK hP 0 mw_0 rfl 5 (by decide) (hts (.fieldLink "CodeJudgeModel" 23 "CodeJudgeModel" "locals" "[I") tw_4_71) (fun _ h9 => h9) rfl dMM_type_26 ?_
          refine lv_iload_n hx hb dMM_type_29 rfl (lv_at hl 1 rfl) ?_
          obtain ⟨h19, hw⟩ := hw
          refine va_iald hx hb hK hP 5 0 mw_5 rfl h19 dMM_type_30 ?_
          refine lv_icmp_ge (tgt := 38) hx hb dMM_type_31 (by decide) (fun h20 => ?_) (fun h20 => ?_)
          · have hw := hw.1 h20
            exact J38 p1 p2 p3 p4 I1 F1 H locs ls (lv_sub hl [0, 1, 2, 3, 4] rfl) hP hS hw
          · have hw := hw.2 h20
            exact J34 p1 p2 p3 p4 I1 F1 H locs ls (lv_sub hl [0, 1, 2, 3, 4] rfl) hP hS hw
def wp_MM_value_77 (Post : Int32 → SI → SF → Prop) (x1 : Int32) (x2 : Int32) (s0 : Int32) (I : SI) (F : SF) : Prop := ∃ P3 : Int32 → SI → SF → Prop, wp_MM_goes s0 1 1 I F P3 ∧ ∀ r3 I3 F3, P3 r3 I3 F3 → ((¬ r3 = 0 → ((¬ x1 = 0 → (vp_in ((((10 : Int32) * (I3 5)) - 10) + x2) 500 ∧ (Post ((F3 21) ((((10 : Int32) * (I3 5)) - 10) + x2 : Int32).toNatClampNeg) I3 F3))) ∧ (x1 = 0 → (vp_in ((((16 : Int32) * (I3 5)) - 16) + x2) 800 ∧ (Post ((F3 20) ((((16 : Int32) * (I3 5)) - 16) + x2 : Int32).toNatClampNeg) I3 F3))))) ∧ (r3 = 0 → (Post 0 I3 F3)))
def wp_MM_value_76 (Post : Int32 → SI → SF → Prop) (x1 : Int32) (x2 : Int32) (I : SI) (F : SF) : Prop := wp_MM_value_77 Post x1 x2 0 I F
def wp_MM_value_72 (Post : Int32 → SI → SF → Prop) (x1 : Int32) (x2 : Int32) (I : SI) (F : SF) : Prop := wp_MM_value_77 Post x1 x2 1 I F
def wp_MM_value_47 (Post : Int32 → SI → SF → Prop) (x1 : Int32) (x2 : Int32) (I : SI) (F : SF) : Prop := (¬ x1 = 1 → (wp_MM_value_76 Post x1 x2 I F)) ∧ (x1 = 1 → (vp_in ((I 5) - 1) 50 ∧ (vp_in ((F 17) ((I 5) - 1 : Int32).toNatClampNeg) 8 ∧ ((((F 5) ((F 17) ((I 5) - 1 : Int32).toNatClampNeg : Int32).toNatClampNeg) ≤ x2 → (wp_MM_value_76 Post x1 x2 I F)) ∧ (¬ ((F 5) ((F 17) ((I 5) - 1 : Int32).toNatClampNeg : Int32).toNatClampNeg) ≤ x2 → (wp_MM_value_72 Post x1 x2 I F))))))
def wp_MM_value_23 (Post : Int32 → SI → SF → Prop) (x1 : Int32) (x2 : Int32) (s0 : Int32) (I : SI) (F : SF) : Prop := (s0 = 0 → (wp_MM_value_76 Post x1 x2 I F)) ∧ (¬ s0 = 0 → ((¬ x1 = 0 → (wp_MM_value_47 Post x1 x2 I F)) ∧ (x1 = 0 → (vp_in ((I 5) - 1) 50 ∧ ((x2 < ((F 19) ((I 5) - 1 : Int32).toNatClampNeg) → (wp_MM_value_72 Post x1 x2 I F)) ∧ (¬ x2 < ((F 19) ((I 5) - 1 : Int32).toNatClampNeg) → (wp_MM_value_47 Post x1 x2 I F)))))))
def wp_MM_value_22 (Post : Int32 → SI → SF → Prop) (x1 : Int32) (x2 : Int32) (I : SI) (F : SF) : Prop := wp_MM_value_23 Post x1 x2 0 I F
def wp_MM_value (p1 : Int32) (p2 : Int32) (I : SI) (F : SF) (Post : Int32 → SI → SF → Prop) : Prop := ((I 4) = 0 → (wp_MM_value_22 Post p1 p2 I F)) ∧ (¬ (I 4) = 0 → (((I 5) ≤ 0 → (wp_MM_value_22 Post p1 p2 I F)) ∧ (¬ (I 5) ≤ 0 → ((p2 < 0 → (wp_MM_value_22 Post p1 p2 I F)) ∧ (¬ p2 < 0 → (wp_MM_value_23 Post p1 p2 1 I F))))))
set_option maxHeartbeats 4000000 in
set_option maxRecDepth 100000 in
theorem c_MM_value (l : Launch) (D : va_G) (a : Nat → Nat) (cI cZ : ClassId) (hJ : xJ 26 a) (I : SI) (F : SF) (p1 : Int32) (p2 : Int32) (sz : Nat) (Post : Int32 → SI → SF → Prop) (hw : wp_MM_value p1 p2 I F Post) : Met l y_MM_value (Cond.code y_MM_value b_MM_value 4 (some .int) :: TB) { frames := 1, cells := 0, slots := 0, locals := 23 } (va_Pc [.ref (a 0), .int p1, .int p2] (mP D a cI cZ I F sz)) (va_Qi (fun r (u : SI × SF) => Post r u.1 u.2) (fun u t => va_P D vwCl (mw a cI cZ u.1 u.2) t.heap) (xA 26 a sz)) 0 0 (xA 26 a sz) := by
  refine Met.ofW (cc := b_MM_value) (maxL := 4) (ret := (some .int)) (by decide) rfl ?_
  intro p e s m args below meth c s₁ B hml hv
  obtain ⟨rfl, rfl, hP, hK⟩ := hv
  have hx := B.exec
  have hb := B.bytes
  have hr := B.returns
  have hts : ∀ w ∈ TB, w.before _ s = true := fun w h => atoms_spec (ws := Cond.code y_MM_value b_MM_value 4 (some .int) :: TB) B.pre w (List.mem_cons_of_mem _ h)
  have hown : s.vm.findClass "CodeJudgeModel" = some m.cls := findClass_of_methodNamed B.named
  have hlocks := B.notSynchronized
  have hl := lv_entry ([.ref (a 0), .int p1, .int p2]) (n := 4) (Nat.le_of_ble_eq_true rfl)
  rw [lg_entry_eq]
  generalize (lg_sl ([.ref (a 0), .int p1, .int p2]) ++ List.replicate (4 - (lg_sl ([.ref (a 0), .int p1, .int p2])).length) Slot.unset).toArray = ls at hl ⊢
  have hl : lv_has ls 4 [(0, .ref (a 0)), (1, .int p1), (2, .int p2)] := hl
  obtain ⟨Q, hQ⟩ : ∃ Q, Q = MQ below (va_Qi (fun r (u : SI × SF) => Post r u.1 u.2) (fun u t => va_P D vwCl (mw a cI cZ u.1 u.2) t.heap) (xA 26 a s.heap.size)) ([.ref (a 0), .int p1, .int p2]).toArray s 0 0 (xA 26 a s.heap.size) := ⟨_, rfl⟩
  rw [← hQ]
  have J77 : ∀ (x1 : Int32) (x2 : Int32) (s0 : Int32) (I : SI) (F : SF) (H : Heap) (locs : List Loc) (ls : Array Slot), lv_has ls 4 [(0, .ref (a 0)), (1, .int x1), (2, .int x2)] → va_P D vwCl (mw a cI cZ I F) H → va_S (xA 26 a s.heap.size) s.heap H locs → wp_MM_value_77 Post x1 x2 s0 I F → W p l e (headSpec (Cond.code y_MM_value b_MM_value 4 (some .int) :: TB) { frames := 1, cells := 0, slots := 0, locals := 23 }).room s m ([.ref (a 0), .int p1, .int p2]).toArray below meth c H locs 0 0 Q (F0 m 77 ls [.int s0]) := by
    intro x1 x2 s0 I F H locs ls hl hP hS hw
    dsimp only [wp_MM_value_77] at hw
    refine lv_istore_n (lv' := [(3, .int s0), (0, .ref (a 0)), (1, .int x1), (2, .int x2)]) hx hb dMM_value_77 rfl hl (by decide) rfl (fun ls hl => ?_)
    refine lv_aload_n hx hb dMM_value_78 rfl (lv_at hl 1 rfl) ?_
    refine lv_iload_n hx hb dMM_value_79 rfl (lv_at hl 0 rfl) ?_
    refine lv_iconst (v := 1) hx hb dMM_value_80 (by decide) ?_
    refine lv_iconst (v := 1) hx hb dMM_value_81 (by decide) ?_
    obtain ⟨P3, hc3, hw⟩ := hw
    refine mc_i (va_runV (As := [.int s0, .int 1, .int 1]) (rest := []) ⟨hx, hb, hml, hown, hts⟩ (c_MM_goes l D a cI cZ hJ I F s0 1 1 H.size P3 hc3) (cwV 3 hts (tb_V (C := "CodeJudgeModel") wc_MM_goes tw_4_188 tw_4_190 tw_0_21 tw_1_9) rfl rfl rfl (by decide +kernel) ⟨Nat.le_of_ble_eq_true rfl, Nat.le_of_ble_eq_true rfl⟩) ⟨mP_bl, va_recv hK hP rfl mw_0, mP_at hP hK⟩ rfl rfl hl.1 rfl (lv_room (Nat.le_of_ble_eq_true rfl)) dMM_value_82 ⟨Nat.le_of_ble_eq_true rfl, Nat.le_of_ble_eq_true rfl⟩) hS (fun r3 I3 F3 H locs hP hp3 hS => ?_)
    have hw := hw r3 I3 F3 hp3
    refine lv_if_ne (tgt := 90) hx hb dMM_value_85 (by decide) (fun h4 => ?_) (fun h4 => ?_)
    · have hw := hw.1 h4
      refine lv_iload_n hx hb dMM_value_90 rfl (lv_at hl 2 rfl) ?_
      refine lv_if_ne (tgt := 114) hx hb dMM_value_91 (by decide) (fun h5 => ?_) (fun h5 => ?_)
      · have hw := hw.1 h5
        refine lv_aload_n hx hb dMM_value_114 rfl (lv_at hl 1 rfl) ?_
        refine va_get (D := D) (v := .ref (a 21)) (ci := 8) (C := "CodeJudgeModel") (T := T_MM) (N := 37) hx hb hts in_MM hown hK hP 0 mw_0 rfl 26 (by decide) (hts (.fieldLink "CodeJudgeModel" 71 "CodeJudgeModel" "slots" "[I") tw_4_91) (fun _ h9 => h9) rfl dMM_value_115 ?_
        refine lv_bipush (v := 10) hx hb dMM_value_118 (by decide) ?_
        refine lv_aload_n hx hb dMM_value_120 rfl (lv_at hl 1 rfl) ?_
        refine va_get (D := D) (v := .int (I3 5)) (ci := 8) (C := "CodeJudgeModel") (T := T_MM) (N := 37) hx hb hts in_MM hown hK hP 0 mw_0 rfl 21 (by decide) (hts (.fieldLink "CodeJudgeModel" 154 "CodeJudgeModel" "frames" "I") tw_4_86) (fun _ h9 => h9) rfl dMM_value_121 ?_
        refine lv_imul hx hb dMM_value_124 ?_
        refine lv_bipush (v := 10) hx hb dMM_value_125 (by decide) ?_
        refine lv_isub hx hb dMM_value_127 ?_
        refine lv_iload_n hx hb dMM_value_128 rfl (lv_at hl 3 rfl) ?_
        refine lv_iadd hx hb dMM_value_129 ?_
        obtain ⟨h6, hw⟩ := hw
        refine va_iald hx hb hK hP 21 0 mw_21 rfl h6 dMM_value_130 ?_
        rw [hQ]
        exact W.iret (v := ((F3 21) ((((10 : Int32) * (I3 5)) - 10) + x2 : Int32).toNatClampNeg)) hx hb hr (fun t ht hW => ⟨⟨((F3 21) ((((10 : Int32) * (I3 5)) - 10) + x2 : Int32).toNatClampNeg), (I3, F3), rfl, hw, by subst ht; exact hP⟩, hS.F ht⟩) hS.2.2 dMM_value_131
      · have hw := hw.2 h5
        refine lv_aload_n hx hb dMM_value_94 rfl (lv_at hl 1 rfl) ?_
        refine va_get (D := D) (v := .ref (a 20)) (ci := 8) (C := "CodeJudgeModel") (T := T_MM) (N := 37) hx hb hts in_MM hown hK hP 0 mw_0 rfl 25 (by decide) (hts (.fieldLink "CodeJudgeModel" 68 "CodeJudgeModel" "values" "[I") tw_4_90) (fun _ h9 => h9) rfl dMM_value_95 ?_
        refine lv_bipush (v := 16) hx hb dMM_value_98 (by decide) ?_
        refine lv_aload_n hx hb dMM_value_100 rfl (lv_at hl 1 rfl) ?_
        refine va_get (D := D) (v := .int (I3 5)) (ci := 8) (C := "CodeJudgeModel") (T := T_MM) (N := 37) hx hb hts in_MM hown hK hP 0 mw_0 rfl 21 (by decide) (hts (.fieldLink "CodeJudgeModel" 154 "CodeJudgeModel" "frames" "I") tw_4_86) (fun _ h9 => h9) rfl dMM_value_101 ?_
        refine lv_imul hx hb dMM_value_104 ?_
        refine lv_bipush (v := 16) hx hb dMM_value_105 (by decide) ?_
        refine lv_isub hx hb dMM_value_107 ?_
        refine lv_iload_n hx hb dMM_value_108 rfl (lv_at hl 3 rfl) ?_
        refine lv_iadd hx hb dMM_value_109 ?_
        obtain ⟨h7, hw⟩ := hw
        refine va_iald hx hb hK hP 20 0 mw_20 rfl h7 dMM_value_110 ?_
        refine lv_goto (tgt := 131) hx hb dMM_value_111 (by decide) ?_
        rw [hQ]
        exact W.iret (v := ((F3 20) ((((16 : Int32) * (I3 5)) - 16) + x2 : Int32).toNatClampNeg)) hx hb hr (fun t ht hW => ⟨⟨((F3 20) ((((16 : Int32) * (I3 5)) - 16) + x2 : Int32).toNatClampNeg), (I3, F3), rfl, hw, by subst ht; exact hP⟩, hS.F ht⟩) hS.2.2 dMM_value_131
    · have hw := hw.2 h4
      refine lv_iconst (v := 0) hx hb dMM_value_88 (by decide) ?_
      rw [hQ]
      exact W.iret (v := 0) hx hb hr (fun t ht hW => ⟨⟨0, (I3, F3), rfl, hw, by subst ht; exact hP⟩, hS.F ht⟩) hS.2.2 dMM_value_89
  have J76 : ∀ (x1 : Int32) (x2 : Int32) (I : SI) (F : SF) (H : Heap) (locs : List Loc) (ls : Array Slot), lv_has ls 4 [(0, .ref (a 0)), (1, .int x1), (2, .int x2)] → va_P D vwCl (mw a cI cZ I F) H → va_S (xA 26 a s.heap.size) s.heap H locs → wp_MM_value_76 Post x1 x2 I F → W p l e (headSpec (Cond.code y_MM_value b_MM_value 4 (some .int) :: TB) { frames := 1, cells := 0, slots := 0, locals := 23 }).room s m ([.ref (a 0), .int p1, .int p2]).toArray below meth c H locs 0 0 Q (F0 m 76 ls []) := by
    intro x1 x2 I F H locs ls hl hP hS hw
    dsimp only [wp_MM_value_76] at hw
    refine lv_iconst (v := 0) hx hb dMM_value_76 (by decide) ?_
    exact J77 x1 x2 0 I F H locs ls (lv_sub hl [0, 1, 2] rfl) hP hS hw
  have J72 : ∀ (x1 : Int32) (x2 : Int32) (I : SI) (F : SF) (H : Heap) (locs : List Loc) (ls : Array Slot), lv_has ls 4 [(0, .ref (a 0)), (1, .int x1), (2, .int x2)] → va_P D vwCl (mw a cI cZ I F) H → va_S (xA 26 a s.heap.size) s.heap H locs → wp_MM_value_72 Post x1 x2 I F → W p l e (headSpec (Cond.code y_MM_value b_MM_value 4 (some .int) :: TB) { frames := 1, cells := 0, slots := 0, locals := 23 }).room s m ([.ref (a 0), .int p1, .int p2]).toArray below meth c H locs 0 0 Q (F0 m 72 ls []) := by
    intro x1 x2 I F H locs ls hl hP hS hw
    dsimp only [wp_MM_value_72] at hw
    refine lv_iconst (v := 1) hx hb dMM_value_72 (by decide) ?_
    refine lv_goto (tgt := 77) hx hb dMM_value_73 (by decide) ?_
    exact J77 x1 x2 1 I F H locs ls (lv_sub hl [0, 1, 2] rfl) hP hS hw
  have J47 : ∀ (x1 : Int32) (x2 : Int32) (I : SI) (F : SF) (H : Heap) (locs : List Loc) (ls : Array Slot), lv_has ls 4 [(0, .ref (a 0)), (1, .int x1), (2, .int x2)] → va_P D vwCl (mw a cI cZ I F) H → va_S (xA 26 a s.heap.size) s.heap H locs → wp_MM_value_47 Post x1 x2 I F → W p l e (headSpec (Cond.code y_MM_value b_MM_value 4 (some .int) :: TB) { frames := 1, cells := 0, slots := 0, locals := 23 }).room s m ([.ref (a 0), .int p1, .int p2]).toArray below meth c H locs 0 0 Q (F0 m 47 ls []) := by
    intro x1 x2 I F H locs ls hl hP hS hw
    dsimp only [wp_MM_value_47] at hw
    refine lv_iload_n hx hb dMM_value_47 rfl (lv_at hl 1 rfl) ?_
    refine lv_iconst (v := 1) hx hb dMM_value_48 (by decide) ?_
    refine lv_icmp_ne (tgt := 76) hx hb dMM_value_49 (by decide) (fun h9 => ?_) (fun h9 => ?_)
    · have hw := hw.1 h9
      exact J76 x1 x2 I F H locs ls (lv_sub hl [0, 1, 2] rfl) hP hS hw
    · have hw := hw.2 h9
      refine lv_iload_n hx hb dMM_value_52 rfl (lv_at hl 2 rfl) ?_
      refine lv_aload_n hx hb dMM_value_53 rfl (lv_at hl 0 rfl) ?_
      refine va_get (D := D) (v := .ref (a 5)) (ci := 8) (C := "CodeJudgeModel") (T := T_MM) (N := 37) hx hb hts in_MM hown hK hP 0 mw_0 rfl 5 (by decide) (hts (.fieldLink "CodeJudgeModel" 23 "CodeJudgeModel" "locals" "[I") tw_4_71) (fun _ h9 => h9) rfl dMM_value_54 ?_
      refine lv_aload_n hx hb dMM_value_57 rfl (lv_at hl 0 rfl) ?_
      refine va_get (D := D) (v := .ref (a 17)) (ci := 8) (C := "CodeJudgeModel") (T := T_MM) (N := 37) hx hb hts in_MM hown hK hP 0 mw_0 rfl 22 (by decide) (hts (.fieldLink "CodeJudgeModel" 59 "CodeJudgeModel" "methods" "[I") tw_4_87) (fun _ h9 => h9) rfl dMM_value_58 ?_
      refine lv_aload_n hx hb dMM_value_61 rfl (lv_at hl 0 rfl) ?_
      refine va_get (D := D) (v := .int (I 5)) (ci := 8) (C := "CodeJudgeModel") (T := T_MM) (N := 37) hx hb hts in_MM hown hK hP 0 mw_0 rfl 21 (by decide) (hts (.fieldLink "CodeJudgeModel" 154 "CodeJudgeModel" "frames" "I") tw_4_86) (fun _ h9 => h9) rfl dMM_value_62 ?_
      refine lv_iconst (v := 1) hx hb dMM_value_65 (by decide) ?_
      refine lv_isub hx hb dMM_value_66 ?_
      obtain ⟨h10, hw⟩ := hw
      refine va_iald hx hb hK hP 17 0 mw_17 rfl h10 dMM_value_67 ?_
      obtain ⟨h11, hw⟩ := hw
      refine va_iald hx hb hK hP 5 0 mw_5 rfl h11 dMM_value_68 ?_
      refine lv_icmp_ge (tgt := 76) hx hb dMM_value_69 (by decide) (fun h12 => ?_) (fun h12 => ?_)
      · have hw := hw.1 h12
        exact J76 x1 x2 I F H locs ls (lv_sub hl [0, 1, 2] rfl) hP hS hw
      · have hw := hw.2 h12
        exact J72 x1 x2 I F H locs ls (lv_sub hl [0, 1, 2] rfl) hP hS hw
  have J23 : ∀ (x1 : Int32) (x2 : Int32) (s0 : Int32) (I : SI) (F : SF) (H : Heap) (locs : List Loc) (ls : Array Slot), lv_has ls 4 [(0, .ref (a 0)), (1, .int x1), (2, .int x2)] → va_P D vwCl (mw a cI cZ I F) H → va_S (xA 26 a s.heap.size) s.heap H locs → wp_MM_value_23 Post x1 x2 s0 I F → W p l e (headSpec (Cond.code y_MM_value b_MM_value 4 (some .int) :: TB) { frames := 1, cells := 0, slots := 0, locals := 23 }).room s m ([.ref (a 0), .int p1, .int p2]).toArray below meth c H locs 0 0 Q (F0 m 23 ls [.int s0]) := by
    intro x1 x2 s0 I F H locs ls hl hP hS hw
    dsimp only [wp_MM_value_23] at hw
    refine lv_istore_n (lv' := [(3, .int s0), (0, .ref (a 0)), (1, .int x1), (2, .int x2)]) hx hb dMM_value_23 rfl hl (by decide) rfl (fun ls hl => ?_)
    refine lv_iload_n hx hb dMM_value_24 rfl (lv_at hl 0 rfl) ?_
    refine lv_if_eq (tgt := 76) hx hb dMM_value_25 (by decide) (fun h2 => ?_) (fun h2 => ?_)
    · have hw := hw.1 h2
      exact J76 x1 x2 I F H locs ls (lv_sub hl [1, 2, 3] rfl) hP hS hw
    · have hw := hw.2 h2
      refine lv_iload_n hx hb dMM_value_28 rfl (lv_at hl 2 rfl) ?_
      refine lv_if_ne (tgt := 47) hx hb dMM_value_29 (by decide) (fun h8 => ?_) (fun h8 => ?_)
      · have hw := hw.1 h8
        exact J47 x1 x2 I F H locs ls (lv_sub hl [1, 2, 3] rfl) hP hS hw
      · have hw := hw.2 h8
        refine lv_iload_n hx hb dMM_value_32 rfl (lv_at hl 3 rfl) ?_
        refine lv_aload_n hx hb dMM_value_33 rfl (lv_at hl 1 rfl) ?_
        refine va_get (D := D) (v := .ref (a 19)) (ci := 8) (C := "CodeJudgeModel") (T := T_MM) (N := 37) hx hb hts in_MM hown hK hP 0 mw_0 rfl 24 (by decide) (hts (.fieldLink "CodeJudgeModel" 65 "CodeJudgeModel" "tops" "[I") tw_4_89) (fun _ h9 => h9) rfl dMM_value_34 ?_
        refine lv_aload_n hx hb dMM_value_37 rfl (lv_at hl 1 rfl) ?_
        refine va_get (D := D) (v := .int (I 5)) (ci := 8) (C := "CodeJudgeModel") (T := T_MM) (N := 37) hx hb hts in_MM hown hK hP 0 mw_0 rfl 21 (by decide) (hts (.fieldLink "CodeJudgeModel" 154 "CodeJudgeModel" "frames" "I") tw_4_86) (fun _ h9 => h9) rfl dMM_value_38 ?_
        refine lv_iconst (v := 1) hx hb dMM_value_41 (by decide) ?_
        refine lv_isub hx hb dMM_value_42 ?_
        obtain ⟨h13, hw⟩ := hw
        refine va_iald hx hb hK hP 19 0 mw_19 rfl h13 dMM_value_43 ?_
        refine lv_icmp_lt (tgt := 72) hx hb dMM_value_44 (by decide) (fun h14 => ?_) (fun h14 => ?_)
        · have hw := hw.1 h14
          exact J72 x1 x2 I F H locs ls (lv_sub hl [1, 2, 3] rfl) hP hS hw
        · have hw := hw.2 h14
          exact J47 x1 x2 I F H locs ls (lv_sub hl [1, 2, 3] rfl) hP hS hw
  have J22 : ∀ (x1 : Int32) (x2 : Int32) (I : SI) (F : SF) (H : Heap) (locs : List Loc) (ls : Array Slot), lv_has ls 4 [(0, .ref (a 0)), (1, .int x1), (2, .int x2)] → va_P D vwCl (mw a cI cZ I F) H → va_S (xA 26 a s.heap.size) s.heap H locs → wp_MM_value_22 Post x1 x2 I F → W p l e (headSpec (Cond.code y_MM_value b_MM_value 4 (some .int) :: TB) { frames := 1, cells := 0, slots := 0, locals := 23 }).room s m ([.ref (a 0), .int p1, .int p2]).toArray below meth c H locs 0 0 Q (F0 m 22 ls []) := by
    intro x1 x2 I F H locs ls hl hP hS hw
    dsimp only [wp_MM_value_22] at hw
    refine lv_iconst (v := 0) hx hb dMM_value_22 (by decide) ?_
    exact J23 x1 x2 0 I F H locs ls (lv_sub hl [0, 1, 2] rfl) hP hS hw
  suffices hM : ∀ (H : Heap) (locs : List Loc), va_P D vwCl (mw a cI cZ I F) H → va_S (xA 26 a s.heap.size) s.heap H locs → W p l e (headSpec (Cond.code y_MM_value b_MM_value 4 (some .int) :: TB) { frames := 1, cells := 0, slots := 0, locals := 23 }).room s m ([.ref (a 0), .int p1, .int p2]).toArray below meth c H locs 0 0 (Q) (F0 m 0 ls []) from hM s.heap [] hP va_S.rf
  clear hP
  intro H locs hP hS
  dsimp only [wp_MM_value] at hw
  refine lv_aload_n hx hb dMM_value_0 rfl (lv_at hl 0 rfl) ?_
  refine va_get (D := D) (v := .int (I 4)) (ci := 8) (C := "CodeJudgeModel") (T := T_MM) (N := 37) hx hb hts in_MM hown hK hP 0 mw_0 rfl 20 (by decide) (hts (.fieldLink "CodeJudgeModel" 98 "CodeJudgeModel" "isRun" "Z") tw_4_85) (fun _ h9 => h9) rfl dMM_value_1 ?_
  refine lv_if_eq (tgt := 22) hx hb dMM_value_4 (by decide) (fun h1 => ?_) (fun h1 => ?_)
  · have hw := hw.1 h1
    exact J22 p1 p2 I F H locs ls (lv_sub hl [0, 1, 2] rfl) hP hS hw
  · have hw := hw.2 h1
    refine lv_aload_n hx hb dMM_value_7 rfl (lv_at hl 0 rfl) ?_
    refine va_get (D := D) (v := .int (I 5)) (ci := 8) (C := "CodeJudgeModel") (T := T_MM) (N := 37) hx hb hts in_MM hown hK hP 0 mw_0 rfl 21 (by decide) (hts (.fieldLink "CodeJudgeModel" 154 "CodeJudgeModel" "frames" "I") tw_4_86) (fun _ h9 => h9) rfl dMM_value_8 ?_
    refine lv_if_le (tgt := 22) hx hb dMM_value_11 (by decide) (fun h15 => ?_) (fun h15 => ?_)
    · have hw := hw.1 h15
      exact J22 p1 p2 I F H locs ls (lv_sub hl [0, 1, 2] rfl) hP hS hw
    · have hw := hw.2 h15
      refine lv_iload_n hx hb dMM_value_14 rfl (lv_at hl 2 rfl) ?_
      refine lv_if_lt (tgt := 22) hx hb dMM_value_15 (by decide) (fun h16 => ?_) (fun h16 => ?_)
      · have hw := hw.1 h16
        exact J22 p1 p2 I F H locs ls (lv_sub hl [0, 1, 2] rfl) hP hS hw
      · have hw := hw.2 h16
        refine lv_iconst (v := 1) hx hb dMM_value_18 (by decide) ?_
        refine lv_goto (tgt := 23) hx hb dMM_value_19 (by decide) ?_
        exact J23 p1 p2 1 I F H locs ls (lv_sub hl [0, 1, 2] rfl) hP hS hw
