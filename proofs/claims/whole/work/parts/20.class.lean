def wp_Ma_step_142 (Post : Int32 → SI → SF → Prop) (x5 : Int32) (x6 : Int32) (I : SI) (F : SF) : Prop := ∃ P13 : Int32 → SI → SF → Prop, wp_Or_namesPlace x5 I F P13 ∧ ∀ r13 I13 F13, P13 r13 I13 F13 → ((r13 = 0 → (∃ P15 : Int32 → SI → SF → Prop, wp_Or_combines x5 I13 F13 P15 ∧ ∀ r15 I15 F15, P15 r15 I15 F15 → ((r15 = 0 → (∃ P17 : SI → SF → Prop, wp_Ma_work x5 x6 I15 F15 P17 ∧ ∀ I17 F17, P17 I17 F17 → (Post 1 I17 F17))) ∧ (¬ r15 = 0 → (∃ P18 : Int32 → SI → SF → Prop, wp_Fr_pop I15 F15 P18 ∧ ∀ r18 I18 F18, P18 r18 I18 F18 → (∃ P19 : Int32 → SI → SF → Prop, wp_Fr_pop I18 F18 P19 ∧ ∀ r19 I19 F19, P19 r19 I19 F19 → (∃ P20 : SI → SF → Prop, wp_Ma_combine x5 r19 r18 I19 F19 P20 ∧ ∀ I20 F20, P20 I20 F20 → (Post 1 I20 F20)))))))) ∧ (¬ r13 = 0 → (∃ P21 : SI → SF → Prop, wp_Ma_leap x5 x6 I13 F13 P21 ∧ ∀ I21 F21, P21 I21 F21 → (Post 1 I21 F21))))
def wp_Ma_step (I : SI) (F : SF) (Post : Int32 → SI → SF → Prop) : Prop := ∃ P1 : Int32 → SI → SF → Prop, wp_Fr_upperMethod I F P1 ∧ ∀ r1 I1 F1, P1 r1 I1 F1 → (∃ P2 : Int32 → SI → SF → Prop, wp_CJ_isBelow r1 8 I1 F1 P2 ∧ ∀ r2 I2 F2, P2 r2 I2 F2 → ((¬ r2 = 0 → (vp_in r1 8 ∧ (∃ P5 : Int32 → SI → SF → Prop, wp_Fr_upperPlace I2 F2 P5 ∧ ∀ r5 I5 F5, P5 r5 I5 F5 → (∃ P6 : Int32 → SI → SF → Prop, wp_Me_orderAt r1.toNatClampNeg r5 I5 F5 P6 ∧ ∀ r6 I6 F6, P6 r6 I6 F6 → (∃ P7 : Int32 → SI → SF → Prop, wp_Me_numberAt r1.toNatClampNeg r5 I6 F6 P7 ∧ ∀ r7 I7 F7, P7 r7 I7 F7 → (∃ P8 : Int32 → SI → SF → Prop, wp_Ma_troubleWith r6 I7 F7 P8 ∧ ∀ r8 I8 F8, P8 r8 I8 F8 → ((r8 = 0 → (∃ P10 : SI → SF → Prop, wp_Fr_go (r5 + 1) (va_up (va_up I8 2 r8) 3 ((I8 3) + 1)) F8 P10 ∧ ∀ I10 F10, P10 I10 F10 → ((¬ r6 = 24 → ((¬ r6 = 23 → (wp_Ma_step_142 Post r6 r7 I10 F10)) ∧ (r6 = 23 → (∃ P22 : Int32 → SI → SF → Prop, wp_CJ_isBelow r7 8 I10 F10 P22 ∧ ∀ r22 I22 F22, P22 r22 I22 F22 → ((r22 = 0 → (wp_Ma_step_142 Post r6 r7 I22 F22)) ∧ (¬ r22 = 0 → (vp_in r7 8 ∧ (∃ P25 : SI → SF → Prop, wp_Fr_enterWith r7 (I22 (21 + 10 * r7.toNatClampNeg)) I22 F22 P25 ∧ ∀ I25 F25, P25 I25 F25 → (Post 1 I25 F25))))))))) ∧ (r6 = 24 → (∃ P26 : SI → SF → Prop, wp_Ma_giveBack (I10 (23 + 10 * r1.toNatClampNeg)) I10 F10 P26 ∧ ∀ I26 F26, P26 I26 F26 → (Post 1 I26 F26)))))) ∧ (¬ r8 = 0 → (Post 0 (va_up I8 2 r8) F8))))))))) ∧ (r2 = 0 → (Post 0 I2 F2))))
set_option maxHeartbeats 4000000 in
set_option maxRecDepth 100000 in
theorem c_Ma_step (l : Launch) (D : va_G) (a : Nat → Nat) (cI cZ cQ : ClassId) (hJ : xJ 47 a) (I : SI) (F : SF) (sz : Nat) (Post : Int32 → SI → SF → Prop) (hw : wp_Ma_step I F Post) : Met l y_Ma_step (Cond.code y_Ma_step b_Ma_step 8 (some .boolean) :: TB) { frames := 5, cells := 0, slots := 0, locals := 110 } (va_Pc [.ref (a 3), .ref (a 1)] (cP D a cI cZ cQ I F sz)) (va_Qi (fun r (u : SI × SF) => Post r u.1 u.2) (fun u t => va_P D vwCl (cw a cI cZ cQ u.1 u.2) t.heap) (xA 47 a sz)) 0 0 (xA 47 a sz) := by
  refine Met.ofW (cc := b_Ma_step) (maxL := 8) (ret := (some .boolean)) (by decide) rfl ?_
  intro p e s m args below meth c s₁ B hml hv
  obtain ⟨rfl, rfl, hP, hK, hN⟩ := hv
  have hx := B.exec
  have hb := B.bytes
  have hr := B.returns
  have hts : ∀ w ∈ TB, w.before _ s = true := fun w h => atoms_spec (ws := Cond.code y_Ma_step b_Ma_step 8 (some .boolean) :: TB) B.pre w (List.mem_cons_of_mem _ h)
  have hown : s.vm.findClass "CodeJudge$Machine" = some m.cls := findClass_of_methodNamed B.named
  have hlocks := B.notSynchronized
  have hl := lv_entry ([.ref (a 3), .ref (a 1)]) (n := 8) (Nat.le_of_ble_eq_true rfl)
  rw [lg_entry_eq]
  generalize (lg_sl ([.ref (a 3), .ref (a 1)]) ++ List.replicate (8 - (lg_sl ([.ref (a 3), .ref (a 1)])).length) Slot.unset).toArray = ls at hl ⊢
  have hl : lv_has ls 8 [(0, .ref (a 3)), (1, .ref (a 1))] := hl
  obtain ⟨Q, hQ⟩ : ∃ Q, Q = MQ below (va_Qi (fun r (u : SI × SF) => Post r u.1 u.2) (fun u t => va_P D vwCl (cw a cI cZ cQ u.1 u.2) t.heap) (xA 47 a s.heap.size)) ([.ref (a 3), .ref (a 1)]).toArray s 0 0 (xA 47 a s.heap.size) := ⟨_, rfl⟩
  rw [← hQ]
  have J142 : ∀ (x5 : Int32) (x6 : Int32) (I : SI) (F : SF) (H : Heap) (locs : List Loc) (ls : Array Slot), lv_has ls 8 [(0, .ref (a 3)), (5, .int x5), (6, .int x6)] → va_P D vwCl (cw a cI cZ cQ I F) H → va_S (xA 47 a s.heap.size) s.heap H locs → wp_Ma_step_142 Post x5 x6 I F → W p l e (headSpec (Cond.code y_Ma_step b_Ma_step 8 (some .boolean) :: TB) { frames := 5, cells := 0, slots := 0, locals := 110 }).room s m ([.ref (a 3), .ref (a 1)]).toArray below meth c H locs 0 0 Q (F0 m 142 ls []) := by
    intro x5 x6 I F H locs ls hl hP hS hw
    dsimp only [wp_Ma_step_142] at hw
    refine lv_iload hx hb dMa_step_142 (lv_at hl 1 rfl) ?_
    obtain ⟨P13, hc13, hw⟩ := hw
    refine cc_i (va_runS (As := [.int x5]) (rest := []) ⟨hx, hb, hml, hown, hts⟩ (c_Or_namesPlace l D a cI cZ cQ hJ I F x5 H.size P13 hc13) (va_cwS 1 hts (tb_S wc_Or_namesPlace tw_3_192 tw_2_203 tw_1_16) rfl rfl rfl (by decide +kernel) ⟨Nat.le_of_ble_eq_true rfl, Nat.le_of_ble_eq_true rfl⟩) ⟨cP_bl, cP_at hP hK hN⟩ rfl rfl hl.1 rfl (lv_room (Nat.le_of_ble_eq_true rfl)) dMa_step_144 ⟨Nat.le_of_ble_eq_true rfl, Nat.le_of_ble_eq_true rfl⟩) hS (fun r13 I13 F13 H locs hP hp13 hS => ?_)
    have hw := hw r13 I13 F13 hp13
    refine lv_if_eq (tgt := 161) hx hb dMa_step_147 (by decide) (fun h14 => ?_) (fun h14 => ?_)
    · have hw := hw.1 h14
      refine lv_iload hx hb dMa_step_161 (lv_at hl 1 rfl) ?_
      obtain ⟨P15, hc15, hw⟩ := hw
      refine cc_i (va_runS (As := [.int x5]) (rest := []) ⟨hx, hb, hml, hown, hts⟩ (c_Or_combines l D a cI cZ cQ hJ I13 F13 x5 H.size P15 hc15) (va_cwS 1 hts (tb_S wc_Or_combines tw_3_201 tw_3_202 tw_1_16) rfl rfl rfl (by decide +kernel) ⟨Nat.le_of_ble_eq_true rfl, Nat.le_of_ble_eq_true rfl⟩) ⟨cP_bl, cP_at hP hK hN⟩ rfl rfl hl.1 rfl (lv_room (Nat.le_of_ble_eq_true rfl)) dMa_step_163 ⟨Nat.le_of_ble_eq_true rfl, Nat.le_of_ble_eq_true rfl⟩) hS (fun r15 I15 F15 H locs hP hp15 hS => ?_)
      have hw := hw r15 I15 F15 hp15
      refine lv_if_eq (tgt := 196) hx hb dMa_step_166 (by decide) (fun h16 => ?_) (fun h16 => ?_)
      · have hw := hw.1 h16
        refine lv_aload_n hx hb dMa_step_196 rfl (lv_at hl 0 rfl) ?_
        refine lv_iload hx hb dMa_step_197 (lv_at hl 1 rfl) ?_
        refine lv_iload hx hb dMa_step_199 (lv_at hl 2 rfl) ?_
        obtain ⟨P17, hc17, hw⟩ := hw
        refine cc_v (va_runV (As := [.int x5, .int x6]) (rest := []) ⟨hx, hb, hml, hown, hts⟩ (c_Ma_work l D a cI cZ cQ hJ I15 F15 x5 x6 H.size P17 hc17) (cwV 2 hts (tb_V (C := "CodeJudge$Machine") wc_Ma_work tw_3_220 tw_3_222 tw_0_19 tw_1_5) rfl rfl rfl (by decide +kernel) ⟨Nat.le_of_ble_eq_true rfl, Nat.le_of_ble_eq_true rfl⟩) ⟨cP_bl, va_recv hK hP rfl cw_3, cP_at hP hK hN⟩ rfl rfl hl.1 rfl (lv_room (Nat.le_of_ble_eq_true rfl)) dMa_step_201 ⟨Nat.le_of_ble_eq_true rfl, Nat.le_of_ble_eq_true rfl⟩) hS (fun I17 F17 H locs hP hp17 hS => ?_)
        have hw := hw I17 F17 hp17
        refine lv_iconst (v := 1) hx hb dMa_step_204 (by decide) ?_
        rw [hQ]
        exact W.zret (v := 1) hx hb hr rfl (fun t ht hW => ⟨⟨1, (I17, F17), rfl, hw, by subst ht; exact hP⟩, hS.F ht⟩) hS.2.2 dMa_step_205
      · have hw := hw.2 h16
        refine lv_aload_n hx hb dMa_step_169 rfl (lv_at hl 0 rfl) ?_
        refine va_get (D := D) (v := .ref (a 11)) (ci := 3) (C := "CodeJudge$Machine") (T := T_Ma) (N := 7) hx hb hts in_Ma hown hK hP 3 cw_3 rfl 1 (by decide) (hts (.fieldLink "CodeJudge$Machine" 12 "CodeJudge$Machine" "frames" "LCodeJudge$Frames;") tw_1_203) (fun _ h9 => h9) rfl dMa_step_170 ?_
        obtain ⟨P18, hc18, hw⟩ := hw
        refine cc_i (va_runV (As := []) (rest := []) ⟨hx, hb, hml, hown, hts⟩ (c_Fr_pop l D a cI cZ cQ hJ I15 F15 H.size P18 hc18) (cwV 0 hts (tb_V (C := "CodeJudge$Frames") wc_Fr_pop tw_3_174 tw_3_175 tw_3_176 tw_1_6) rfl rfl rfl (by decide +kernel) ⟨Nat.le_of_ble_eq_true rfl, Nat.le_of_ble_eq_true rfl⟩) ⟨cP_bl, va_recv hK hP rfl cw_11, cP_at hP hK hN⟩ rfl rfl hl.1 rfl (lv_room (Nat.le_of_ble_eq_true rfl)) dMa_step_173 ⟨Nat.le_of_ble_eq_true rfl, Nat.le_of_ble_eq_true rfl⟩) hS (fun r18 I18 F18 H locs hP hp18 hS => ?_)
        have hw := hw r18 I18 F18 hp18
        refine lv_istore (lv' := [(7, .int r18), (0, .ref (a 3)), (5, .int x5), (6, .int x6)]) hx hb dMa_step_176 hl (by decide) rfl (fun ls hl => ?_)
        refine lv_aload_n hx hb dMa_step_178 rfl (lv_at hl 1 rfl) ?_
        refine lv_iload hx hb dMa_step_179 (lv_at hl 2 rfl) ?_
        refine lv_aload_n hx hb dMa_step_181 rfl (lv_at hl 1 rfl) ?_
        refine va_get (D := D) (v := .ref (a 11)) (ci := 3) (C := "CodeJudge$Machine") (T := T_Ma) (N := 7) hx hb hts in_Ma hown hK hP 3 cw_3 rfl 1 (by decide) (hts (.fieldLink "CodeJudge$Machine" 12 "CodeJudge$Machine" "frames" "LCodeJudge$Frames;") tw_1_203) (fun _ h9 => h9) rfl dMa_step_182 ?_
        obtain ⟨P19, hc19, hw⟩ := hw
        refine cc_i (va_runV (As := []) (rest := [.int x5, .ref (a 3)]) ⟨hx, hb, hml, hown, hts⟩ (c_Fr_pop l D a cI cZ cQ hJ I18 F18 H.size P19 hc19) (cwV 0 hts (tb_V (C := "CodeJudge$Frames") wc_Fr_pop tw_3_174 tw_3_175 tw_3_176 tw_1_6) rfl rfl rfl (by decide +kernel) ⟨Nat.le_of_ble_eq_true rfl, Nat.le_of_ble_eq_true rfl⟩) ⟨cP_bl, va_recv hK hP rfl cw_11, cP_at hP hK hN⟩ rfl rfl hl.1 rfl (lv_room (Nat.le_of_ble_eq_true rfl)) dMa_step_185 ⟨Nat.le_of_ble_eq_true rfl, Nat.le_of_ble_eq_true rfl⟩) hS (fun r19 I19 F19 H locs hP hp19 hS => ?_)
        have hw := hw r19 I19 F19 hp19
        refine lv_iload hx hb dMa_step_188 (lv_at hl 0 rfl) ?_
        obtain ⟨P20, hc20, hw⟩ := hw
        refine cc_v (va_runV (As := [.int x5, .int r19, .int r18]) (rest := []) ⟨hx, hb, hml, hown, hts⟩ (c_Ma_combine l D a cI cZ cQ hJ I19 F19 x5 r19 r18 H.size P20 hc20) (cwV 3 hts (tb_V (C := "CodeJudge$Machine") wc_Ma_combine tw_3_204 tw_3_206 tw_0_18 tw_1_5) rfl rfl rfl (by decide +kernel) ⟨Nat.le_of_ble_eq_true rfl, Nat.le_of_ble_eq_true rfl⟩) ⟨cP_bl, va_recv hK hP rfl cw_3, cP_at hP hK hN⟩ rfl rfl hl.1 rfl (lv_room (Nat.le_of_ble_eq_true rfl)) dMa_step_190 ⟨Nat.le_of_ble_eq_true rfl, Nat.le_of_ble_eq_true rfl⟩) hS (fun I20 F20 H locs hP hp20 hS => ?_)
        have hw := hw I20 F20 hp20
        refine lv_goto (tgt := 204) hx hb dMa_step_193 (by decide) ?_
        refine lv_iconst (v := 1) hx hb dMa_step_204 (by decide) ?_
        rw [hQ]
        exact W.zret (v := 1) hx hb hr rfl (fun t ht hW => ⟨⟨1, (I20, F20), rfl, hw, by subst ht; exact hP⟩, hS.F ht⟩) hS.2.2 dMa_step_205
    · have hw := hw.2 h14
      refine lv_aload_n hx hb dMa_step_150 rfl (lv_at hl 0 rfl) ?_
      refine lv_iload hx hb dMa_step_151 (lv_at hl 1 rfl) ?_
      refine lv_iload hx hb dMa_step_153 (lv_at hl 2 rfl) ?_
      obtain ⟨P21, hc21, hw⟩ := hw
      refine cc_v (va_runV (As := [.int x5, .int x6]) (rest := []) ⟨hx, hb, hml, hown, hts⟩ (c_Ma_leap l D a cI cZ cQ hJ I13 F13 x5 x6 H.size P21 hc21) (cwV 2 hts (tb_V (C := "CodeJudge$Machine") wc_Ma_leap tw_3_193 tw_3_195 tw_0_16 tw_1_5) rfl rfl rfl (by decide +kernel) ⟨Nat.le_of_ble_eq_true rfl, Nat.le_of_ble_eq_true rfl⟩) ⟨cP_bl, va_recv hK hP rfl cw_3, cP_at hP hK hN⟩ rfl rfl hl.1 rfl (lv_room (Nat.le_of_ble_eq_true rfl)) dMa_step_155 ⟨Nat.le_of_ble_eq_true rfl, Nat.le_of_ble_eq_true rfl⟩) hS (fun I21 F21 H locs hP hp21 hS => ?_)
      have hw := hw I21 F21 hp21
      refine lv_goto (tgt := 204) hx hb dMa_step_158 (by decide) ?_
      refine lv_iconst (v := 1) hx hb dMa_step_204 (by decide) ?_
      rw [hQ]
      exact W.zret (v := 1) hx hb hr rfl (fun t ht hW => ⟨⟨1, (I21, F21), rfl, hw, by subst ht; exact hP⟩, hS.F ht⟩) hS.2.2 dMa_step_205
  suffices hM : ∀ (H : Heap) (locs : List Loc), va_P D vwCl (cw a cI cZ cQ I F) H → va_S (xA 47 a s.heap.size) s.heap H locs → W p l e (headSpec (Cond.code y_Ma_step b_Ma_step 8 (some .boolean) :: TB) { frames := 5, cells := 0, slots := 0, locals := 110 }).room s m ([.ref (a 3), .ref (a 1)]).toArray below meth c H locs 0 0 (Q) (F0 m 0 ls []) from hM s.heap [] hP va_S.rf
  clear hP
  intro H locs hP hS
  dsimp only [wp_Ma_step] at hw
  refine lv_aload_n hx hb dMa_step_0 rfl (lv_at hl 0 rfl) ?_
  refine va_get (D := D) (v := .ref (a 11)) (ci := 3) (C := "CodeJudge$Machine") (T := T_Ma) (N := 7) hx hb hts in_Ma hown hK hP 3 cw_3 rfl 1 (by decide) (hts (.fieldLink "CodeJudge$Machine" 12 "CodeJudge$Machine" "frames" "LCodeJudge$Frames;") tw_1_203) (fun _ h9 => h9) rfl dMa_step_1 ?_
  obtain ⟨P1, hc1, hw⟩ := hw
  refine cc_i (va_runV (As := []) (rest := []) ⟨hx, hb, hml, hown, hts⟩ (c_Fr_upperMethod l D a cI cZ cQ hJ I F H.size P1 hc1) (cwV 0 hts (tb_V (C := "CodeJudge$Frames") wc_Fr_upperMethod tw_3_120 tw_3_121 tw_3_122 tw_1_6) rfl rfl rfl (by decide +kernel) ⟨Nat.le_of_ble_eq_true rfl, Nat.le_of_ble_eq_true rfl⟩) ⟨cP_bl, va_recv hK hP rfl cw_11, cP_at hP hK hN⟩ rfl rfl hl.1 rfl (lv_room (Nat.le_of_ble_eq_true rfl)) dMa_step_4 ⟨Nat.le_of_ble_eq_true rfl, Nat.le_of_ble_eq_true rfl⟩) hS (fun r1 I1 F1 H locs hP hp1 hS => ?_)
  have hw := hw r1 I1 F1 hp1
  refine lv_istore_n (lv' := [(2, .int r1), (0, .ref (a 3)), (1, .ref (a 1))]) hx hb dMa_step_7 rfl hl (by decide) rfl (fun ls hl => ?_)
  refine lv_iload_n hx hb dMa_step_8 rfl (lv_at hl 0 rfl) ?_
  refine lv_bipush (v := 8) hx hb dMa_step_9 (by decide) ?_
  obtain ⟨P2, hc2, hw⟩ := hw
  refine cc_i (va_runSN (As := [.int r1, .int 8]) (rest := []) ⟨hx, hb, hml, hown, hts⟩ (c_CJ_isBelow l D a cI cZ cQ hJ I1 F1 r1 8 H.size P2 hc2) (⟨va_cnB 2 hts (tb_self wc_CJ_isBelow) rfl rfl rfl (hN ("CodeJudge$Machine", 94, ⟨"CodeJudge", "isBelow", "(II)Z"⟩, "CodeJudge") (by decide +kernel)) (hts (.initialized "CodeJudge") tw_1_1) (by decide +kernel) ⟨Nat.le_of_ble_eq_true rfl, Nat.le_of_ble_eq_true rfl⟩, hts (.static ⟨"CodeJudge", "isBelow", "(II)Z"⟩) tw_2_7, trivial⟩) ⟨cP_bl, cP_at hP hK hN⟩ rfl rfl hl.1 rfl (lv_room (Nat.le_of_ble_eq_true rfl)) dMa_step_11 ⟨Nat.le_of_ble_eq_true rfl, Nat.le_of_ble_eq_true rfl⟩) hS (fun r2 I2 F2 H locs hP hp2 hS => ?_)
  have hw := hw r2 I2 F2 hp2
  refine lv_if_ne (tgt := 19) hx hb dMa_step_14 (by decide) (fun h3 => ?_) (fun h3 => ?_)
  · have hw := hw.1 h3
    refine lv_aload_n hx hb dMa_step_19 rfl (lv_at hl 2 rfl) ?_
    refine lv_iload_n hx hb dMa_step_20 rfl (lv_at hl 0 rfl) ?_
    obtain ⟨h4, hw⟩ := hw
    refine va_aldq hx hb hK hP 1 2 cw_1 rfl h4 dMa_step_21 ?_
    have kh4 := vin_lt h4
    refine lv_astore_n (lv' := [(3, .ref (a (23 + 3 * r1.toNatClampNeg))), (2, .int r1), (0, .ref (a 3)), (1, .ref (a 1))]) hx hb dMa_step_22 rfl hl (by decide) rfl (fun ls hl => ?_)
    refine lv_aload_n hx hb dMa_step_23 rfl (lv_at hl 2 rfl) ?_
    refine va_get (D := D) (v := .ref (a 11)) (ci := 3) (C := "CodeJudge$Machine") (T := T_Ma) (N := 7) hx hb hts in_Ma hown hK hP 3 cw_3 rfl 1 (by decide) (hts (.fieldLink "CodeJudge$Machine" 12 "CodeJudge$Machine" "frames" "LCodeJudge$Frames;") tw_1_203) (fun _ h9 => h9) rfl dMa_step_24 ?_
    obtain ⟨P5, hc5, hw⟩ := hw
    refine cc_i (va_runV (As := []) (rest := []) ⟨hx, hb, hml, hown, hts⟩ (c_Fr_upperPlace l D a cI cZ cQ hJ I2 F2 H.size P5 hc5) (cwV 0 hts (tb_V (C := "CodeJudge$Frames") wc_Fr_upperPlace tw_3_125 tw_3_126 tw_3_127 tw_1_6) rfl rfl rfl (by decide +kernel) ⟨Nat.le_of_ble_eq_true rfl, Nat.le_of_ble_eq_true rfl⟩) ⟨cP_bl, va_recv hK hP rfl cw_11, cP_at hP hK hN⟩ rfl rfl hl.1 rfl (lv_room (Nat.le_of_ble_eq_true rfl)) dMa_step_27 ⟨Nat.le_of_ble_eq_true rfl, Nat.le_of_ble_eq_true rfl⟩) hS (fun r5 I5 F5 H locs hP hp5 hS => ?_)
    have hw := hw r5 I5 F5 hp5
    refine lv_istore (lv' := [(4, .int r5), (3, .ref (a (23 + 3 * r1.toNatClampNeg))), (2, .int r1), (0, .ref (a 3)), (1, .ref (a 1))]) hx hb dMa_step_30 hl (by decide) rfl (fun ls hl => ?_)
    refine lv_aload_n hx hb dMa_step_32 rfl (lv_at hl 1 rfl) ?_
    refine lv_iload hx hb dMa_step_33 (lv_at hl 0 rfl) ?_
    obtain ⟨P6, hc6, hw⟩ := hw
    refine cc_i (va_runV (As := [.int r5]) (rest := []) ⟨hx, hb, hml, hown, hts⟩ (c_Me_orderAt l D a cI cZ cQ hJ I5 F5 r1.toNatClampNeg r5 kh4 H.size P6 hc6) (cwV 1 hts (tb_V (C := "CodeJudge$Method") wc_Me_orderAt tw_3_129 tw_2_191 tw_2_192 tw_1_2) rfl rfl rfl (by decide +kernel) ⟨Nat.le_of_ble_eq_true rfl, Nat.le_of_ble_eq_true rfl⟩) ⟨cP_bl, va_recv hK hP rfl (cw_M kh4), cP_at hP hK hN⟩ rfl rfl hl.1 rfl (lv_room (Nat.le_of_ble_eq_true rfl)) dMa_step_35 ⟨Nat.le_of_ble_eq_true rfl, Nat.le_of_ble_eq_true rfl⟩) hS (fun r6 I6 F6 H locs hP hp6 hS => ?_)
    have hw := hw r6 I6 F6 hp6
    refine lv_istore (lv' := [(5, .int r6), (4, .int r5), (3, .ref (a (23 + 3 * r1.toNatClampNeg))), (2, .int r1), (0, .ref (a 3)), (1, .ref (a 1))]) hx hb dMa_step_38 hl (by decide) rfl (fun ls hl => ?_)
    refine lv_aload_n hx hb dMa_step_40 rfl (lv_at hl 2 rfl) ?_
    refine lv_iload hx hb dMa_step_41 (lv_at hl 1 rfl) ?_
    obtain ⟨P7, hc7, hw⟩ := hw
    refine cc_i (va_runV (As := [.int r5]) (rest := []) ⟨hx, hb, hml, hown, hts⟩ (c_Me_numberAt l D a cI cZ cQ hJ I6 F6 r1.toNatClampNeg r5 kh4 H.size P7 hc7) (cwV 1 hts (tb_V (C := "CodeJudge$Method") wc_Me_numberAt tw_3_130 tw_2_143 tw_2_144 tw_1_2) rfl rfl rfl (by decide +kernel) ⟨Nat.le_of_ble_eq_true rfl, Nat.le_of_ble_eq_true rfl⟩) ⟨cP_bl, va_recv hK hP rfl (cw_M kh4), cP_at hP hK hN⟩ rfl rfl hl.1 rfl (lv_room (Nat.le_of_ble_eq_true rfl)) dMa_step_43 ⟨Nat.le_of_ble_eq_true rfl, Nat.le_of_ble_eq_true rfl⟩) hS (fun r7 I7 F7 H locs hP hp7 hS => ?_)
    have hw := hw r7 I7 F7 hp7
    refine lv_istore (lv' := [(6, .int r7), (5, .int r6), (4, .int r5), (3, .ref (a (23 + 3 * r1.toNatClampNeg))), (2, .int r1), (0, .ref (a 3)), (1, .ref (a 1))]) hx hb dMa_step_46 hl (by decide) rfl (fun ls hl => ?_)
    refine lv_aload_n hx hb dMa_step_48 rfl (lv_at hl 5 rfl) ?_
    refine lv_aload_n hx hb dMa_step_49 rfl (lv_at hl 5 rfl) ?_
    refine lv_iload hx hb dMa_step_50 (lv_at hl 1 rfl) ?_
    obtain ⟨P8, hc8, hw⟩ := hw
    refine cc_i (va_runV (As := [.int r6]) (rest := [.ref (a 3)]) ⟨hx, hb, hml, hown, hts⟩ (c_Ma_troubleWith l D a cI cZ cQ hJ I7 F7 r6 H.size P8 hc8) (cwV 1 hts (tb_V (C := "CodeJudge$Machine") wc_Ma_troubleWith tw_3_131 tw_3_133 tw_0_12 tw_1_5) rfl rfl rfl (by decide +kernel) ⟨Nat.le_of_ble_eq_true rfl, Nat.le_of_ble_eq_true rfl⟩) ⟨cP_bl, va_recv hK hP rfl cw_3, cP_at hP hK hN⟩ rfl rfl hl.1 rfl (lv_room (Nat.le_of_ble_eq_true rfl)) dMa_step_52 ⟨Nat.le_of_ble_eq_true rfl, Nat.le_of_ble_eq_true rfl⟩) hS (fun r8 I8 F8 H locs hP hp8 hS => ?_)
    have hw := hw r8 I8 F8 hp8
    refine va_put (D := D) (ci := 3) (v := .int r8) (ty := .int) (C := "CodeJudge$Machine") (T := T_Ma) (N := 7) hx hb hts in_Ma ty_Ma ok_Ma nm_Ma hown hK hP (cD hJ) hS 3 cw_3 rfl 4 (by decide) (hts (.fieldLink "CodeJudge$Machine" 36 "CodeJudge$Machine" "outcome" "I") tw_1_209) (fun _ h9 => h9) rfl (by decide +kernel) rfl rfl (Nat.le_of_ble_eq_true rfl) dMa_step_55 (fun H locs hP _ hS => ?_)
    have hP := cwp_2 hP
    refine lv_aload_n hx hb dMa_step_58 rfl (lv_at hl 5 rfl) ?_
    refine va_get (D := D) (v := .int r8) (ci := 3) (C := "CodeJudge$Machine") (T := T_Ma) (N := 7) hx hb hts in_Ma hown hK hP 3 cw_3 rfl 4 (by decide) (hts (.fieldLink "CodeJudge$Machine" 36 "CodeJudge$Machine" "outcome" "I") tw_1_209) (fun _ h9 => h9) rfl dMa_step_59 ?_
    refine lv_if_eq (tgt := 67) hx hb dMa_step_62 (by decide) (fun h9 => ?_) (fun h9 => ?_)
    · have hw := hw.1 h9
      refine lv_aload_n hx hb dMa_step_67 rfl (lv_at hl 5 rfl) ?_
      refine lv_dup hx hb dMa_step_68 rfl ?_
      refine va_get (D := D) (v := .int (I8 3)) (ci := 3) (C := "CodeJudge$Machine") (T := T_Ma) (N := 7) hx hb hts in_Ma hown hK hP 3 cw_3 rfl 5 (by decide) (hts (.fieldLink "CodeJudge$Machine" 40 "CodeJudge$Machine" "steps" "I") tw_1_210) (fun _ h9 => h9) rfl dMa_step_69 ?_
      refine lv_iconst (v := 1) hx hb dMa_step_72 (by decide) ?_
      refine lv_iadd hx hb dMa_step_73 ?_
      refine va_put (D := D) (ci := 3) (v := .int ((I8 3) + 1)) (ty := .int) (C := "CodeJudge$Machine") (T := T_Ma) (N := 7) hx hb hts in_Ma ty_Ma ok_Ma nm_Ma hown hK hP (cD hJ) hS 3 cw_3 rfl 5 (by decide) (hts (.fieldLink "CodeJudge$Machine" 40 "CodeJudge$Machine" "steps" "I") tw_1_210) (fun _ h9 => h9) rfl (by decide +kernel) rfl rfl (Nat.le_of_ble_eq_true rfl) dMa_step_74 (fun H locs hP _ hS => ?_)
      have hP := cwp_3 hP
      refine lv_aload_n hx hb dMa_step_77 rfl (lv_at hl 5 rfl) ?_
      refine va_get (D := D) (v := .ref (a 11)) (ci := 3) (C := "CodeJudge$Machine") (T := T_Ma) (N := 7) hx hb hts in_Ma hown hK hP 3 cw_3 rfl 1 (by decide) (hts (.fieldLink "CodeJudge$Machine" 12 "CodeJudge$Machine" "frames" "LCodeJudge$Frames;") tw_1_203) (fun _ h9 => h9) rfl dMa_step_78 ?_
      refine lv_iload hx hb dMa_step_81 (lv_at hl 2 rfl) ?_
      refine lv_iconst (v := 1) hx hb dMa_step_83 (by decide) ?_
      refine lv_iadd hx hb dMa_step_84 ?_
      obtain ⟨P10, hc10, hw⟩ := hw
      refine cc_v (va_runV (As := [.int (r5 + 1)]) (rest := []) ⟨hx, hb, hml, hown, hts⟩ (c_Fr_go l D a cI cZ cQ hJ (va_up (va_up I8 2 r8) 3 ((I8 3) + 1)) F8 (r5 + 1) H.size P10 hc10) (cwV 1 hts (tb_V (C := "CodeJudge$Frames") wc_Fr_go tw_3_166 tw_3_167 tw_3_168 tw_1_6) rfl rfl rfl (by decide +kernel) ⟨Nat.le_of_ble_eq_true rfl, Nat.le_of_ble_eq_true rfl⟩) ⟨cP_bl, va_recv hK hP rfl cw_11, cP_at hP hK hN⟩ rfl rfl hl.1 rfl (lv_room (Nat.le_of_ble_eq_true rfl)) dMa_step_85 ⟨Nat.le_of_ble_eq_true rfl, Nat.le_of_ble_eq_true rfl⟩) hS (fun I10 F10 H locs hP hp10 hS => ?_)
      have hw := hw I10 F10 hp10
      refine lv_iload hx hb dMa_step_88 (lv_at hl 1 rfl) ?_
      refine lv_bipush (v := 24) hx hb dMa_step_90 (by decide) ?_
      refine lv_icmp_ne (tgt := 106) hx hb dMa_step_92 (by decide) (fun h11 => ?_) (fun h11 => ?_)
      · have hw := hw.1 h11
        refine lv_iload hx hb dMa_step_106 (lv_at hl 1 rfl) ?_
        refine lv_bipush (v := 23) hx hb dMa_step_108 (by decide) ?_
        refine lv_icmp_ne (tgt := 142) hx hb dMa_step_110 (by decide) (fun h12 => ?_) (fun h12 => ?_)
        · have hw := hw.1 h12
          exact J142 r6 r7 I10 F10 H locs ls (lv_sub hl [5, 1, 0] rfl) hP hS hw
        · have hw := hw.2 h12
          refine lv_iload hx hb dMa_step_113 (lv_at hl 0 rfl) ?_
          refine lv_bipush (v := 8) hx hb dMa_step_115 (by decide) ?_
          obtain ⟨P22, hc22, hw⟩ := hw
          refine cc_i (va_runSN (As := [.int r7, .int 8]) (rest := []) ⟨hx, hb, hml, hown, hts⟩ (c_CJ_isBelow l D a cI cZ cQ hJ I10 F10 r7 8 H.size P22 hc22) (⟨va_cnB 2 hts (tb_self wc_CJ_isBelow) rfl rfl rfl (hN ("CodeJudge$Machine", 94, ⟨"CodeJudge", "isBelow", "(II)Z"⟩, "CodeJudge") (by decide +kernel)) (hts (.initialized "CodeJudge") tw_1_1) (by decide +kernel) ⟨Nat.le_of_ble_eq_true rfl, Nat.le_of_ble_eq_true rfl⟩, hts (.static ⟨"CodeJudge", "isBelow", "(II)Z"⟩) tw_2_7, trivial⟩) ⟨cP_bl, cP_at hP hK hN⟩ rfl rfl hl.1 rfl (lv_room (Nat.le_of_ble_eq_true rfl)) dMa_step_117 ⟨Nat.le_of_ble_eq_true rfl, Nat.le_of_ble_eq_true rfl⟩) hS (fun r22 I22 F22 H locs hP hp22 hS => ?_)
          have hw := hw r22 I22 F22 hp22
          refine lv_if_eq (tgt := 142) hx hb dMa_step_120 (by decide) (fun h23 => ?_) (fun h23 => ?_)
          · have hw := hw.1 h23
            exact J142 r6 r7 I22 F22 H locs ls (lv_sub hl [5, 1, 0] rfl) hP hS hw
          · have hw := hw.2 h23
            refine lv_aload_n hx hb dMa_step_123 rfl (lv_at hl 5 rfl) ?_
            refine va_get (D := D) (v := .ref (a 11)) (ci := 3) (C := "CodeJudge$Machine") (T := T_Ma) (N := 7) hx hb hts in_Ma hown hK hP 3 cw_3 rfl 1 (by decide) (hts (.fieldLink "CodeJudge$Machine" 12 "CodeJudge$Machine" "frames" "LCodeJudge$Frames;") tw_1_203) (fun _ h9 => h9) rfl dMa_step_124 ?_
            refine lv_iload hx hb dMa_step_127 (lv_at hl 0 rfl) ?_
            refine lv_aload_n hx hb dMa_step_129 rfl (lv_at hl 6 rfl) ?_
            refine lv_iload hx hb dMa_step_130 (lv_at hl 0 rfl) ?_
            obtain ⟨h24, hw⟩ := hw
            refine va_aldq hx hb hK hP 1 2 cw_1 rfl h24 dMa_step_132 ?_
            have kh24 := vin_lt h24
            refine va_get (D := D) (v := .int (I22 (21 + 10 * r7.toNatClampNeg))) (ci := 4) (C := "CodeJudge$Method") (T := T_Me) (N := 9) hx hb hts in_Me hown hK hP (23 + 3 * r7.toNatClampNeg) (cw_M kh24) rfl 1 (by decide) (hts (.fieldLink "CodeJudge$Machine" 57 "CodeJudge$Method" "parameters" "I") tw_1_39) (fun _ h9 => h9) rfl dMa_step_133 ?_
            obtain ⟨P25, hc25, hw⟩ := hw
            refine cc_v (va_runV (As := [.int r7, .int (I22 (21 + 10 * r7.toNatClampNeg))]) (rest := []) ⟨hx, hb, hml, hown, hts⟩ (c_Fr_enterWith l D a cI cZ cQ hJ I22 F22 r7 (I22 (21 + 10 * r7.toNatClampNeg)) H.size P25 hc25) (cwV 2 hts (tb_V (C := "CodeJudge$Frames") wc_Fr_enterWith tw_3_186 tw_3_187 tw_3_188 tw_1_6) rfl rfl rfl (by decide +kernel) ⟨Nat.le_of_ble_eq_true rfl, Nat.le_of_ble_eq_true rfl⟩) ⟨cP_bl, va_recv hK hP rfl cw_11, cP_at hP hK hN⟩ rfl rfl hl.1 rfl (lv_room (Nat.le_of_ble_eq_true rfl)) dMa_step_136 ⟨Nat.le_of_ble_eq_true rfl, Nat.le_of_ble_eq_true rfl⟩) hS (fun I25 F25 H locs hP hp25 hS => ?_)
            have hw := hw I25 F25 hp25
            refine lv_goto (tgt := 204) hx hb dMa_step_139 (by decide) ?_
            refine lv_iconst (v := 1) hx hb dMa_step_204 (by decide) ?_
            rw [hQ]
            exact W.zret (v := 1) hx hb hr rfl (fun t ht hW => ⟨⟨1, (I25, F25), rfl, hw, by subst ht; exact hP⟩, hS.F ht⟩) hS.2.2 dMa_step_205
      · have hw := hw.2 h11
        refine lv_aload_n hx hb dMa_step_95 rfl (lv_at hl 5 rfl) ?_
        refine lv_aload_n hx hb dMa_step_96 rfl (lv_at hl 3 rfl) ?_
        refine va_get (D := D) (v := .int (I10 (23 + 10 * r1.toNatClampNeg))) (ci := 4) (C := "CodeJudge$Method") (T := T_Me) (N := 9) hx hb hts in_Me hown hK hP (23 + 3 * r1.toNatClampNeg) (cw_M kh4) rfl 3 (by decide) (hts (.fieldLink "CodeJudge$Machine" 112 "CodeJudge$Method" "returns" "I") tw_1_44) (fun _ h9 => h9) rfl dMa_step_97 ?_
        obtain ⟨P26, hc26, hw⟩ := hw
        refine cc_v (va_runV (As := [.int (I10 (23 + 10 * r1.toNatClampNeg))]) (rest := []) ⟨hx, hb, hml, hown, hts⟩ (c_Ma_giveBack l D a cI cZ cQ hJ I10 F10 (I10 (23 + 10 * r1.toNatClampNeg)) H.size P26 hc26) (cwV 1 hts (tb_V (C := "CodeJudge$Machine") wc_Ma_giveBack tw_3_170 tw_3_172 tw_0_15 tw_1_5) rfl rfl rfl (by decide +kernel) ⟨Nat.le_of_ble_eq_true rfl, Nat.le_of_ble_eq_true rfl⟩) ⟨cP_bl, va_recv hK hP rfl cw_3, cP_at hP hK hN⟩ rfl rfl hl.1 rfl (lv_room (Nat.le_of_ble_eq_true rfl)) dMa_step_100 ⟨Nat.le_of_ble_eq_true rfl, Nat.le_of_ble_eq_true rfl⟩) hS (fun I26 F26 H locs hP hp26 hS => ?_)
        have hw := hw I26 F26 hp26
        refine lv_goto (tgt := 204) hx hb dMa_step_103 (by decide) ?_
        refine lv_iconst (v := 1) hx hb dMa_step_204 (by decide) ?_
        rw [hQ]
        exact W.zret (v := 1) hx hb hr rfl (fun t ht hW => ⟨⟨1, (I26, F26), rfl, hw, by subst ht; exact hP⟩, hS.F ht⟩) hS.2.2 dMa_step_205
    · have hw := hw.2 h9
      refine lv_iconst (v := 0) hx hb dMa_step_65 (by decide) ?_
      rw [hQ]
      exact W.zret (v := 0) hx hb hr rfl (fun t ht hW => ⟨⟨0, ((va_up I8 2 r8), F8), rfl, hw, by subst ht; exact hP⟩, hS.F ht⟩) hS.2.2 dMa_step_66
  · have hw := hw.2 h3
    refine lv_iconst (v := 0) hx hb dMa_step_17 (by decide) ?_
    rw [hQ]
    exact W.zret (v := 0) hx hb hr rfl (fun t ht hW => ⟨⟨0, (I2, F2), rfl, hw, by subst ht; exact hP⟩, hS.F ht⟩) hS.2.2 dMa_step_18
def wp_Ma_advance_2 (Post : Int32 → SI → SF → Prop) : Nat → Int32 → Int32 → SI → SF → Prop
  | 0 => fun _ _ _ _ => False
  | n + 1 => fun x2 x3 I F => (x2 ≤ x3 → (Post x3 I F)) ∧ (¬ x2 ≤ x3 → ((¬ (I 2) = 0 → (Post x3 I F)) ∧ ((I 2) = 0 → (∃ P3 : Int32 → SI → SF → Prop, wp_Ma_step I F P3 ∧ ∀ r3 I3 F3, P3 r3 I3 F3 → ((r3 = 0 → (Post x3 I3 F3)) ∧ (¬ r3 = 0 → (∀ x5 : Int32, x5 = x3 + 1 → ((wp_Ma_advance_2 Post n) x2 x5 I3 F3))))))))
def wp_Ma_advance (p2 : Int32) (I : SI) (F : SF) (Post : Int32 → SI → SF → Prop) : Prop := ∃ q2, wp_Ma_advance_2 Post q2 p2 0 I F
set_option maxHeartbeats 4000000 in
set_option maxRecDepth 100000 in
theorem c_Ma_advance (l : Launch) (D : va_G) (a : Nat → Nat) (cI cZ cQ : ClassId) (hJ : xJ 47 a) (I : SI) (F : SF) (p2 : Int32) (sz : Nat) (Post : Int32 → SI → SF → Prop) (hw : wp_Ma_advance p2 I F Post) : Met l y_Ma_advance (Cond.code y_Ma_advance b_Ma_advance 4 (some .int) :: TB) { frames := 6, cells := 0, slots := 0, locals := 137 } (va_Pc [.ref (a 3), .ref (a 1), .int p2] (cP D a cI cZ cQ I F sz)) (va_Qi (fun r (u : SI × SF) => Post r u.1 u.2) (fun u t => va_P D vwCl (cw a cI cZ cQ u.1 u.2) t.heap) (xA 47 a sz)) 0 0 (xA 47 a sz) := by
  refine Met.ofW (cc := b_Ma_advance) (maxL := 4) (ret := (some .int)) (by decide) rfl ?_
  intro p e s m args below meth c s₁ B hml hv
  obtain ⟨rfl, rfl, hP, hK, hN⟩ := hv
  have hx := B.exec
  have hb := B.bytes
  have hr := B.returns
  have hts : ∀ w ∈ TB, w.before _ s = true := fun w h => atoms_spec (ws := Cond.code y_Ma_advance b_Ma_advance 4 (some .int) :: TB) B.pre w (List.mem_cons_of_mem _ h)
  have hown : s.vm.findClass "CodeJudge$Machine" = some m.cls := findClass_of_methodNamed B.named
  have hlocks := B.notSynchronized
  have hl := lv_entry ([.ref (a 3), .ref (a 1), .int p2]) (n := 4) (Nat.le_of_ble_eq_true rfl)
  rw [lg_entry_eq]
  generalize (lg_sl ([.ref (a 3), .ref (a 1), .int p2]) ++ List.replicate (4 - (lg_sl ([.ref (a 3), .ref (a 1), .int p2])).length) Slot.unset).toArray = ls at hl ⊢
  have hl : lv_has ls 4 [(0, .ref (a 3)), (1, .ref (a 1)), (2, .int p2)] := hl
  obtain ⟨Q, hQ⟩ : ∃ Q, Q = MQ below (va_Qi (fun r (u : SI × SF) => Post r u.1 u.2) (fun u t => va_P D vwCl (cw a cI cZ cQ u.1 u.2) t.heap) (xA 47 a s.heap.size)) ([.ref (a 3), .ref (a 1), .int p2]).toArray s 0 0 (xA 47 a s.heap.size) := ⟨_, rfl⟩
  rw [← hQ]
  have J2 : ∀ n : Nat, ∀ (x2 : Int32) (x3 : Int32) (I : SI) (F : SF) (H : Heap) (locs : List Loc) (ls : Array Slot), lv_has ls 4 [(0, .ref (a 3)), (1, .ref (a 1)), (2, .int x2), (3, .int x3)] → va_P D vwCl (cw a cI cZ cQ I F) H → va_S (xA 47 a s.heap.size) s.heap H locs → wp_Ma_advance_2 Post n x2 x3 I F → W p l e (headSpec (Cond.code y_Ma_advance b_Ma_advance 4 (some .int) :: TB) { frames := 6, cells := 0, slots := 0, locals := 137 }).room s m ([.ref (a 3), .ref (a 1), .int p2]).toArray below meth c H locs 0 0 Q (F0 m 2 ls []) := by
    intro n2
    induction n2 with
    | zero =>
      intro x2 x3 I F H locs ls hl hP hS hw
      exact False.elim hw
    | succ n2 ih2 =>
      intro x2 x3 I F H locs ls hl hP hS hw
      dsimp only [wp_Ma_advance_2] at hw
      refine lv_iload_n hx hb dMa_advance_2 rfl (lv_at hl 3 rfl) ?_
      refine lv_iload_n hx hb dMa_advance_3 rfl (lv_at hl 2 rfl) ?_
      refine lv_icmp_ge (tgt := 28) hx hb dMa_advance_4 (by decide) (fun h1 => ?_) (fun h1 => ?_)
      · have hw := hw.1 h1
        refine lv_iload_n hx hb dMa_advance_28 rfl (lv_at hl 3 rfl) ?_
        rw [hQ]
        exact W.iret (v := x3) hx hb hr (fun t ht hW => ⟨⟨x3, (I, F), rfl, hw, by subst ht; exact hP⟩, hS.F ht⟩) hS.2.2 dMa_advance_29
      · have hw := hw.2 h1
        refine lv_aload_n hx hb dMa_advance_7 rfl (lv_at hl 0 rfl) ?_
        refine va_get (D := D) (v := .int (I 2)) (ci := 3) (C := "CodeJudge$Machine") (T := T_Ma) (N := 7) hx hb hts in_Ma hown hK hP 3 cw_3 rfl 4 (by decide) (hts (.fieldLink "CodeJudge$Machine" 36 "CodeJudge$Machine" "outcome" "I") tw_1_209) (fun _ h9 => h9) rfl dMa_advance_8 ?_
        refine lv_if_ne (tgt := 28) hx hb dMa_advance_11 (by decide) (fun h2 => ?_) (fun h2 => ?_)
        · have hw := hw.1 h2
          refine lv_iload_n hx hb dMa_advance_28 rfl (lv_at hl 3 rfl) ?_
          rw [hQ]
          exact W.iret (v := x3) hx hb hr (fun t ht hW => ⟨⟨x3, (I, F), rfl, hw, by subst ht; exact hP⟩, hS.F ht⟩) hS.2.2 dMa_advance_29
        · have hw := hw.2 h2
          refine lv_aload_n hx hb dMa_advance_14 rfl (lv_at hl 0 rfl) ?_
          refine lv_aload_n hx hb dMa_advance_15 rfl (lv_at hl 1 rfl) ?_
          obtain ⟨P3, hc3, hw⟩ := hw
          refine cc_i (va_runV (As := [.ref (a 1)]) (rest := []) ⟨hx, hb, hml, hown, hts⟩ (c_Ma_step l D a cI cZ cQ hJ I F H.size P3 hc3) (cwV 1 hts (tb_V (C := "CodeJudge$Machine") wc_Ma_step tw_3_116 tw_3_118 tw_0_11 tw_1_5) rfl rfl rfl (by decide +kernel) ⟨Nat.le_of_ble_eq_true rfl, Nat.le_of_ble_eq_true rfl⟩) ⟨cP_bl, va_recv hK hP rfl cw_3, cP_at hP hK hN⟩ rfl rfl hl.1 rfl (lv_room (Nat.le_of_ble_eq_true rfl)) dMa_advance_16 ⟨Nat.le_of_ble_eq_true rfl, Nat.le_of_ble_eq_true rfl⟩) hS (fun r3 I3 F3 H locs hP hp3 hS => ?_)
          have hw := hw r3 I3 F3 hp3
          refine lv_if_eq (tgt := 28) hx hb dMa_advance_19 (by decide) (fun h4 => ?_) (fun h4 => ?_)
          · have hw := hw.1 h4
            refine lv_iload_n hx hb dMa_advance_28 rfl (lv_at hl 3 rfl) ?_
            rw [hQ]
            exact W.iret (v := x3) hx hb hr (fun t ht hW => ⟨⟨x3, (I3, F3), rfl, hw, by subst ht; exact hP⟩, hS.F ht⟩) hS.2.2 dMa_advance_29
          · have hw := hw.2 h4
            obtain ⟨x5, e_x5⟩ : ∃ z : Int32, z = x3 + 1 := ⟨_, rfl⟩
            have hw := hw x5 e_x5
            refine lv_iinc (k := 3) (v := x5) (lv' := [(3, .int x5), (0, .ref (a 3)), (1, .ref (a 1)), (2, .int x2)]) hx hb dMa_advance_22 hl rfl (e_x5 ▸ (by first | rfl | decide)) (by decide) rfl (fun ls hl => ?_)
            refine lv_goto (tgt := 2) hx hb dMa_advance_25 (by decide) ?_
            exact ih2 x2 x5 I3 F3 H locs ls (lv_sub hl [1, 2, 3, 0] rfl) hP hS hw
  suffices hM : ∀ (H : Heap) (locs : List Loc), va_P D vwCl (cw a cI cZ cQ I F) H → va_S (xA 47 a s.heap.size) s.heap H locs → W p l e (headSpec (Cond.code y_Ma_advance b_Ma_advance 4 (some .int) :: TB) { frames := 6, cells := 0, slots := 0, locals := 137 }).room s m ([.ref (a 3), .ref (a 1), .int p2]).toArray below meth c H locs 0 0 (Q) (F0 m 0 ls []) from hM s.heap [] hP va_S.rf
  clear hP
  intro H locs hP hS
  dsimp only [wp_Ma_advance] at hw
  refine lv_iconst (v := 0) hx hb dMa_advance_0 (by decide) ?_
  refine lv_istore_n (lv' := [(3, .int 0), (0, .ref (a 3)), (1, .ref (a 1)), (2, .int p2)]) hx hb dMa_advance_1 rfl hl (by decide) rfl (fun ls hl => ?_)
  obtain ⟨n2, hw⟩ := hw
  exact J2 n2 p2 0 I F H locs ls (lv_sub hl [1, 2, 3, 0] rfl) hP hS hw
def wp_Ou_clear (I : SI) (F : SF) (Post : SI → SF → Prop) : Prop := Post (va_up I 12 0) F
set_option maxHeartbeats 4000000 in
set_option maxRecDepth 100000 in
theorem c_Ou_clear (l : Launch) (D : va_G) (a : Nat → Nat) (cI cZ cQ : ClassId) (hJ : xJ 47 a) (I : SI) (F : SF) (sz : Nat) (Post : SI → SF → Prop) (hw : wp_Ou_clear I F Post) : Met l y_Ou_clear (Cond.code y_Ou_clear b_Ou_clear 1 none :: TB) { frames := 0, cells := 0, slots := 0, locals := 0 } (va_Pc [.ref (a 13)] (cP D a cI cZ cQ I F sz)) (va_Qv (fun (u : SI × SF) => Post u.1 u.2) (fun u t => va_P D vwCl (cw a cI cZ cQ u.1 u.2) t.heap) (xA 47 a sz)) 0 0 (xA 47 a sz) := by
  refine Met.ofW (cc := b_Ou_clear) (maxL := 1) (ret := none) (by decide) rfl ?_
  intro p e s m args below meth c s₁ B hml hv
  obtain ⟨rfl, rfl, hP, hK, hN⟩ := hv
  have hx := B.exec
  have hb := B.bytes
  have hr := B.returns
  have hts : ∀ w ∈ TB, w.before _ s = true := fun w h => atoms_spec (ws := Cond.code y_Ou_clear b_Ou_clear 1 none :: TB) B.pre w (List.mem_cons_of_mem _ h)
  have hown : s.vm.findClass "CodeJudge$Outputs" = some m.cls := findClass_of_methodNamed B.named
  have hlocks := B.notSynchronized
  have hl := lv_entry ([.ref (a 13)]) (n := 1) (Nat.le_of_ble_eq_true rfl)
  rw [lg_entry_eq]
  generalize (lg_sl ([.ref (a 13)]) ++ List.replicate (1 - (lg_sl ([.ref (a 13)])).length) Slot.unset).toArray = ls at hl ⊢
  have hl : lv_has ls 1 [(0, .ref (a 13))] := hl
  suffices hM : ∀ (H : Heap) (locs : List Loc), va_P D vwCl (cw a cI cZ cQ I F) H → va_S (xA 47 a s.heap.size) s.heap H locs → W p l e (headSpec (Cond.code y_Ou_clear b_Ou_clear 1 none :: TB) { frames := 0, cells := 0, slots := 0, locals := 0 }).room s m ([.ref (a 13)]).toArray below meth c H locs 0 0 (MQ below (va_Qv (fun (u : SI × SF) => Post u.1 u.2) (fun u t => va_P D vwCl (cw a cI cZ cQ u.1 u.2) t.heap) (xA 47 a s.heap.size)) ([.ref (a 13)]).toArray s 0 0 (xA 47 a s.heap.size)) (F0 m 0 ls []) from hM s.heap [] hP va_S.rf
  clear hP
  intro H locs hP hS
  dsimp only [wp_Ou_clear] at hw
  refine lv_aload_n hx hb dOu_clear_0 rfl (lv_at hl 0 rfl) ?_
  refine lv_iconst (v := 0) hx hb dOu_clear_1 (by decide) ?_
  refine va_put (D := D) (ci := 5) (v := .int 0) (ty := .int) (C := "CodeJudge$Outputs") (T := T_Ou) (N := 2) hx hb hts in_Ou ty_Ou ok_Ou nm_Ou hown hK hP (cD hJ) hS 13 cw_13 rfl 0 (by decide) (hts (.fieldLink "CodeJudge$Outputs" 13 "CodeJudge$Outputs" "total" "I") tw_1_193) (fun _ h9 => h9) rfl (by decide +kernel) rfl rfl (Nat.le_of_ble_eq_true rfl) dOu_clear_2 (fun H locs hP _ hS => ?_)
  have hP := cwp_12 hP
  exact W.vret hx hb hr (fun t ht hW => ⟨⟨((va_up I 12 0), F), rfl, hw, by subst ht; exact hP⟩, hS.F ht⟩) hS.2.2 dOu_clear_5
def wp_Ma_begin (p1 : Int32) (I : SI) (F : SF) (Post : SI → SF → Prop) : Prop := ∃ P1 : SI → SF → Prop, wp_He_clear (va_up (va_up (va_up (va_up I 1 1) 2 0) 3 0) 4 0) F P1 ∧ ∀ I1 F1, P1 I1 F1 → (∃ P2 : SI → SF → Prop, wp_Ou_clear I1 F1 P2 ∧ ∀ I2 F2, P2 I2 F2 → (∃ P3 : SI → SF → Prop, wp_Fr_enter p1 (va_up I2 9 0) F2 P3 ∧ ∀ I3 F3, P3 I3 F3 → (Post I3 F3)))
set_option maxHeartbeats 4000000 in
set_option maxRecDepth 100000 in
theorem c_Ma_begin (l : Launch) (D : va_G) (a : Nat → Nat) (cI cZ cQ : ClassId) (hJ : xJ 47 a) (I : SI) (F : SF) (p1 : Int32) (sz : Nat) (Post : SI → SF → Prop) (hw : wp_Ma_begin p1 I F Post) : Met l y_Ma_begin (Cond.code y_Ma_begin b_Ma_begin 2 none :: TB) { frames := 1, cells := 0, slots := 0, locals := 22 } (va_Pc [.ref (a 3), .int p1] (cP D a cI cZ cQ I F sz)) (va_Qv (fun (u : SI × SF) => Post u.1 u.2) (fun u t => va_P D vwCl (cw a cI cZ cQ u.1 u.2) t.heap) (xA 47 a sz)) 0 0 (xA 47 a sz) := by
  refine Met.ofW (cc := b_Ma_begin) (maxL := 2) (ret := none) (by decide) rfl ?_
  intro p e s m args below meth c s₁ B hml hv
  obtain ⟨rfl, rfl, hP, hK, hN⟩ := hv
  have hx := B.exec
  have hb := B.bytes
  have hr := B.returns
  have hts : ∀ w ∈ TB, w.before _ s = true := fun w h => atoms_spec (ws := Cond.code y_Ma_begin b_Ma_begin 2 none :: TB) B.pre w (List.mem_cons_of_mem _ h)
  have hown : s.vm.findClass "CodeJudge$Machine" = some m.cls := findClass_of_methodNamed B.named
  have hlocks := B.notSynchronized
  have hl := lv_entry ([.ref (a 3), .int p1]) (n := 2) (Nat.le_of_ble_eq_true rfl)
  rw [lg_entry_eq]
  generalize (lg_sl ([.ref (a 3), .int p1]) ++ List.replicate (2 - (lg_sl ([.ref (a 3), .int p1])).length) Slot.unset).toArray = ls at hl ⊢
  have hl : lv_has ls 2 [(0, .ref (a 3)), (1, .int p1)] := hl
  suffices hM : ∀ (H : Heap) (locs : List Loc), va_P D vwCl (cw a cI cZ cQ I F) H → va_S (xA 47 a s.heap.size) s.heap H locs → W p l e (headSpec (Cond.code y_Ma_begin b_Ma_begin 2 none :: TB) { frames := 1, cells := 0, slots := 0, locals := 22 }).room s m ([.ref (a 3), .int p1]).toArray below meth c H locs 0 0 (MQ below (va_Qv (fun (u : SI × SF) => Post u.1 u.2) (fun u t => va_P D vwCl (cw a cI cZ cQ u.1 u.2) t.heap) (xA 47 a s.heap.size)) ([.ref (a 3), .int p1]).toArray s 0 0 (xA 47 a s.heap.size)) (F0 m 0 ls []) from hM s.heap [] hP va_S.rf
  clear hP
  intro H locs hP hS
  dsimp only [wp_Ma_begin] at hw
  refine lv_aload_n hx hb dMa_begin_0 rfl (lv_at hl 0 rfl) ?_
  refine lv_iconst (v := 1) hx hb dMa_begin_1 (by decide) ?_
  refine va_put (D := D) (ci := 3) (v := .int 1) (ty := .boolean) (C := "CodeJudge$Machine") (T := T_Ma) (N := 7) hx hb hts in_Ma ty_Ma ok_Ma nm_Ma hown hK hP (cD hJ) hS 3 cw_3 rfl 0 (by decide) (hts (.fieldLink "CodeJudge$Machine" 32 "CodeJudge$Machine" "there" "Z") tw_1_201) (fun _ h9 => h9) rfl (by decide +kernel) rfl rfl (Nat.le_of_ble_eq_true rfl) dMa_begin_2 (fun H locs hP _ hS => ?_)
  have hP := cwp_1 hP
  refine lv_aload_n hx hb dMa_begin_5 rfl (lv_at hl 0 rfl) ?_
  refine lv_iconst (v := 0) hx hb dMa_begin_6 (by decide) ?_
  refine va_put (D := D) (ci := 3) (v := .int 0) (ty := .int) (C := "CodeJudge$Machine") (T := T_Ma) (N := 7) hx hb hts in_Ma ty_Ma ok_Ma nm_Ma hown hK hP (cD hJ) hS 3 cw_3 rfl 4 (by decide) (hts (.fieldLink "CodeJudge$Machine" 36 "CodeJudge$Machine" "outcome" "I") tw_1_209) (fun _ h9 => h9) rfl (by decide +kernel) rfl rfl (Nat.le_of_ble_eq_true rfl) dMa_begin_7 (fun H locs hP _ hS => ?_)
  have hP := cwp_2 hP
  refine lv_aload_n hx hb dMa_begin_10 rfl (lv_at hl 0 rfl) ?_
  refine lv_iconst (v := 0) hx hb dMa_begin_11 (by decide) ?_
  refine va_put (D := D) (ci := 3) (v := .int 0) (ty := .int) (C := "CodeJudge$Machine") (T := T_Ma) (N := 7) hx hb hts in_Ma ty_Ma ok_Ma nm_Ma hown hK hP (cD hJ) hS 3 cw_3 rfl 5 (by decide) (hts (.fieldLink "CodeJudge$Machine" 40 "CodeJudge$Machine" "steps" "I") tw_1_210) (fun _ h9 => h9) rfl (by decide +kernel) rfl rfl (Nat.le_of_ble_eq_true rfl) dMa_begin_12 (fun H locs hP _ hS => ?_)
  have hP := cwp_3 hP
  refine lv_aload_n hx hb dMa_begin_15 rfl (lv_at hl 0 rfl) ?_
  refine lv_iconst (v := 0) hx hb dMa_begin_16 (by decide) ?_
  refine va_put (D := D) (ci := 3) (v := .int 0) (ty := .int) (C := "CodeJudge$Machine") (T := T_Ma) (N := 7) hx hb hts in_Ma ty_Ma ok_Ma nm_Ma hown hK hP (cD hJ) hS 3 cw_3 rfl 6 (by decide) (hts (.fieldLink "CodeJudge$Machine" 43 "CodeJudge$Machine" "returned" "I") tw_1_211) (fun _ h9 => h9) rfl (by decide +kernel) rfl rfl (Nat.le_of_ble_eq_true rfl) dMa_begin_17 (fun H locs hP _ hS => ?_)
  have hP := cwp_4 hP
  refine lv_aload_n hx hb dMa_begin_20 rfl (lv_at hl 0 rfl) ?_
  refine va_get (D := D) (v := .ref (a 12)) (ci := 3) (C := "CodeJudge$Machine") (T := T_Ma) (N := 7) hx hb hts in_Ma hown hK hP 3 cw_3 rfl 2 (by decide) (hts (.fieldLink "CodeJudge$Machine" 21 "CodeJudge$Machine" "heap" "LCodeJudge$Heap;") tw_1_205) (fun _ h9 => h9) rfl dMa_begin_21 ?_
  obtain ⟨P1, hc1, hw⟩ := hw
  refine cc_v (va_runV (As := []) (rest := []) ⟨hx, hb, hml, hown, hts⟩ (c_He_clear l D a cI cZ cQ hJ (va_up (va_up (va_up (va_up I 1 1) 2 0) 3 0) 4 0) F H.size P1 hc1) (cwV 0 hts (tb_V (C := "CodeJudge$Heap") wc_He_clear tw_3_71 tw_3_72 tw_3_73 tw_1_7) rfl rfl rfl (by decide +kernel) ⟨Nat.le_of_ble_eq_true rfl, Nat.le_of_ble_eq_true rfl⟩) ⟨cP_bl, va_recv hK hP rfl cw_12, cP_at hP hK hN⟩ rfl rfl hl.1 rfl (lv_room (Nat.le_of_ble_eq_true rfl)) dMa_begin_24 ⟨Nat.le_of_ble_eq_true rfl, Nat.le_of_ble_eq_true rfl⟩) hS (fun I1 F1 H locs hP hp1 hS => ?_)
  have hw := hw I1 F1 hp1
  refine lv_aload_n hx hb dMa_begin_27 rfl (lv_at hl 0 rfl) ?_
  refine va_get (D := D) (v := .ref (a 13)) (ci := 3) (C := "CodeJudge$Machine") (T := T_Ma) (N := 7) hx hb hts in_Ma hown hK hP 3 cw_3 rfl 3 (by decide) (hts (.fieldLink "CodeJudge$Machine" 28 "CodeJudge$Machine" "outputs" "LCodeJudge$Outputs;") tw_1_207) (fun _ h9 => h9) rfl dMa_begin_28 ?_
  obtain ⟨P2, hc2, hw⟩ := hw
  refine cc_v (va_runV (As := []) (rest := []) ⟨hx, hb, hml, hown, hts⟩ (c_Ou_clear l D a cI cZ cQ hJ I1 F1 H.size P2 hc2) (cwV 0 hts (tb_V (C := "CodeJudge$Outputs") wc_Ou_clear tw_3_75 tw_3_76 tw_3_77 tw_1_8) rfl rfl rfl (by decide +kernel) ⟨Nat.le_of_ble_eq_true rfl, Nat.le_of_ble_eq_true rfl⟩) ⟨cP_bl, va_recv hK hP rfl cw_13, cP_at hP hK hN⟩ rfl rfl hl.1 rfl (lv_room (Nat.le_of_ble_eq_true rfl)) dMa_begin_31 ⟨Nat.le_of_ble_eq_true rfl, Nat.le_of_ble_eq_true rfl⟩) hS (fun I2 F2 H locs hP hp2 hS => ?_)
  have hw := hw I2 F2 hp2
  refine lv_aload_n hx hb dMa_begin_34 rfl (lv_at hl 0 rfl) ?_
  refine va_get (D := D) (v := .ref (a 11)) (ci := 3) (C := "CodeJudge$Machine") (T := T_Ma) (N := 7) hx hb hts in_Ma hown hK hP 3 cw_3 rfl 1 (by decide) (hts (.fieldLink "CodeJudge$Machine" 12 "CodeJudge$Machine" "frames" "LCodeJudge$Frames;") tw_1_203) (fun _ h9 => h9) rfl dMa_begin_35 ?_
  refine lv_iconst (v := 0) hx hb dMa_begin_38 (by decide) ?_
  refine va_put (D := D) (ci := 0) (v := .int 0) (ty := .int) (C := "CodeJudge$Frames") (T := T_Fr) (N := 6) hx hb hts in_Fr ty_Fr ok_Fr nm_Fr hown hK hP (cD hJ) hS 11 cw_11 rfl 0 (by decide) (hts (.fieldLink "CodeJudge$Machine" 50 "CodeJudge$Frames" "open" "I") tw_1_143) (fun _ h9 => h9) rfl (by decide +kernel) rfl rfl (Nat.le_of_ble_eq_true rfl) dMa_begin_39 (fun H locs hP _ hS => ?_)
  have hP := cwp_9 hP
  refine lv_aload_n hx hb dMa_begin_42 rfl (lv_at hl 0 rfl) ?_
  refine va_get (D := D) (v := .ref (a 11)) (ci := 3) (C := "CodeJudge$Machine") (T := T_Ma) (N := 7) hx hb hts in_Ma hown hK hP 3 cw_3 rfl 1 (by decide) (hts (.fieldLink "CodeJudge$Machine" 12 "CodeJudge$Machine" "frames" "LCodeJudge$Frames;") tw_1_203) (fun _ h9 => h9) rfl dMa_begin_43 ?_
  refine lv_iload_n hx hb dMa_begin_46 rfl (lv_at hl 1 rfl) ?_
  obtain ⟨P3, hc3, hw⟩ := hw
  refine cc_v (va_runV (As := [.int p1]) (rest := []) ⟨hx, hb, hml, hown, hts⟩ (c_Fr_enter l D a cI cZ cQ hJ (va_up I2 9 0) F2 p1 H.size P3 hc3) (cwV 1 hts (tb_V (C := "CodeJudge$Frames") wc_Fr_enter tw_3_79 tw_3_80 tw_3_81 tw_1_6) rfl rfl rfl (by decide +kernel) ⟨Nat.le_of_ble_eq_true rfl, Nat.le_of_ble_eq_true rfl⟩) ⟨cP_bl, va_recv hK hP rfl cw_11, cP_at hP hK hN⟩ rfl rfl hl.1 rfl (lv_room (Nat.le_of_ble_eq_true rfl)) dMa_begin_47 ⟨Nat.le_of_ble_eq_true rfl, Nat.le_of_ble_eq_true rfl⟩) hS (fun I3 F3 H locs hP hp3 hS => ?_)
  have hw := hw I3 F3 hp3
  exact W.vret hx hb hr (fun t ht hW => ⟨⟨(I3, F3), rfl, hw, by subst ht; exact hP⟩, hS.F ht⟩) hS.2.2 dMa_begin_50
def wp_Ma_forget (I : SI) (F : SF) (Post : SI → SF → Prop) : Prop := Post (va_up I 1 0) F
set_option maxHeartbeats 4000000 in
set_option maxRecDepth 100000 in
theorem c_Ma_forget (l : Launch) (D : va_G) (a : Nat → Nat) (cI cZ cQ : ClassId) (hJ : xJ 47 a) (I : SI) (F : SF) (sz : Nat) (Post : SI → SF → Prop) (hw : wp_Ma_forget I F Post) : Met l y_Ma_forget (Cond.code y_Ma_forget b_Ma_forget 1 none :: TB) { frames := 0, cells := 0, slots := 0, locals := 0 } (va_Pc [.ref (a 3)] (cP D a cI cZ cQ I F sz)) (va_Qv (fun (u : SI × SF) => Post u.1 u.2) (fun u t => va_P D vwCl (cw a cI cZ cQ u.1 u.2) t.heap) (xA 47 a sz)) 0 0 (xA 47 a sz) := by
  refine Met.ofW (cc := b_Ma_forget) (maxL := 1) (ret := none) (by decide) rfl ?_
  intro p e s m args below meth c s₁ B hml hv
  obtain ⟨rfl, rfl, hP, hK, hN⟩ := hv
  have hx := B.exec
  have hb := B.bytes
  have hr := B.returns
  have hts : ∀ w ∈ TB, w.before _ s = true := fun w h => atoms_spec (ws := Cond.code y_Ma_forget b_Ma_forget 1 none :: TB) B.pre w (List.mem_cons_of_mem _ h)
  have hown : s.vm.findClass "CodeJudge$Machine" = some m.cls := findClass_of_methodNamed B.named
  have hlocks := B.notSynchronized
  have hl := lv_entry ([.ref (a 3)]) (n := 1) (Nat.le_of_ble_eq_true rfl)
  rw [lg_entry_eq]
  generalize (lg_sl ([.ref (a 3)]) ++ List.replicate (1 - (lg_sl ([.ref (a 3)])).length) Slot.unset).toArray = ls at hl ⊢
  have hl : lv_has ls 1 [(0, .ref (a 3))] := hl
  suffices hM : ∀ (H : Heap) (locs : List Loc), va_P D vwCl (cw a cI cZ cQ I F) H → va_S (xA 47 a s.heap.size) s.heap H locs → W p l e (headSpec (Cond.code y_Ma_forget b_Ma_forget 1 none :: TB) { frames := 0, cells := 0, slots := 0, locals := 0 }).room s m ([.ref (a 3)]).toArray below meth c H locs 0 0 (MQ below (va_Qv (fun (u : SI × SF) => Post u.1 u.2) (fun u t => va_P D vwCl (cw a cI cZ cQ u.1 u.2) t.heap) (xA 47 a s.heap.size)) ([.ref (a 3)]).toArray s 0 0 (xA 47 a s.heap.size)) (F0 m 0 ls []) from hM s.heap [] hP va_S.rf
  clear hP
  intro H locs hP hS
  dsimp only [wp_Ma_forget] at hw
  refine lv_aload_n hx hb dMa_forget_0 rfl (lv_at hl 0 rfl) ?_
  refine lv_iconst (v := 0) hx hb dMa_forget_1 (by decide) ?_
  refine va_put (D := D) (ci := 3) (v := .int 0) (ty := .boolean) (C := "CodeJudge$Machine") (T := T_Ma) (N := 7) hx hb hts in_Ma ty_Ma ok_Ma nm_Ma hown hK hP (cD hJ) hS 3 cw_3 rfl 0 (by decide) (hts (.fieldLink "CodeJudge$Machine" 32 "CodeJudge$Machine" "there" "Z") tw_1_201) (fun _ h9 => h9) rfl (by decide +kernel) rfl rfl (Nat.le_of_ble_eq_true rfl) dMa_forget_2 (fun H locs hP _ hS => ?_)
  have hP := cwp_1 hP
  exact W.vret hx hb hr (fun t ht hW => ⟨⟨((va_up I 1 0), F), rfl, hw, by subst ht; exact hP⟩, hS.F ht⟩) hS.2.2 dMa_forget_5
def wp_Ma_give_33 (Post : SI → SF → Prop) (s0 : Int32) (s1 : Int32) (I : SI) (F : SF) : Prop := ∃ P4 : SI → SF → Prop, wp_Fr_setLocal s1 s0 I F P4 ∧ ∀ I4 F4, P4 I4 F4 → (Post I4 F4)
def wp_Ma_give (k1 : Nat) (p2 : Int32) (p3 : Int32) (I : SI) (F : SF) (Post : SI → SF → Prop) : Prop := ((I (21 + 10 * k1)) ≤ p2 → (Post I F)) ∧ (¬ (I (21 + 10 * k1)) ≤ p2 → (∃ P2 : Int32 → SI → SF → Prop, wp_Me_takesArray k1 p2 I F P2 ∧ ∀ r2 I2 F2, P2 r2 I2 F2 → ((r2 = 0 → (wp_Ma_give_33 Post p3 p2 I2 F2)) ∧ (¬ r2 = 0 → (∃ P5 : Int32 → SI → SF → Prop, wp_He_make p3 I2 F2 P5 ∧ ∀ r5 I5 F5, P5 r5 I5 F5 → (wp_Ma_give_33 Post r5 p2 I5 F5))))))
set_option maxHeartbeats 4000000 in
set_option maxRecDepth 100000 in
theorem c_Ma_give (l : Launch) (D : va_G) (a : Nat → Nat) (cI cZ cQ : ClassId) (hJ : xJ 47 a) (I : SI) (F : SF) (k1 : Nat) (p2 : Int32) (p3 : Int32) (hk1 : k1 < 8) (sz : Nat) (Post : SI → SF → Prop) (hw : wp_Ma_give k1 p2 p3 I F Post) : Met l y_Ma_give (Cond.code y_Ma_give b_Ma_give 4 none :: TB) { frames := 2, cells := 0, slots := 0, locals := 43 } (va_Pc [.ref (a 3), .ref (a (23 + 3 * k1)), .int p2, .int p3] (cP D a cI cZ cQ I F sz)) (va_Qv (fun (u : SI × SF) => Post u.1 u.2) (fun u t => va_P D vwCl (cw a cI cZ cQ u.1 u.2) t.heap) (xA 47 a sz)) 0 0 (xA 47 a sz) := by
  refine Met.ofW (cc := b_Ma_give) (maxL := 4) (ret := none) (by decide) rfl ?_
  intro p e s m args below meth c s₁ B hml hv
  obtain ⟨rfl, rfl, hP, hK, hN⟩ := hv
  have hx := B.exec
  have hb := B.bytes
  have hr := B.returns
  have hts : ∀ w ∈ TB, w.before _ s = true := fun w h => atoms_spec (ws := Cond.code y_Ma_give b_Ma_give 4 none :: TB) B.pre w (List.mem_cons_of_mem _ h)
  have hown : s.vm.findClass "CodeJudge$Machine" = some m.cls := findClass_of_methodNamed B.named
  have hlocks := B.notSynchronized
  have hl := lv_entry ([.ref (a 3), .ref (a (23 + 3 * k1)), .int p2, .int p3]) (n := 4) (Nat.le_of_ble_eq_true rfl)
  rw [lg_entry_eq]
  generalize (lg_sl ([.ref (a 3), .ref (a (23 + 3 * k1)), .int p2, .int p3]) ++ List.replicate (4 - (lg_sl ([.ref (a 3), .ref (a (23 + 3 * k1)), .int p2, .int p3])).length) Slot.unset).toArray = ls at hl ⊢
  have hl : lv_has ls 4 [(0, .ref (a 3)), (1, .ref (a (23 + 3 * k1))), (2, .int p2), (3, .int p3)] := hl
  obtain ⟨Q, hQ⟩ : ∃ Q, Q = MQ below (va_Qv (fun (u : SI × SF) => Post u.1 u.2) (fun u t => va_P D vwCl (cw a cI cZ cQ u.1 u.2) t.heap) (xA 47 a s.heap.size)) ([.ref (a 3), .ref (a (23 + 3 * k1)), .int p2, .int p3]).toArray s 0 0 (xA 47 a s.heap.size) := ⟨_, rfl⟩
  rw [← hQ]
  have J33 : ∀ (s0 : Int32) (s1 : Int32) (I : SI) (F : SF) (H : Heap) (locs : List Loc) (ls : Array Slot), lv_has ls 4 [] → va_P D vwCl (cw a cI cZ cQ I F) H → va_S (xA 47 a s.heap.size) s.heap H locs → wp_Ma_give_33 Post s0 s1 I F → W p l e (headSpec (Cond.code y_Ma_give b_Ma_give 4 none :: TB) { frames := 2, cells := 0, slots := 0, locals := 43 }).room s m ([.ref (a 3), .ref (a (23 + 3 * k1)), .int p2, .int p3]).toArray below meth c H locs 0 0 Q (F0 m 33 ls [.int s0, .int s1, .ref (a 11)]) := by
    intro s0 s1 I F H locs ls hl hP hS hw
    dsimp only [wp_Ma_give_33] at hw
    obtain ⟨P4, hc4, hw⟩ := hw
    refine cc_v (va_runV (As := [.int s1, .int s0]) (rest := []) ⟨hx, hb, hml, hown, hts⟩ (c_Fr_setLocal l D a cI cZ cQ hJ I F s1 s0 H.size P4 hc4) (cwV 2 hts (tb_V (C := "CodeJudge$Frames") wc_Fr_setLocal tw_3_96 tw_3_97 tw_3_98 tw_1_6) rfl rfl rfl (by decide +kernel) ⟨Nat.le_of_ble_eq_true rfl, Nat.le_of_ble_eq_true rfl⟩) ⟨cP_bl, va_recv hK hP rfl cw_11, cP_at hP hK hN⟩ rfl rfl hl.1 rfl (lv_room (Nat.le_of_ble_eq_true rfl)) dMa_give_33 ⟨Nat.le_of_ble_eq_true rfl, Nat.le_of_ble_eq_true rfl⟩) hS (fun I4 F4 H locs hP hp4 hS => ?_)
    have hw := hw I4 F4 hp4
    rw [hQ]
    exact W.vret hx hb hr (fun t ht hW => ⟨⟨(I4, F4), rfl, hw, by subst ht; exact hP⟩, hS.F ht⟩) hS.2.2 dMa_give_36
  suffices hM : ∀ (H : Heap) (locs : List Loc), va_P D vwCl (cw a cI cZ cQ I F) H → va_S (xA 47 a s.heap.size) s.heap H locs → W p l e (headSpec (Cond.code y_Ma_give b_Ma_give 4 none :: TB) { frames := 2, cells := 0, slots := 0, locals := 43 }).room s m ([.ref (a 3), .ref (a (23 + 3 * k1)), .int p2, .int p3]).toArray below meth c H locs 0 0 (Q) (F0 m 0 ls []) from hM s.heap [] hP va_S.rf
  clear hP
  intro H locs hP hS
  dsimp only [wp_Ma_give] at hw
  refine lv_iload_n hx hb dMa_give_0 rfl (lv_at hl 2 rfl) ?_
  refine lv_aload_n hx hb dMa_give_1 rfl (lv_at hl 1 rfl) ?_
  refine va_get (D := D) (v := .int (I (21 + 10 * k1))) (ci := 4) (C := "CodeJudge$Method") (T := T_Me) (N := 9) hx hb hts in_Me hown hK hP (23 + 3 * k1) (cw_M hk1) rfl 1 (by decide) (hts (.fieldLink "CodeJudge$Machine" 57 "CodeJudge$Method" "parameters" "I") tw_1_39) (fun _ h9 => h9) rfl dMa_give_2 ?_
  refine lv_icmp_ge (tgt := 36) hx hb dMa_give_5 (by decide) (fun h1 => ?_) (fun h1 => ?_)
  · have hw := hw.1 h1
    rw [hQ]
    exact W.vret hx hb hr (fun t ht hW => ⟨⟨(I, F), rfl, hw, by subst ht; exact hP⟩, hS.F ht⟩) hS.2.2 dMa_give_36
  · have hw := hw.2 h1
    refine lv_aload_n hx hb dMa_give_8 rfl (lv_at hl 0 rfl) ?_
    refine va_get (D := D) (v := .ref (a 11)) (ci := 3) (C := "CodeJudge$Machine") (T := T_Ma) (N := 7) hx hb hts in_Ma hown hK hP 3 cw_3 rfl 1 (by decide) (hts (.fieldLink "CodeJudge$Machine" 12 "CodeJudge$Machine" "frames" "LCodeJudge$Frames;") tw_1_203) (fun _ h9 => h9) rfl dMa_give_9 ?_
    refine lv_iload_n hx hb dMa_give_12 rfl (lv_at hl 2 rfl) ?_
    refine lv_aload_n hx hb dMa_give_13 rfl (lv_at hl 1 rfl) ?_
    refine lv_iload_n hx hb dMa_give_14 rfl (lv_at hl 2 rfl) ?_
    obtain ⟨P2, hc2, hw⟩ := hw
    refine cc_i (va_runV (As := [.int p2]) (rest := [.int p2, .ref (a 11)]) ⟨hx, hb, hml, hown, hts⟩ (c_Me_takesArray l D a cI cZ cQ hJ I F k1 p2 hk1 H.size P2 hc2) (cwV 1 hts (tb_V (C := "CodeJudge$Method") wc_Me_takesArray tw_3_87 tw_3_52 tw_3_53 tw_1_2) rfl rfl rfl (by decide +kernel) ⟨Nat.le_of_ble_eq_true rfl, Nat.le_of_ble_eq_true rfl⟩) ⟨cP_bl, va_recv hK hP rfl (cw_M hk1), cP_at hP hK hN⟩ rfl rfl hl.1 rfl (lv_room (Nat.le_of_ble_eq_true rfl)) dMa_give_15 ⟨Nat.le_of_ble_eq_true rfl, Nat.le_of_ble_eq_true rfl⟩) hS (fun r2 I2 F2 H locs hP hp2 hS => ?_)
    have hw := hw r2 I2 F2 hp2
    refine lv_if_eq (tgt := 32) hx hb dMa_give_18 (by decide) (fun h3 => ?_) (fun h3 => ?_)
    · have hw := hw.1 h3
      refine lv_iload_n hx hb dMa_give_32 rfl (lv_at hl 3 rfl) ?_
      exact J33 p3 p2 I2 F2 H locs ls (lv_sub hl [] rfl) hP hS hw
    · have hw := hw.2 h3
      refine lv_aload_n hx hb dMa_give_21 rfl (lv_at hl 0 rfl) ?_
      refine va_get (D := D) (v := .ref (a 12)) (ci := 3) (C := "CodeJudge$Machine") (T := T_Ma) (N := 7) hx hb hts in_Ma hown hK hP 3 cw_3 rfl 2 (by decide) (hts (.fieldLink "CodeJudge$Machine" 21 "CodeJudge$Machine" "heap" "LCodeJudge$Heap;") tw_1_205) (fun _ h9 => h9) rfl dMa_give_22 ?_
      refine lv_iload_n hx hb dMa_give_25 rfl (lv_at hl 3 rfl) ?_
      obtain ⟨P5, hc5, hw⟩ := hw
      refine cc_i (va_runV (As := [.int p3]) (rest := [.int p2, .ref (a 11)]) ⟨hx, hb, hml, hown, hts⟩ (c_He_make l D a cI cZ cQ hJ I2 F2 p3 H.size P5 hc5) (cwV 1 hts (tb_V (C := "CodeJudge$Heap") wc_He_make tw_3_88 tw_3_89 tw_3_90 tw_1_7) rfl rfl rfl (by decide +kernel) ⟨Nat.le_of_ble_eq_true rfl, Nat.le_of_ble_eq_true rfl⟩) ⟨cP_bl, va_recv hK hP rfl cw_12, cP_at hP hK hN⟩ rfl rfl hl.1 rfl (lv_room (Nat.le_of_ble_eq_true rfl)) dMa_give_26 ⟨Nat.le_of_ble_eq_true rfl, Nat.le_of_ble_eq_true rfl⟩) hS (fun r5 I5 F5 H locs hP hp5 hS => ?_)
      have hw := hw r5 I5 F5 hp5
      refine lv_goto (tgt := 33) hx hb dMa_give_29 (by decide) ?_
      exact J33 r5 p2 I5 F5 H locs ls (lv_sub hl [] rfl) hP hS hw
def wp_Ma_tell (p1 : Int32) (I : SI) (F : SF) (Post : Int32 → SI → SF → Prop) : Prop := (p1 = 0 → (Post (I 2) I F)) ∧ (p1 = 1 → (Post (I 3) I F)) ∧ (p1 = 2 → (Post (I 9) I F)) ∧ (p1 = 3 → (∃ P2 : Int32 → SI → SF → Prop, wp_Fr_upperMethod I F P2 ∧ ∀ r2 I2 F2, P2 r2 I2 F2 → (Post r2 I2 F2))) ∧ (p1 = 4 → (∃ P3 : Int32 → SI → SF → Prop, wp_Fr_upperPlace I F P3 ∧ ∀ r3 I3 F3, P3 r3 I3 F3 → (Post r3 I3 F3))) ∧ (p1 = 5 → (Post (I 4) I F)) ∧ (p1 = 6 → (Post (I 10) I F)) ∧ (p1 = 7 → (Post (I 11) I F)) ∧ ((¬ p1 = 0 ∧ ¬ p1 = 1 ∧ ¬ p1 = 2 ∧ ¬ p1 = 3 ∧ ¬ p1 = 4 ∧ ¬ p1 = 5 ∧ ¬ p1 = 6 ∧ ¬ p1 = 7) → (Post (I 12) I F))
set_option maxHeartbeats 4000000 in
set_option maxRecDepth 100000 in
theorem c_Ma_tell (l : Launch) (D : va_G) (a : Nat → Nat) (cI cZ cQ : ClassId) (hJ : xJ 47 a) (I : SI) (F : SF) (p1 : Int32) (sz : Nat) (Post : Int32 → SI → SF → Prop) (hw : wp_Ma_tell p1 I F Post) : Met l y_Ma_tell (Cond.code y_Ma_tell b_Ma_tell 2 (some .int) :: TB) { frames := 1, cells := 0, slots := 0, locals := 20 } (va_Pc [.ref (a 3), .int p1] (cP D a cI cZ cQ I F sz)) (va_Qi (fun r (u : SI × SF) => Post r u.1 u.2) (fun u t => va_P D vwCl (cw a cI cZ cQ u.1 u.2) t.heap) (xA 47 a sz)) 0 0 (xA 47 a sz) := by
  refine Met.ofW (cc := b_Ma_tell) (maxL := 2) (ret := (some .int)) (by decide) rfl ?_
  intro p e s m args below meth c s₁ B hml hv
  obtain ⟨rfl, rfl, hP, hK, hN⟩ := hv
  have hx := B.exec
  have hb := B.bytes
  have hr := B.returns
  have hts : ∀ w ∈ TB, w.before _ s = true := fun w h => atoms_spec (ws := Cond.code y_Ma_tell b_Ma_tell 2 (some .int) :: TB) B.pre w (List.mem_cons_of_mem _ h)
  have hown : s.vm.findClass "CodeJudge$Machine" = some m.cls := findClass_of_methodNamed B.named
  have hlocks := B.notSynchronized
  have hl := lv_entry ([.ref (a 3), .int p1]) (n := 2) (Nat.le_of_ble_eq_true rfl)
  rw [lg_entry_eq]
  generalize (lg_sl ([.ref (a 3), .int p1]) ++ List.replicate (2 - (lg_sl ([.ref (a 3), .int p1])).length) Slot.unset).toArray = ls at hl ⊢
  have hl : lv_has ls 2 [(0, .ref (a 3)), (1, .int p1)] := hl
  suffices hM : ∀ (H : Heap) (locs : List Loc), va_P D vwCl (cw a cI cZ cQ I F) H → va_S (xA 47 a s.heap.size) s.heap H locs → W p l e (headSpec (Cond.code y_Ma_tell b_Ma_tell 2 (some .int) :: TB) { frames := 1, cells := 0, slots := 0, locals := 20 }).room s m ([.ref (a 3), .int p1]).toArray below meth c H locs 0 0 (MQ below (va_Qi (fun r (u : SI × SF) => Post r u.1 u.2) (fun u t => va_P D vwCl (cw a cI cZ cQ u.1 u.2) t.heap) (xA 47 a s.heap.size)) ([.ref (a 3), .int p1]).toArray s 0 0 (xA 47 a s.heap.size)) (F0 m 0 ls []) from hM s.heap [] hP va_S.rf
  clear hP
  intro H locs hP hS
  dsimp only [wp_Ma_tell] at hw
  refine lv_iload_n hx hb dMa_tell_0 rfl (lv_at hl 1 rfl) ?_
  refine sw_Ma_tell_1 hx hb (fun h1 => ?_) (fun h1 => ?_) (fun h1 => ?_) (fun h1 => ?_) (fun h1 => ?_) (fun h1 => ?_) (fun h1 => ?_) (fun h1 => ?_) (fun h1 => ?_)
  · have hw := hw.1 h1
    refine lv_aload_n hx hb dMa_tell_48 rfl (lv_at hl 0 rfl) ?_
    refine va_get (D := D) (v := .int (I 2)) (ci := 3) (C := "CodeJudge$Machine") (T := T_Ma) (N := 7) hx hb hts in_Ma hown hK hP 3 cw_3 rfl 4 (by decide) (hts (.fieldLink "CodeJudge$Machine" 36 "CodeJudge$Machine" "outcome" "I") tw_1_209) (fun _ h9 => h9) rfl dMa_tell_49 ?_
    exact W.iret (v := (I 2)) hx hb hr (fun t ht hW => ⟨⟨(I 2), (I, F), rfl, hw, by subst ht; exact hP⟩, hS.F ht⟩) hS.2.2 dMa_tell_52
  · have hw := hw.2.1 h1
    refine lv_aload_n hx hb dMa_tell_53 rfl (lv_at hl 0 rfl) ?_
    refine va_get (D := D) (v := .int (I 3)) (ci := 3) (C := "CodeJudge$Machine") (T := T_Ma) (N := 7) hx hb hts in_Ma hown hK hP 3 cw_3 rfl 5 (by decide) (hts (.fieldLink "CodeJudge$Machine" 40 "CodeJudge$Machine" "steps" "I") tw_1_210) (fun _ h9 => h9) rfl dMa_tell_54 ?_
    exact W.iret (v := (I 3)) hx hb hr (fun t ht hW => ⟨⟨(I 3), (I, F), rfl, hw, by subst ht; exact hP⟩, hS.F ht⟩) hS.2.2 dMa_tell_57
  · have hw := hw.2.2.1 h1
    refine lv_aload_n hx hb dMa_tell_58 rfl (lv_at hl 0 rfl) ?_
    refine va_get (D := D) (v := .ref (a 11)) (ci := 3) (C := "CodeJudge$Machine") (T := T_Ma) (N := 7) hx hb hts in_Ma hown hK hP 3 cw_3 rfl 1 (by decide) (hts (.fieldLink "CodeJudge$Machine" 12 "CodeJudge$Machine" "frames" "LCodeJudge$Frames;") tw_1_203) (fun _ h9 => h9) rfl dMa_tell_59 ?_
    refine va_get (D := D) (v := .int (I 9)) (ci := 0) (C := "CodeJudge$Frames") (T := T_Fr) (N := 6) hx hb hts in_Fr hown hK hP 11 cw_11 rfl 0 (by decide) (hts (.fieldLink "CodeJudge$Machine" 50 "CodeJudge$Frames" "open" "I") tw_1_143) (fun _ h9 => h9) rfl dMa_tell_62 ?_
    exact W.iret (v := (I 9)) hx hb hr (fun t ht hW => ⟨⟨(I 9), (I, F), rfl, hw, by subst ht; exact hP⟩, hS.F ht⟩) hS.2.2 dMa_tell_65
  · have hw := hw.2.2.2.1 h1
    refine lv_aload_n hx hb dMa_tell_66 rfl (lv_at hl 0 rfl) ?_
    refine va_get (D := D) (v := .ref (a 11)) (ci := 3) (C := "CodeJudge$Machine") (T := T_Ma) (N := 7) hx hb hts in_Ma hown hK hP 3 cw_3 rfl 1 (by decide) (hts (.fieldLink "CodeJudge$Machine" 12 "CodeJudge$Machine" "frames" "LCodeJudge$Frames;") tw_1_203) (fun _ h9 => h9) rfl dMa_tell_67 ?_
    obtain ⟨P2, hc2, hw⟩ := hw
    refine cc_i (va_runV (As := []) (rest := []) ⟨hx, hb, hml, hown, hts⟩ (c_Fr_upperMethod l D a cI cZ cQ hJ I F H.size P2 hc2) (cwV 0 hts (tb_V (C := "CodeJudge$Frames") wc_Fr_upperMethod tw_3_120 tw_3_121 tw_3_122 tw_1_6) rfl rfl rfl (by decide +kernel) ⟨Nat.le_of_ble_eq_true rfl, Nat.le_of_ble_eq_true rfl⟩) ⟨cP_bl, va_recv hK hP rfl cw_11, cP_at hP hK hN⟩ rfl rfl hl.1 rfl (lv_room (Nat.le_of_ble_eq_true rfl)) dMa_tell_70 ⟨Nat.le_of_ble_eq_true rfl, Nat.le_of_ble_eq_true rfl⟩) hS (fun r2 I2 F2 H locs hP hp2 hS => ?_)
    have hw := hw r2 I2 F2 hp2
    exact W.iret (v := r2) hx hb hr (fun t ht hW => ⟨⟨r2, (I2, F2), rfl, hw, by subst ht; exact hP⟩, hS.F ht⟩) hS.2.2 dMa_tell_73
  · have hw := hw.2.2.2.2.1 h1
    refine lv_aload_n hx hb dMa_tell_74 rfl (lv_at hl 0 rfl) ?_
    refine va_get (D := D) (v := .ref (a 11)) (ci := 3) (C := "CodeJudge$Machine") (T := T_Ma) (N := 7) hx hb hts in_Ma hown hK hP 3 cw_3 rfl 1 (by decide) (hts (.fieldLink "CodeJudge$Machine" 12 "CodeJudge$Machine" "frames" "LCodeJudge$Frames;") tw_1_203) (fun _ h9 => h9) rfl dMa_tell_75 ?_
    obtain ⟨P3, hc3, hw⟩ := hw
    refine cc_i (va_runV (As := []) (rest := []) ⟨hx, hb, hml, hown, hts⟩ (c_Fr_upperPlace l D a cI cZ cQ hJ I F H.size P3 hc3) (cwV 0 hts (tb_V (C := "CodeJudge$Frames") wc_Fr_upperPlace tw_3_125 tw_3_126 tw_3_127 tw_1_6) rfl rfl rfl (by decide +kernel) ⟨Nat.le_of_ble_eq_true rfl, Nat.le_of_ble_eq_true rfl⟩) ⟨cP_bl, va_recv hK hP rfl cw_11, cP_at hP hK hN⟩ rfl rfl hl.1 rfl (lv_room (Nat.le_of_ble_eq_true rfl)) dMa_tell_78 ⟨Nat.le_of_ble_eq_true rfl, Nat.le_of_ble_eq_true rfl⟩) hS (fun r3 I3 F3 H locs hP hp3 hS => ?_)
    have hw := hw r3 I3 F3 hp3
    exact W.iret (v := r3) hx hb hr (fun t ht hW => ⟨⟨r3, (I3, F3), rfl, hw, by subst ht; exact hP⟩, hS.F ht⟩) hS.2.2 dMa_tell_81
  · have hw := hw.2.2.2.2.2.1 h1
    refine lv_aload_n hx hb dMa_tell_82 rfl (lv_at hl 0 rfl) ?_
    refine va_get (D := D) (v := .int (I 4)) (ci := 3) (C := "CodeJudge$Machine") (T := T_Ma) (N := 7) hx hb hts in_Ma hown hK hP 3 cw_3 rfl 6 (by decide) (hts (.fieldLink "CodeJudge$Machine" 43 "CodeJudge$Machine" "returned" "I") tw_1_211) (fun _ h9 => h9) rfl dMa_tell_83 ?_
    exact W.iret (v := (I 4)) hx hb hr (fun t ht hW => ⟨⟨(I 4), (I, F), rfl, hw, by subst ht; exact hP⟩, hS.F ht⟩) hS.2.2 dMa_tell_86
  · have hw := hw.2.2.2.2.2.2.1 h1
    refine lv_aload_n hx hb dMa_tell_87 rfl (lv_at hl 0 rfl) ?_
    refine va_get (D := D) (v := .ref (a 12)) (ci := 3) (C := "CodeJudge$Machine") (T := T_Ma) (N := 7) hx hb hts in_Ma hown hK hP 3 cw_3 rfl 2 (by decide) (hts (.fieldLink "CodeJudge$Machine" 21 "CodeJudge$Machine" "heap" "LCodeJudge$Heap;") tw_1_205) (fun _ h9 => h9) rfl dMa_tell_88 ?_
    refine va_get (D := D) (v := .int (I 10)) (ci := 1) (C := "CodeJudge$Heap") (T := T_He) (N := 5) hx hb hts in_He hown hK hP 12 cw_12 rfl 0 (by decide) (hts (.fieldLink "CodeJudge$Machine" 85 "CodeJudge$Heap" "arrays" "I") tw_1_170) (fun _ h9 => h9) rfl dMa_tell_91 ?_
    exact W.iret (v := (I 10)) hx hb hr (fun t ht hW => ⟨⟨(I 10), (I, F), rfl, hw, by subst ht; exact hP⟩, hS.F ht⟩) hS.2.2 dMa_tell_94
  · have hw := hw.2.2.2.2.2.2.2.1 h1
    refine lv_aload_n hx hb dMa_tell_95 rfl (lv_at hl 0 rfl) ?_
    refine va_get (D := D) (v := .ref (a 12)) (ci := 3) (C := "CodeJudge$Machine") (T := T_Ma) (N := 7) hx hb hts in_Ma hown hK hP 3 cw_3 rfl 2 (by decide) (hts (.fieldLink "CodeJudge$Machine" 21 "CodeJudge$Machine" "heap" "LCodeJudge$Heap;") tw_1_205) (fun _ h9 => h9) rfl dMa_tell_96 ?_
    refine va_get (D := D) (v := .int (I 11)) (ci := 1) (C := "CodeJudge$Heap") (T := T_He) (N := 5) hx hb hts in_He hown hK hP 12 cw_12 rfl 1 (by decide) (hts (.fieldLink "CodeJudge$Machine" 88 "CodeJudge$Heap" "used" "I") tw_1_172) (fun _ h9 => h9) rfl dMa_tell_99 ?_
    exact W.iret (v := (I 11)) hx hb hr (fun t ht hW => ⟨⟨(I 11), (I, F), rfl, hw, by subst ht; exact hP⟩, hS.F ht⟩) hS.2.2 dMa_tell_102
  · have hw := hw.2.2.2.2.2.2.2.2 h1
    refine lv_aload_n hx hb dMa_tell_103 rfl (lv_at hl 0 rfl) ?_
    refine va_get (D := D) (v := .ref (a 13)) (ci := 3) (C := "CodeJudge$Machine") (T := T_Ma) (N := 7) hx hb hts in_Ma hown hK hP 3 cw_3 rfl 3 (by decide) (hts (.fieldLink "CodeJudge$Machine" 28 "CodeJudge$Machine" "outputs" "LCodeJudge$Outputs;") tw_1_207) (fun _ h9 => h9) rfl dMa_tell_104 ?_
    refine va_get (D := D) (v := .int (I 12)) (ci := 5) (C := "CodeJudge$Outputs") (T := T_Ou) (N := 2) hx hb hts in_Ou hown hK hP 13 cw_13 rfl 0 (by decide) (hts (.fieldLink "CodeJudge$Machine" 91 "CodeJudge$Outputs" "total" "I") tw_1_194) (fun _ h9 => h9) rfl dMa_tell_107 ?_
    exact W.iret (v := (I 12)) hx hb hr (fun t ht hW => ⟨⟨(I 12), (I, F), rfl, hw, by subst ht; exact hP⟩, hS.F ht⟩) hS.2.2 dMa_tell_110
