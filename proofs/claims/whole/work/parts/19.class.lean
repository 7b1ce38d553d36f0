def wp_Ma_isMet (p1 : Int32) (p2 : Int32) (I : SI) (F : SF) (Post : Int32 → SI → SF → Prop) : Prop := (p1 = 15 → ((¬ p2 = 0 → (Post 0 I F)) ∧ (p2 = 0 → (Post 1 I F)))) ∧ (p1 = 16 → (∃ P3 : Int32 → SI → SF → Prop, wp_Fr_pop I F P3 ∧ ∀ r3 I3 F3, P3 r3 I3 F3 → ((p2 ≤ r3 → (Post 0 I3 F3)) ∧ (¬ p2 ≤ r3 → (Post 1 I3 F3))))) ∧ (p1 = 19 → ((¬ p2 = (-1) → (Post 0 I F)) ∧ (p2 = (-1) → (Post 1 I F)))) ∧ ((¬ p1 = 15 ∧ ¬ p1 = 16 ∧ ¬ p1 = 19) → (∃ P6 : Int32 → SI → SF → Prop, wp_Fr_pop I F P6 ∧ ∀ r6 I6 F6, P6 r6 I6 F6 → ((¬ r6 = p2 → (Post 0 I6 F6)) ∧ (r6 = p2 → (Post 1 I6 F6)))))
set_option maxHeartbeats 4000000 in
set_option maxRecDepth 100000 in
theorem c_Ma_isMet (l : Launch) (D : va_G) (a : Nat → Nat) (cI cZ cQ : ClassId) (hJ : xJ 47 a) (I : SI) (F : SF) (p1 : Int32) (p2 : Int32) (sz : Nat) (Post : Int32 → SI → SF → Prop) (hw : wp_Ma_isMet p1 p2 I F Post) : Met l y_Ma_isMet (Cond.code y_Ma_isMet b_Ma_isMet 3 (some .boolean) :: TB) { frames := 1, cells := 0, slots := 0, locals := 20 } (va_Pc [.ref (a 3), .int p1, .int p2] (cP D a cI cZ cQ I F sz)) (va_Qi (fun r (u : SI × SF) => Post r u.1 u.2) (fun u t => va_P D vwCl (cw a cI cZ cQ u.1 u.2) t.heap) (xA 47 a sz)) 0 0 (xA 47 a sz) := by
  refine Met.ofW (cc := b_Ma_isMet) (maxL := 3) (ret := (some .boolean)) (by decide) rfl ?_
  intro p e s m args below meth c s₁ B hml hv
  obtain ⟨rfl, rfl, hP, hK, hN⟩ := hv
  have hx := B.exec
  have hb := B.bytes
  have hr := B.returns
  have hts : ∀ w ∈ TB, w.before _ s = true := fun w h => atoms_spec (ws := Cond.code y_Ma_isMet b_Ma_isMet 3 (some .boolean) :: TB) B.pre w (List.mem_cons_of_mem _ h)
  have hown : s.vm.findClass "CodeJudge$Machine" = some m.cls := findClass_of_methodNamed B.named
  have hlocks := B.notSynchronized
  have hl := lv_entry ([.ref (a 3), .int p1, .int p2]) (n := 3) (Nat.le_of_ble_eq_true rfl)
  rw [lg_entry_eq]
  generalize (lg_sl ([.ref (a 3), .int p1, .int p2]) ++ List.replicate (3 - (lg_sl ([.ref (a 3), .int p1, .int p2])).length) Slot.unset).toArray = ls at hl ⊢
  have hl : lv_has ls 3 [(0, .ref (a 3)), (1, .int p1), (2, .int p2)] := hl
  suffices hM : ∀ (H : Heap) (locs : List Loc), va_P D vwCl (cw a cI cZ cQ I F) H → va_S (xA 47 a s.heap.size) s.heap H locs → W p l e (headSpec (Cond.code y_Ma_isMet b_Ma_isMet 3 (some .boolean) :: TB) { frames := 1, cells := 0, slots := 0, locals := 20 }).room s m ([.ref (a 3), .int p1, .int p2]).toArray below meth c H locs 0 0 (MQ below (va_Qi (fun r (u : SI × SF) => Post r u.1 u.2) (fun u t => va_P D vwCl (cw a cI cZ cQ u.1 u.2) t.heap) (xA 47 a s.heap.size)) ([.ref (a 3), .int p1, .int p2]).toArray s 0 0 (xA 47 a s.heap.size)) (F0 m 0 ls []) from hM s.heap [] hP va_S.rf
  clear hP
  intro H locs hP hS
  dsimp only [wp_Ma_isMet] at hw
  refine lv_iload_n hx hb dMa_isMet_0 rfl (lv_at hl 1 rfl) ?_
  refine sw_Ma_isMet_1 hx hb (fun h1 => ?_) (fun h1 => ?_) (fun h1 => ?_) (fun h1 => ?_)
  · have hw := hw.1 h1
    refine lv_iload_n hx hb dMa_isMet_36 rfl (lv_at hl 2 rfl) ?_
    refine lv_if_ne (tgt := 44) hx hb dMa_isMet_37 (by decide) (fun h2 => ?_) (fun h2 => ?_)
    · have hw := hw.1 h2
      refine lv_iconst (v := 0) hx hb dMa_isMet_44 (by decide) ?_
      exact W.zret (v := 0) hx hb hr rfl (fun t ht hW => ⟨⟨0, (I, F), rfl, hw, by subst ht; exact hP⟩, hS.F ht⟩) hS.2.2 dMa_isMet_45
    · have hw := hw.2 h2
      refine lv_iconst (v := 1) hx hb dMa_isMet_40 (by decide) ?_
      refine lv_goto (tgt := 45) hx hb dMa_isMet_41 (by decide) ?_
      exact W.zret (v := 1) hx hb hr rfl (fun t ht hW => ⟨⟨1, (I, F), rfl, hw, by subst ht; exact hP⟩, hS.F ht⟩) hS.2.2 dMa_isMet_45
  · have hw := hw.2.1 h1
    refine lv_aload_n hx hb dMa_isMet_57 rfl (lv_at hl 0 rfl) ?_
    refine va_get (D := D) (v := .ref (a 11)) (ci := 3) (C := "CodeJudge$Machine") (T := T_Ma) (N := 7) hx hb hts in_Ma hown hK hP 3 cw_3 rfl 1 (by decide) (hts (.fieldLink "CodeJudge$Machine" 12 "CodeJudge$Machine" "frames" "LCodeJudge$Frames;") tw_1_203) (fun _ h9 => h9) rfl dMa_isMet_58 ?_
    obtain ⟨P3, hc3, hw⟩ := hw
    refine cc_i (va_runV (As := []) (rest := []) ⟨hx, hb, hml, hown, hts⟩ (c_Fr_pop l D a cI cZ cQ hJ I F H.size P3 hc3) (cwV 0 hts (tb_V (C := "CodeJudge$Frames") wc_Fr_pop tw_3_174 tw_3_175 tw_3_176 tw_1_6) rfl rfl rfl (by decide +kernel) ⟨Nat.le_of_ble_eq_true rfl, Nat.le_of_ble_eq_true rfl⟩) ⟨cP_bl, va_recv hK hP rfl cw_11, cP_at hP hK hN⟩ rfl rfl hl.1 rfl (lv_room (Nat.le_of_ble_eq_true rfl)) dMa_isMet_61 ⟨Nat.le_of_ble_eq_true rfl, Nat.le_of_ble_eq_true rfl⟩) hS (fun r3 I3 F3 H locs hP hp3 hS => ?_)
    have hw := hw r3 I3 F3 hp3
    refine lv_iload_n hx hb dMa_isMet_64 rfl (lv_at hl 2 rfl) ?_
    refine lv_icmp_ge (tgt := 72) hx hb dMa_isMet_65 (by decide) (fun h4 => ?_) (fun h4 => ?_)
    · have hw := hw.1 h4
      refine lv_iconst (v := 0) hx hb dMa_isMet_72 (by decide) ?_
      exact W.zret (v := 0) hx hb hr rfl (fun t ht hW => ⟨⟨0, (I3, F3), rfl, hw, by subst ht; exact hP⟩, hS.F ht⟩) hS.2.2 dMa_isMet_73
    · have hw := hw.2 h4
      refine lv_iconst (v := 1) hx hb dMa_isMet_68 (by decide) ?_
      refine lv_goto (tgt := 73) hx hb dMa_isMet_69 (by decide) ?_
      exact W.zret (v := 1) hx hb hr rfl (fun t ht hW => ⟨⟨1, (I3, F3), rfl, hw, by subst ht; exact hP⟩, hS.F ht⟩) hS.2.2 dMa_isMet_73
  · have hw := hw.2.2.1 h1
    refine lv_iload_n hx hb dMa_isMet_46 rfl (lv_at hl 2 rfl) ?_
    refine lv_iconst (v := (-1)) hx hb dMa_isMet_47 (by decide) ?_
    refine lv_icmp_ne (tgt := 55) hx hb dMa_isMet_48 (by decide) (fun h5 => ?_) (fun h5 => ?_)
    · have hw := hw.1 h5
      refine lv_iconst (v := 0) hx hb dMa_isMet_55 (by decide) ?_
      exact W.zret (v := 0) hx hb hr rfl (fun t ht hW => ⟨⟨0, (I, F), rfl, hw, by subst ht; exact hP⟩, hS.F ht⟩) hS.2.2 dMa_isMet_56
    · have hw := hw.2 h5
      refine lv_iconst (v := 1) hx hb dMa_isMet_51 (by decide) ?_
      refine lv_goto (tgt := 56) hx hb dMa_isMet_52 (by decide) ?_
      exact W.zret (v := 1) hx hb hr rfl (fun t ht hW => ⟨⟨1, (I, F), rfl, hw, by subst ht; exact hP⟩, hS.F ht⟩) hS.2.2 dMa_isMet_56
  · have hw := hw.2.2.2 h1
    refine lv_aload_n hx hb dMa_isMet_74 rfl (lv_at hl 0 rfl) ?_
    refine va_get (D := D) (v := .ref (a 11)) (ci := 3) (C := "CodeJudge$Machine") (T := T_Ma) (N := 7) hx hb hts in_Ma hown hK hP 3 cw_3 rfl 1 (by decide) (hts (.fieldLink "CodeJudge$Machine" 12 "CodeJudge$Machine" "frames" "LCodeJudge$Frames;") tw_1_203) (fun _ h9 => h9) rfl dMa_isMet_75 ?_
    obtain ⟨P6, hc6, hw⟩ := hw
    refine cc_i (va_runV (As := []) (rest := []) ⟨hx, hb, hml, hown, hts⟩ (c_Fr_pop l D a cI cZ cQ hJ I F H.size P6 hc6) (cwV 0 hts (tb_V (C := "CodeJudge$Frames") wc_Fr_pop tw_3_174 tw_3_175 tw_3_176 tw_1_6) rfl rfl rfl (by decide +kernel) ⟨Nat.le_of_ble_eq_true rfl, Nat.le_of_ble_eq_true rfl⟩) ⟨cP_bl, va_recv hK hP rfl cw_11, cP_at hP hK hN⟩ rfl rfl hl.1 rfl (lv_room (Nat.le_of_ble_eq_true rfl)) dMa_isMet_78 ⟨Nat.le_of_ble_eq_true rfl, Nat.le_of_ble_eq_true rfl⟩) hS (fun r6 I6 F6 H locs hP hp6 hS => ?_)
    have hw := hw r6 I6 F6 hp6
    refine lv_iload_n hx hb dMa_isMet_81 rfl (lv_at hl 2 rfl) ?_
    refine lv_icmp_ne (tgt := 89) hx hb dMa_isMet_82 (by decide) (fun h7 => ?_) (fun h7 => ?_)
    · have hw := hw.1 h7
      refine lv_iconst (v := 0) hx hb dMa_isMet_89 (by decide) ?_
      exact W.zret (v := 0) hx hb hr rfl (fun t ht hW => ⟨⟨0, (I6, F6), rfl, hw, by subst ht; exact hP⟩, hS.F ht⟩) hS.2.2 dMa_isMet_90
    · have hw := hw.2 h7
      refine lv_iconst (v := 1) hx hb dMa_isMet_85 (by decide) ?_
      refine lv_goto (tgt := 90) hx hb dMa_isMet_86 (by decide) ?_
      exact W.zret (v := 1) hx hb hr rfl (fun t ht hW => ⟨⟨1, (I6, F6), rfl, hw, by subst ht; exact hP⟩, hS.F ht⟩) hS.2.2 dMa_isMet_90
def wp_Ma_leap_21 (Post : SI → SF → Prop) (x2 : Int32) (I : SI) (F : SF) : Prop := ∃ P2 : SI → SF → Prop, wp_Fr_go x2 I F P2 ∧ ∀ I2 F2, P2 I2 F2 → (Post I2 F2)
def wp_Ma_leap (p1 : Int32) (p2 : Int32) (I : SI) (F : SF) (Post : SI → SF → Prop) : Prop := (p1 = 14 → (wp_Ma_leap_21 Post p2 I F)) ∧ (¬ p1 = 14 → (∃ P3 : Int32 → SI → SF → Prop, wp_Fr_pop I F P3 ∧ ∀ r3 I3 F3, P3 r3 I3 F3 → (∃ P4 : Int32 → SI → SF → Prop, wp_Ma_isMet p1 r3 I3 F3 P4 ∧ ∀ r4 I4 F4, P4 r4 I4 F4 → ((r4 = 0 → (Post I4 F4)) ∧ (¬ r4 = 0 → (wp_Ma_leap_21 Post p2 I4 F4))))))
set_option maxHeartbeats 4000000 in
set_option maxRecDepth 100000 in
theorem c_Ma_leap (l : Launch) (D : va_G) (a : Nat → Nat) (cI cZ cQ : ClassId) (hJ : xJ 47 a) (I : SI) (F : SF) (p1 : Int32) (p2 : Int32) (sz : Nat) (Post : SI → SF → Prop) (hw : wp_Ma_leap p1 p2 I F Post) : Met l y_Ma_leap (Cond.code y_Ma_leap b_Ma_leap 3 none :: TB) { frames := 2, cells := 0, slots := 0, locals := 42 } (va_Pc [.ref (a 3), .int p1, .int p2] (cP D a cI cZ cQ I F sz)) (va_Qv (fun (u : SI × SF) => Post u.1 u.2) (fun u t => va_P D vwCl (cw a cI cZ cQ u.1 u.2) t.heap) (xA 47 a sz)) 0 0 (xA 47 a sz) := by
  refine Met.ofW (cc := b_Ma_leap) (maxL := 3) (ret := none) (by decide) rfl ?_
  intro p e s m args below meth c s₁ B hml hv
  obtain ⟨rfl, rfl, hP, hK, hN⟩ := hv
  have hx := B.exec
  have hb := B.bytes
  have hr := B.returns
  have hts : ∀ w ∈ TB, w.before _ s = true := fun w h => atoms_spec (ws := Cond.code y_Ma_leap b_Ma_leap 3 none :: TB) B.pre w (List.mem_cons_of_mem _ h)
  have hown : s.vm.findClass "CodeJudge$Machine" = some m.cls := findClass_of_methodNamed B.named
  have hlocks := B.notSynchronized
  have hl := lv_entry ([.ref (a 3), .int p1, .int p2]) (n := 3) (Nat.le_of_ble_eq_true rfl)
  rw [lg_entry_eq]
  generalize (lg_sl ([.ref (a 3), .int p1, .int p2]) ++ List.replicate (3 - (lg_sl ([.ref (a 3), .int p1, .int p2])).length) Slot.unset).toArray = ls at hl ⊢
  have hl : lv_has ls 3 [(0, .ref (a 3)), (1, .int p1), (2, .int p2)] := hl
  obtain ⟨Q, hQ⟩ : ∃ Q, Q = MQ below (va_Qv (fun (u : SI × SF) => Post u.1 u.2) (fun u t => va_P D vwCl (cw a cI cZ cQ u.1 u.2) t.heap) (xA 47 a s.heap.size)) ([.ref (a 3), .int p1, .int p2]).toArray s 0 0 (xA 47 a s.heap.size) := ⟨_, rfl⟩
  rw [← hQ]
  have J21 : ∀ (x2 : Int32) (I : SI) (F : SF) (H : Heap) (locs : List Loc) (ls : Array Slot), lv_has ls 3 [(0, .ref (a 3)), (2, .int x2)] → va_P D vwCl (cw a cI cZ cQ I F) H → va_S (xA 47 a s.heap.size) s.heap H locs → wp_Ma_leap_21 Post x2 I F → W p l e (headSpec (Cond.code y_Ma_leap b_Ma_leap 3 none :: TB) { frames := 2, cells := 0, slots := 0, locals := 42 }).room s m ([.ref (a 3), .int p1, .int p2]).toArray below meth c H locs 0 0 Q (F0 m 21 ls []) := by
    intro x2 I F H locs ls hl hP hS hw
    dsimp only [wp_Ma_leap_21] at hw
    refine lv_aload_n hx hb dMa_leap_21 rfl (lv_at hl 0 rfl) ?_
    refine va_get (D := D) (v := .ref (a 11)) (ci := 3) (C := "CodeJudge$Machine") (T := T_Ma) (N := 7) hx hb hts in_Ma hown hK hP 3 cw_3 rfl 1 (by decide) (hts (.fieldLink "CodeJudge$Machine" 12 "CodeJudge$Machine" "frames" "LCodeJudge$Frames;") tw_1_203) (fun _ h9 => h9) rfl dMa_leap_22 ?_
    refine lv_iload_n hx hb dMa_leap_25 rfl (lv_at hl 1 rfl) ?_
    obtain ⟨P2, hc2, hw⟩ := hw
    refine cc_v (va_runV (As := [.int x2]) (rest := []) ⟨hx, hb, hml, hown, hts⟩ (c_Fr_go l D a cI cZ cQ hJ I F x2 H.size P2 hc2) (cwV 1 hts (tb_V (C := "CodeJudge$Frames") wc_Fr_go tw_3_166 tw_3_167 tw_3_168 tw_1_6) rfl rfl rfl (by decide +kernel) ⟨Nat.le_of_ble_eq_true rfl, Nat.le_of_ble_eq_true rfl⟩) ⟨cP_bl, va_recv hK hP rfl cw_11, cP_at hP hK hN⟩ rfl rfl hl.1 rfl (lv_room (Nat.le_of_ble_eq_true rfl)) dMa_leap_26 ⟨Nat.le_of_ble_eq_true rfl, Nat.le_of_ble_eq_true rfl⟩) hS (fun I2 F2 H locs hP hp2 hS => ?_)
    have hw := hw I2 F2 hp2
    rw [hQ]
    exact W.vret hx hb hr (fun t ht hW => ⟨⟨(I2, F2), rfl, hw, by subst ht; exact hP⟩, hS.F ht⟩) hS.2.2 dMa_leap_29
  suffices hM : ∀ (H : Heap) (locs : List Loc), va_P D vwCl (cw a cI cZ cQ I F) H → va_S (xA 47 a s.heap.size) s.heap H locs → W p l e (headSpec (Cond.code y_Ma_leap b_Ma_leap 3 none :: TB) { frames := 2, cells := 0, slots := 0, locals := 42 }).room s m ([.ref (a 3), .int p1, .int p2]).toArray below meth c H locs 0 0 (Q) (F0 m 0 ls []) from hM s.heap [] hP va_S.rf
  clear hP
  intro H locs hP hS
  dsimp only [wp_Ma_leap] at hw
  refine lv_iload_n hx hb dMa_leap_0 rfl (lv_at hl 1 rfl) ?_
  refine lv_bipush (v := 14) hx hb dMa_leap_1 (by decide) ?_
  refine lv_icmp_eq (tgt := 21) hx hb dMa_leap_3 (by decide) (fun h1 => ?_) (fun h1 => ?_)
  · have hw := hw.1 h1
    exact J21 p2 I F H locs ls (lv_sub hl [0, 2] rfl) hP hS hw
  · have hw := hw.2 h1
    refine lv_aload_n hx hb dMa_leap_6 rfl (lv_at hl 0 rfl) ?_
    refine lv_iload_n hx hb dMa_leap_7 rfl (lv_at hl 1 rfl) ?_
    refine lv_aload_n hx hb dMa_leap_8 rfl (lv_at hl 0 rfl) ?_
    refine va_get (D := D) (v := .ref (a 11)) (ci := 3) (C := "CodeJudge$Machine") (T := T_Ma) (N := 7) hx hb hts in_Ma hown hK hP 3 cw_3 rfl 1 (by decide) (hts (.fieldLink "CodeJudge$Machine" 12 "CodeJudge$Machine" "frames" "LCodeJudge$Frames;") tw_1_203) (fun _ h9 => h9) rfl dMa_leap_9 ?_
    obtain ⟨P3, hc3, hw⟩ := hw
    refine cc_i (va_runV (As := []) (rest := [.int p1, .ref (a 3)]) ⟨hx, hb, hml, hown, hts⟩ (c_Fr_pop l D a cI cZ cQ hJ I F H.size P3 hc3) (cwV 0 hts (tb_V (C := "CodeJudge$Frames") wc_Fr_pop tw_3_174 tw_3_175 tw_3_176 tw_1_6) rfl rfl rfl (by decide +kernel) ⟨Nat.le_of_ble_eq_true rfl, Nat.le_of_ble_eq_true rfl⟩) ⟨cP_bl, va_recv hK hP rfl cw_11, cP_at hP hK hN⟩ rfl rfl hl.1 rfl (lv_room (Nat.le_of_ble_eq_true rfl)) dMa_leap_12 ⟨Nat.le_of_ble_eq_true rfl, Nat.le_of_ble_eq_true rfl⟩) hS (fun r3 I3 F3 H locs hP hp3 hS => ?_)
    have hw := hw r3 I3 F3 hp3
    obtain ⟨P4, hc4, hw⟩ := hw
    refine cc_i (va_runV (As := [.int p1, .int r3]) (rest := []) ⟨hx, hb, hml, hown, hts⟩ (c_Ma_isMet l D a cI cZ cQ hJ I3 F3 p1 r3 H.size P4 hc4) (cwV 2 hts (tb_V (C := "CodeJudge$Machine") wc_Ma_isMet tw_3_197 tw_3_199 tw_0_17 tw_1_5) rfl rfl rfl (by decide +kernel) ⟨Nat.le_of_ble_eq_true rfl, Nat.le_of_ble_eq_true rfl⟩) ⟨cP_bl, va_recv hK hP rfl cw_3, cP_at hP hK hN⟩ rfl rfl hl.1 rfl (lv_room (Nat.le_of_ble_eq_true rfl)) dMa_leap_15 ⟨Nat.le_of_ble_eq_true rfl, Nat.le_of_ble_eq_true rfl⟩) hS (fun r4 I4 F4 H locs hP hp4 hS => ?_)
    have hw := hw r4 I4 F4 hp4
    refine lv_if_eq (tgt := 29) hx hb dMa_leap_18 (by decide) (fun h5 => ?_) (fun h5 => ?_)
    · have hw := hw.1 h5
      rw [hQ]
      exact W.vret hx hb hr (fun t ht hW => ⟨⟨(I4, F4), rfl, hw, by subst ht; exact hP⟩, hS.F ht⟩) hS.2.2 dMa_leap_29
    · have hw := hw.2 h5
      exact J21 p2 I4 F4 H locs ls (lv_sub hl [0, 2] rfl) hP hS hw
def wp_Or_combines_25 (Post : Int32 → SI → SF → Prop)  (I : SI) (F : SF) : Prop := Post 1 I F
def wp_Or_combines (p1 : Int32) (I : SI) (F : SF) (Post : Int32 → SI → SF → Prop) : Prop := ∃ P1 : Int32 → SI → SF → Prop, wp_Or_isArithmetic p1 I F P1 ∧ ∀ r1 I1 F1, P1 r1 I1 F1 → ((¬ r1 = 0 → (wp_Or_combines_25 Post I1 F1)) ∧ (r1 = 0 → ((p1 = 12 → (wp_Or_combines_25 Post I1 F1)) ∧ (¬ p1 = 12 → ((p1 = 13 → (wp_Or_combines_25 Post I1 F1)) ∧ (¬ p1 = 13 → ((¬ p1 = 22 → (Post 0 I1 F1)) ∧ (p1 = 22 → (wp_Or_combines_25 Post I1 F1)))))))))
set_option maxHeartbeats 4000000 in
set_option maxRecDepth 100000 in
theorem c_Or_combines (l : Launch) (D : va_G) (a : Nat → Nat) (cI cZ cQ : ClassId) (hJ : xJ 47 a) (I : SI) (F : SF) (p1 : Int32) (sz : Nat) (Post : Int32 → SI → SF → Prop) (hw : wp_Or_combines p1 I F Post) : Met l y_Or_combines (Cond.code y_Or_combines b_Or_combines 1 (some .boolean) :: TB) { frames := 1, cells := 0, slots := 0, locals := 20 } (va_Pc [.int p1] (cP D a cI cZ cQ I F sz)) (va_Qi (fun r (u : SI × SF) => Post r u.1 u.2) (fun u t => va_P D vwCl (cw a cI cZ cQ u.1 u.2) t.heap) (xA 47 a sz)) 0 0 (xA 47 a sz) := by
  refine Met.ofW (cc := b_Or_combines) (maxL := 1) (ret := (some .boolean)) (by decide) rfl ?_
  intro p e s m args below meth c s₁ B hml hv
  obtain ⟨rfl, rfl, hP, hK, hN⟩ := hv
  have hx := B.exec
  have hb := B.bytes
  have hr := B.returns
  have hts : ∀ w ∈ TB, w.before _ s = true := fun w h => atoms_spec (ws := Cond.code y_Or_combines b_Or_combines 1 (some .boolean) :: TB) B.pre w (List.mem_cons_of_mem _ h)
  have hown : s.vm.findClass "CodeJudge$Order" = some m.cls := findClass_of_methodNamed B.named
  have hlocks := B.notSynchronized
  have hl := lv_entry ([.int p1]) (n := 1) (Nat.le_of_ble_eq_true rfl)
  rw [lg_entry_eq]
  generalize (lg_sl ([.int p1]) ++ List.replicate (1 - (lg_sl ([.int p1])).length) Slot.unset).toArray = ls at hl ⊢
  have hl : lv_has ls 1 [(0, .int p1)] := hl
  obtain ⟨Q, hQ⟩ : ∃ Q, Q = MQ below (va_Qi (fun r (u : SI × SF) => Post r u.1 u.2) (fun u t => va_P D vwCl (cw a cI cZ cQ u.1 u.2) t.heap) (xA 47 a s.heap.size)) ([.int p1]).toArray s 0 0 (xA 47 a s.heap.size) := ⟨_, rfl⟩
  rw [← hQ]
  have J25 : ∀ (I : SI) (F : SF) (H : Heap) (locs : List Loc) (ls : Array Slot), lv_has ls 1 [] → va_P D vwCl (cw a cI cZ cQ I F) H → va_S (xA 47 a s.heap.size) s.heap H locs → wp_Or_combines_25 Post I F → W p l e (headSpec (Cond.code y_Or_combines b_Or_combines 1 (some .boolean) :: TB) { frames := 1, cells := 0, slots := 0, locals := 20 }).room s m ([.int p1]).toArray below meth c H locs 0 0 Q (F0 m 25 ls []) := by
    intro I F H locs ls hl hP hS hw
    dsimp only [wp_Or_combines_25] at hw
    refine lv_iconst (v := 1) hx hb dOr_combines_25 (by decide) ?_
    refine lv_goto (tgt := 30) hx hb dOr_combines_26 (by decide) ?_
    rw [hQ]
    exact W.zret (v := 1) hx hb hr rfl (fun t ht hW => ⟨⟨1, (I, F), rfl, hw, by subst ht; exact hP⟩, hS.F ht⟩) hS.2.2 dOr_combines_30
  suffices hM : ∀ (H : Heap) (locs : List Loc), va_P D vwCl (cw a cI cZ cQ I F) H → va_S (xA 47 a s.heap.size) s.heap H locs → W p l e (headSpec (Cond.code y_Or_combines b_Or_combines 1 (some .boolean) :: TB) { frames := 1, cells := 0, slots := 0, locals := 20 }).room s m ([.int p1]).toArray below meth c H locs 0 0 (Q) (F0 m 0 ls []) from hM s.heap [] hP va_S.rf
  clear hP
  intro H locs hP hS
  dsimp only [wp_Or_combines] at hw
  refine lv_iload_n hx hb dOr_combines_0 rfl (lv_at hl 0 rfl) ?_
  obtain ⟨P1, hc1, hw⟩ := hw
  refine cc_i (va_runS (As := [.int p1]) (rest := []) ⟨hx, hb, hml, hown, hts⟩ (c_Or_isArithmetic l D a cI cZ cQ hJ I F p1 H.size P1 hc1) (va_cwS 1 hts (tb_S wc_Or_isArithmetic tw_3_1 tw_3_2 tw_1_16) rfl rfl rfl (by decide +kernel) ⟨Nat.le_of_ble_eq_true rfl, Nat.le_of_ble_eq_true rfl⟩) ⟨cP_bl, cP_at hP hK hN⟩ rfl rfl hl.1 rfl (lv_room (Nat.le_of_ble_eq_true rfl)) dOr_combines_1 ⟨Nat.le_of_ble_eq_true rfl, Nat.le_of_ble_eq_true rfl⟩) hS (fun r1 I1 F1 H locs hP hp1 hS => ?_)
  have hw := hw r1 I1 F1 hp1
  refine lv_if_ne (tgt := 25) hx hb dOr_combines_4 (by decide) (fun h2 => ?_) (fun h2 => ?_)
  · have hw := hw.1 h2
    exact J25 I1 F1 H locs ls (lv_sub hl [] rfl) hP hS hw
  · have hw := hw.2 h2
    refine lv_iload_n hx hb dOr_combines_7 rfl (lv_at hl 0 rfl) ?_
    refine lv_bipush (v := 12) hx hb dOr_combines_8 (by decide) ?_
    refine lv_icmp_eq (tgt := 25) hx hb dOr_combines_10 (by decide) (fun h3 => ?_) (fun h3 => ?_)
    · have hw := hw.1 h3
      exact J25 I1 F1 H locs ls (lv_sub hl [] rfl) hP hS hw
    · have hw := hw.2 h3
      refine lv_iload_n hx hb dOr_combines_13 rfl (lv_at hl 0 rfl) ?_
      refine lv_bipush (v := 13) hx hb dOr_combines_14 (by decide) ?_
      refine lv_icmp_eq (tgt := 25) hx hb dOr_combines_16 (by decide) (fun h4 => ?_) (fun h4 => ?_)
      · have hw := hw.1 h4
        exact J25 I1 F1 H locs ls (lv_sub hl [] rfl) hP hS hw
      · have hw := hw.2 h4
        refine lv_iload_n hx hb dOr_combines_19 rfl (lv_at hl 0 rfl) ?_
        refine lv_bipush (v := 22) hx hb dOr_combines_20 (by decide) ?_
        refine lv_icmp_ne (tgt := 29) hx hb dOr_combines_22 (by decide) (fun h5 => ?_) (fun h5 => ?_)
        · have hw := hw.1 h5
          refine lv_iconst (v := 0) hx hb dOr_combines_29 (by decide) ?_
          rw [hQ]
          exact W.zret (v := 0) hx hb hr rfl (fun t ht hW => ⟨⟨0, (I1, F1), rfl, hw, by subst ht; exact hP⟩, hS.F ht⟩) hS.2.2 dOr_combines_30
        · have hw := hw.2 h5
          exact J25 I1 F1 H locs ls (lv_sub hl [] rfl) hP hS hw
def wp_Ma_reckon (p1 : Int32) (p2 : Int32) (p3 : Int32) (I : SI) (F : SF) (Post : Int32 → SI → SF → Prop) : Prop := (p1 = 5 → (Post (p2 + p3) I F)) ∧ (p1 = 6 → (Post (p2 - p3) I F)) ∧ (p1 = 7 → (Post (p2 * p3) I F)) ∧ (p1 = 8 → ((¬ p3 = 0 → ((¬ p3 = 0) ∧ (Post (p2 / p3) I F))) ∧ (p3 = 0 → (Post 0 I F)))) ∧ ((¬ p1 = 5 ∧ ¬ p1 = 6 ∧ ¬ p1 = 7 ∧ ¬ p1 = 8) → ((¬ p3 = 0 → ((¬ p3 = 0) ∧ (Post (p2 - p2 / p3 * p3) I F))) ∧ (p3 = 0 → (Post 0 I F))))
set_option maxHeartbeats 4000000 in
set_option maxRecDepth 100000 in
theorem c_Ma_reckon (l : Launch) (D : va_G) (a : Nat → Nat) (cI cZ cQ : ClassId) (hJ : xJ 47 a) (I : SI) (F : SF) (p1 : Int32) (p2 : Int32) (p3 : Int32) (sz : Nat) (Post : Int32 → SI → SF → Prop) (hw : wp_Ma_reckon p1 p2 p3 I F Post) : Met l y_Ma_reckon (Cond.code y_Ma_reckon b_Ma_reckon 3 (some .int) :: TB) { frames := 0, cells := 0, slots := 0, locals := 0 } (va_Pc [.int p1, .int p2, .int p3] (cP D a cI cZ cQ I F sz)) (va_Qi (fun r (u : SI × SF) => Post r u.1 u.2) (fun u t => va_P D vwCl (cw a cI cZ cQ u.1 u.2) t.heap) (xA 47 a sz)) 0 0 (xA 47 a sz) := by
  refine Met.ofW (cc := b_Ma_reckon) (maxL := 3) (ret := (some .int)) (by decide) rfl ?_
  intro p e s m args below meth c s₁ B hml hv
  obtain ⟨rfl, rfl, hP, hK, hN⟩ := hv
  have hx := B.exec
  have hb := B.bytes
  have hr := B.returns
  have hts : ∀ w ∈ TB, w.before _ s = true := fun w h => atoms_spec (ws := Cond.code y_Ma_reckon b_Ma_reckon 3 (some .int) :: TB) B.pre w (List.mem_cons_of_mem _ h)
  have hown : s.vm.findClass "CodeJudge$Machine" = some m.cls := findClass_of_methodNamed B.named
  have hlocks := B.notSynchronized
  have hl := lv_entry ([.int p1, .int p2, .int p3]) (n := 3) (Nat.le_of_ble_eq_true rfl)
  rw [lg_entry_eq]
  generalize (lg_sl ([.int p1, .int p2, .int p3]) ++ List.replicate (3 - (lg_sl ([.int p1, .int p2, .int p3])).length) Slot.unset).toArray = ls at hl ⊢
  have hl : lv_has ls 3 [(0, .int p1), (1, .int p2), (2, .int p3)] := hl
  suffices hM : ∀ (H : Heap) (locs : List Loc), va_P D vwCl (cw a cI cZ cQ I F) H → va_S (xA 47 a s.heap.size) s.heap H locs → W p l e (headSpec (Cond.code y_Ma_reckon b_Ma_reckon 3 (some .int) :: TB) { frames := 0, cells := 0, slots := 0, locals := 0 }).room s m ([.int p1, .int p2, .int p3]).toArray below meth c H locs 0 0 (MQ below (va_Qi (fun r (u : SI × SF) => Post r u.1 u.2) (fun u t => va_P D vwCl (cw a cI cZ cQ u.1 u.2) t.heap) (xA 47 a s.heap.size)) ([.int p1, .int p2, .int p3]).toArray s 0 0 (xA 47 a s.heap.size)) (F0 m 0 ls []) from hM s.heap [] hP va_S.rf
  clear hP
  intro H locs hP hS
  dsimp only [wp_Ma_reckon] at hw
  refine lv_iload_n hx hb dMa_reckon_0 rfl (lv_at hl 0 rfl) ?_
  refine sw_Ma_reckon_1 hx hb (fun h1 => ?_) (fun h1 => ?_) (fun h1 => ?_) (fun h1 => ?_) (fun h1 => ?_)
  · have hw := hw.1 h1
    refine lv_iload_n hx hb dMa_reckon_32 rfl (lv_at hl 1 rfl) ?_
    refine lv_iload_n hx hb dMa_reckon_33 rfl (lv_at hl 2 rfl) ?_
    refine lv_iadd hx hb dMa_reckon_34 ?_
    exact W.iret (v := (p2 + p3)) hx hb hr (fun t ht hW => ⟨⟨(p2 + p3), (I, F), rfl, hw, by subst ht; exact hP⟩, hS.F ht⟩) hS.2.2 dMa_reckon_35
  · have hw := hw.2.1 h1
    refine lv_iload_n hx hb dMa_reckon_36 rfl (lv_at hl 1 rfl) ?_
    refine lv_iload_n hx hb dMa_reckon_37 rfl (lv_at hl 2 rfl) ?_
    refine lv_isub hx hb dMa_reckon_38 ?_
    exact W.iret (v := (p2 - p3)) hx hb hr (fun t ht hW => ⟨⟨(p2 - p3), (I, F), rfl, hw, by subst ht; exact hP⟩, hS.F ht⟩) hS.2.2 dMa_reckon_39
  · have hw := hw.2.2.1 h1
    refine lv_iload_n hx hb dMa_reckon_40 rfl (lv_at hl 1 rfl) ?_
    refine lv_iload_n hx hb dMa_reckon_41 rfl (lv_at hl 2 rfl) ?_
    refine lv_imul hx hb dMa_reckon_42 ?_
    exact W.iret (v := (p2 * p3)) hx hb hr (fun t ht hW => ⟨⟨(p2 * p3), (I, F), rfl, hw, by subst ht; exact hP⟩, hS.F ht⟩) hS.2.2 dMa_reckon_43
  · have hw := hw.2.2.2.1 h1
    refine lv_iload_n hx hb dMa_reckon_44 rfl (lv_at hl 2 rfl) ?_
    refine lv_if_ne (tgt := 52) hx hb dMa_reckon_45 (by decide) (fun h2 => ?_) (fun h2 => ?_)
    · have hw := hw.1 h2
      refine lv_iload_n hx hb dMa_reckon_52 rfl (lv_at hl 1 rfl) ?_
      refine lv_iload_n hx hb dMa_reckon_53 rfl (lv_at hl 2 rfl) ?_
      obtain ⟨h3, hw⟩ := hw
      refine lv_idiv hx hb dMa_reckon_54 h3 ?_
      exact W.iret (v := (p2 / p3)) hx hb hr (fun t ht hW => ⟨⟨(p2 / p3), (I, F), rfl, hw, by subst ht; exact hP⟩, hS.F ht⟩) hS.2.2 dMa_reckon_55
    · have hw := hw.2 h2
      refine lv_iconst (v := 0) hx hb dMa_reckon_48 (by decide) ?_
      refine lv_goto (tgt := 55) hx hb dMa_reckon_49 (by decide) ?_
      exact W.iret (v := 0) hx hb hr (fun t ht hW => ⟨⟨0, (I, F), rfl, hw, by subst ht; exact hP⟩, hS.F ht⟩) hS.2.2 dMa_reckon_55
  · have hw := hw.2.2.2.2 h1
    refine lv_iload_n hx hb dMa_reckon_56 rfl (lv_at hl 2 rfl) ?_
    refine lv_if_ne (tgt := 64) hx hb dMa_reckon_57 (by decide) (fun h4 => ?_) (fun h4 => ?_)
    · have hw := hw.1 h4
      refine lv_iload_n hx hb dMa_reckon_64 rfl (lv_at hl 1 rfl) ?_
      refine lv_iload_n hx hb dMa_reckon_65 rfl (lv_at hl 2 rfl) ?_
      obtain ⟨h5, hw⟩ := hw
      refine lv_irem hx hb dMa_reckon_66 h5 ?_
      exact W.iret (v := (p2 - p2 / p3 * p3)) hx hb hr (fun t ht hW => ⟨⟨(p2 - p2 / p3 * p3), (I, F), rfl, hw, by subst ht; exact hP⟩, hS.F ht⟩) hS.2.2 dMa_reckon_67
    · have hw := hw.2 h4
      refine lv_iconst (v := 0) hx hb dMa_reckon_60 (by decide) ?_
      refine lv_goto (tgt := 67) hx hb dMa_reckon_61 (by decide) ?_
      exact W.iret (v := 0) hx hb hr (fun t ht hW => ⟨⟨0, (I, F), rfl, hw, by subst ht; exact hP⟩, hS.F ht⟩) hS.2.2 dMa_reckon_67
def wp_Ma_combine (p1 : Int32) (p2 : Int32) (p3 : Int32) (I : SI) (F : SF) (Post : SI → SF → Prop) : Prop := (p1 = 12 → (∃ P2 : Int32 → SI → SF → Prop, wp_He_read p2 p3 I F P2 ∧ ∀ r2 I2 F2, P2 r2 I2 F2 → (∃ P3 : SI → SF → Prop, wp_Fr_push r2 I2 F2 P3 ∧ ∀ I3 F3, P3 I3 F3 → (Post I3 F3)))) ∧ (p1 = 13 → (∃ P4 : Int32 → SI → SF → Prop, wp_Fr_pop I F P4 ∧ ∀ r4 I4 F4, P4 r4 I4 F4 → (∃ P5 : SI → SF → Prop, wp_He_write r4 p2 p3 I4 F4 P5 ∧ ∀ I5 F5, P5 I5 F5 → (Post I5 F5)))) ∧ (p1 = 22 → (∃ P6 : SI → SF → Prop, wp_Fr_push p3 I F P6 ∧ ∀ I6 F6, P6 I6 F6 → (∃ P7 : SI → SF → Prop, wp_Fr_push p2 I6 F6 P7 ∧ ∀ I7 F7, P7 I7 F7 → (Post I7 F7)))) ∧ ((¬ p1 = 12 ∧ ¬ p1 = 13 ∧ ¬ p1 = 22) → (∃ P8 : Int32 → SI → SF → Prop, wp_Ma_reckon p1 p2 p3 I F P8 ∧ ∀ r8 I8 F8, P8 r8 I8 F8 → (∃ P9 : SI → SF → Prop, wp_Fr_push r8 I8 F8 P9 ∧ ∀ I9 F9, P9 I9 F9 → (Post I9 F9))))
set_option maxHeartbeats 4000000 in
set_option maxRecDepth 100000 in
theorem c_Ma_combine (l : Launch) (D : va_G) (a : Nat → Nat) (cI cZ cQ : ClassId) (hJ : xJ 47 a) (I : SI) (F : SF) (p1 : Int32) (p2 : Int32) (p3 : Int32) (sz : Nat) (Post : SI → SF → Prop) (hw : wp_Ma_combine p1 p2 p3 I F Post) : Met l y_Ma_combine (Cond.code y_Ma_combine b_Ma_combine 4 none :: TB) { frames := 4, cells := 0, slots := 0, locals := 87 } (va_Pc [.ref (a 3), .int p1, .int p2, .int p3] (cP D a cI cZ cQ I F sz)) (va_Qv (fun (u : SI × SF) => Post u.1 u.2) (fun u t => va_P D vwCl (cw a cI cZ cQ u.1 u.2) t.heap) (xA 47 a sz)) 0 0 (xA 47 a sz) := by
  refine Met.ofW (cc := b_Ma_combine) (maxL := 4) (ret := none) (by decide) rfl ?_
  intro p e s m args below meth c s₁ B hml hv
  obtain ⟨rfl, rfl, hP, hK, hN⟩ := hv
  have hx := B.exec
  have hb := B.bytes
  have hr := B.returns
  have hts : ∀ w ∈ TB, w.before _ s = true := fun w h => atoms_spec (ws := Cond.code y_Ma_combine b_Ma_combine 4 none :: TB) B.pre w (List.mem_cons_of_mem _ h)
  have hown : s.vm.findClass "CodeJudge$Machine" = some m.cls := findClass_of_methodNamed B.named
  have hlocks := B.notSynchronized
  have hl := lv_entry ([.ref (a 3), .int p1, .int p2, .int p3]) (n := 4) (Nat.le_of_ble_eq_true rfl)
  rw [lg_entry_eq]
  generalize (lg_sl ([.ref (a 3), .int p1, .int p2, .int p3]) ++ List.replicate (4 - (lg_sl ([.ref (a 3), .int p1, .int p2, .int p3])).length) Slot.unset).toArray = ls at hl ⊢
  have hl : lv_has ls 4 [(0, .ref (a 3)), (1, .int p1), (2, .int p2), (3, .int p3)] := hl
  suffices hM : ∀ (H : Heap) (locs : List Loc), va_P D vwCl (cw a cI cZ cQ I F) H → va_S (xA 47 a s.heap.size) s.heap H locs → W p l e (headSpec (Cond.code y_Ma_combine b_Ma_combine 4 none :: TB) { frames := 4, cells := 0, slots := 0, locals := 87 }).room s m ([.ref (a 3), .int p1, .int p2, .int p3]).toArray below meth c H locs 0 0 (MQ below (va_Qv (fun (u : SI × SF) => Post u.1 u.2) (fun u t => va_P D vwCl (cw a cI cZ cQ u.1 u.2) t.heap) (xA 47 a s.heap.size)) ([.ref (a 3), .int p1, .int p2, .int p3]).toArray s 0 0 (xA 47 a s.heap.size)) (F0 m 0 ls []) from hM s.heap [] hP va_S.rf
  clear hP
  intro H locs hP hS
  dsimp only [wp_Ma_combine] at hw
  refine lv_iload_n hx hb dMa_combine_0 rfl (lv_at hl 1 rfl) ?_
  refine sw_Ma_combine_1 hx hb (fun h1 => ?_) (fun h1 => ?_) (fun h1 => ?_) (fun h1 => ?_)
  · have hw := hw.1 h1
    refine lv_aload_n hx hb dMa_combine_55 rfl (lv_at hl 0 rfl) ?_
    refine va_get (D := D) (v := .ref (a 11)) (ci := 3) (C := "CodeJudge$Machine") (T := T_Ma) (N := 7) hx hb hts in_Ma hown hK hP 3 cw_3 rfl 1 (by decide) (hts (.fieldLink "CodeJudge$Machine" 12 "CodeJudge$Machine" "frames" "LCodeJudge$Frames;") tw_1_203) (fun _ h9 => h9) rfl dMa_combine_56 ?_
    refine lv_aload_n hx hb dMa_combine_59 rfl (lv_at hl 0 rfl) ?_
    refine va_get (D := D) (v := .ref (a 12)) (ci := 3) (C := "CodeJudge$Machine") (T := T_Ma) (N := 7) hx hb hts in_Ma hown hK hP 3 cw_3 rfl 2 (by decide) (hts (.fieldLink "CodeJudge$Machine" 21 "CodeJudge$Machine" "heap" "LCodeJudge$Heap;") tw_1_205) (fun _ h9 => h9) rfl dMa_combine_60 ?_
    refine lv_iload_n hx hb dMa_combine_63 rfl (lv_at hl 2 rfl) ?_
    refine lv_iload_n hx hb dMa_combine_64 rfl (lv_at hl 3 rfl) ?_
    obtain ⟨P2, hc2, hw⟩ := hw
    refine cc_i (va_runV (As := [.int p2, .int p3]) (rest := [.ref (a 11)]) ⟨hx, hb, hml, hown, hts⟩ (c_He_read l D a cI cZ cQ hJ I F p2 p3 H.size P2 hc2) (cwV 2 hts (tb_V (C := "CodeJudge$Heap") wc_He_read tw_3_208 tw_3_209 tw_3_210 tw_1_7) rfl rfl rfl (by decide +kernel) ⟨Nat.le_of_ble_eq_true rfl, Nat.le_of_ble_eq_true rfl⟩) ⟨cP_bl, va_recv hK hP rfl cw_12, cP_at hP hK hN⟩ rfl rfl hl.1 rfl (lv_room (Nat.le_of_ble_eq_true rfl)) dMa_combine_65 ⟨Nat.le_of_ble_eq_true rfl, Nat.le_of_ble_eq_true rfl⟩) hS (fun r2 I2 F2 H locs hP hp2 hS => ?_)
    have hw := hw r2 I2 F2 hp2
    obtain ⟨P3, hc3, hw⟩ := hw
    refine cc_v (va_runV (As := [.int r2]) (rest := []) ⟨hx, hb, hml, hown, hts⟩ (c_Fr_push l D a cI cZ cQ hJ I2 F2 r2 H.size P3 hc3) (cwV 1 hts (tb_V (C := "CodeJudge$Frames") wc_Fr_push tw_3_182 tw_3_183 tw_3_184 tw_1_6) rfl rfl rfl (by decide +kernel) ⟨Nat.le_of_ble_eq_true rfl, Nat.le_of_ble_eq_true rfl⟩) ⟨cP_bl, va_recv hK hP rfl cw_11, cP_at hP hK hN⟩ rfl rfl hl.1 rfl (lv_room (Nat.le_of_ble_eq_true rfl)) dMa_combine_68 ⟨Nat.le_of_ble_eq_true rfl, Nat.le_of_ble_eq_true rfl⟩) hS (fun I3 F3 H locs hP hp3 hS => ?_)
    have hw := hw I3 F3 hp3
    refine lv_goto (tgt := 106) hx hb dMa_combine_71 (by decide) ?_
    exact W.vret hx hb hr (fun t ht hW => ⟨⟨(I3, F3), rfl, hw, by subst ht; exact hP⟩, hS.F ht⟩) hS.2.2 dMa_combine_106
  · have hw := hw.2.1 h1
    refine lv_aload_n hx hb dMa_combine_74 rfl (lv_at hl 0 rfl) ?_
    refine va_get (D := D) (v := .ref (a 12)) (ci := 3) (C := "CodeJudge$Machine") (T := T_Ma) (N := 7) hx hb hts in_Ma hown hK hP 3 cw_3 rfl 2 (by decide) (hts (.fieldLink "CodeJudge$Machine" 21 "CodeJudge$Machine" "heap" "LCodeJudge$Heap;") tw_1_205) (fun _ h9 => h9) rfl dMa_combine_75 ?_
    refine lv_aload_n hx hb dMa_combine_78 rfl (lv_at hl 0 rfl) ?_
    refine va_get (D := D) (v := .ref (a 11)) (ci := 3) (C := "CodeJudge$Machine") (T := T_Ma) (N := 7) hx hb hts in_Ma hown hK hP 3 cw_3 rfl 1 (by decide) (hts (.fieldLink "CodeJudge$Machine" 12 "CodeJudge$Machine" "frames" "LCodeJudge$Frames;") tw_1_203) (fun _ h9 => h9) rfl dMa_combine_79 ?_
    obtain ⟨P4, hc4, hw⟩ := hw
    refine cc_i (va_runV (As := []) (rest := [.ref (a 12)]) ⟨hx, hb, hml, hown, hts⟩ (c_Fr_pop l D a cI cZ cQ hJ I F H.size P4 hc4) (cwV 0 hts (tb_V (C := "CodeJudge$Frames") wc_Fr_pop tw_3_174 tw_3_175 tw_3_176 tw_1_6) rfl rfl rfl (by decide +kernel) ⟨Nat.le_of_ble_eq_true rfl, Nat.le_of_ble_eq_true rfl⟩) ⟨cP_bl, va_recv hK hP rfl cw_11, cP_at hP hK hN⟩ rfl rfl hl.1 rfl (lv_room (Nat.le_of_ble_eq_true rfl)) dMa_combine_82 ⟨Nat.le_of_ble_eq_true rfl, Nat.le_of_ble_eq_true rfl⟩) hS (fun r4 I4 F4 H locs hP hp4 hS => ?_)
    have hw := hw r4 I4 F4 hp4
    refine lv_iload_n hx hb dMa_combine_85 rfl (lv_at hl 2 rfl) ?_
    refine lv_iload_n hx hb dMa_combine_86 rfl (lv_at hl 3 rfl) ?_
    obtain ⟨P5, hc5, hw⟩ := hw
    refine cc_v (va_runV (As := [.int r4, .int p2, .int p3]) (rest := []) ⟨hx, hb, hml, hown, hts⟩ (c_He_write l D a cI cZ cQ hJ I4 F4 r4 p2 p3 H.size P5 hc5) (cwV 3 hts (tb_V (C := "CodeJudge$Heap") wc_He_write tw_3_213 tw_3_214 tw_3_215 tw_1_7) rfl rfl rfl (by decide +kernel) ⟨Nat.le_of_ble_eq_true rfl, Nat.le_of_ble_eq_true rfl⟩) ⟨cP_bl, va_recv hK hP rfl cw_12, cP_at hP hK hN⟩ rfl rfl hl.1 rfl (lv_room (Nat.le_of_ble_eq_true rfl)) dMa_combine_87 ⟨Nat.le_of_ble_eq_true rfl, Nat.le_of_ble_eq_true rfl⟩) hS (fun I5 F5 H locs hP hp5 hS => ?_)
    have hw := hw I5 F5 hp5
    refine lv_goto (tgt := 106) hx hb dMa_combine_90 (by decide) ?_
    exact W.vret hx hb hr (fun t ht hW => ⟨⟨(I5, F5), rfl, hw, by subst ht; exact hP⟩, hS.F ht⟩) hS.2.2 dMa_combine_106
  · have hw := hw.2.2.1 h1
    refine lv_aload_n hx hb dMa_combine_36 rfl (lv_at hl 0 rfl) ?_
    refine va_get (D := D) (v := .ref (a 11)) (ci := 3) (C := "CodeJudge$Machine") (T := T_Ma) (N := 7) hx hb hts in_Ma hown hK hP 3 cw_3 rfl 1 (by decide) (hts (.fieldLink "CodeJudge$Machine" 12 "CodeJudge$Machine" "frames" "LCodeJudge$Frames;") tw_1_203) (fun _ h9 => h9) rfl dMa_combine_37 ?_
    refine lv_iload_n hx hb dMa_combine_40 rfl (lv_at hl 3 rfl) ?_
    obtain ⟨P6, hc6, hw⟩ := hw
    refine cc_v (va_runV (As := [.int p3]) (rest := []) ⟨hx, hb, hml, hown, hts⟩ (c_Fr_push l D a cI cZ cQ hJ I F p3 H.size P6 hc6) (cwV 1 hts (tb_V (C := "CodeJudge$Frames") wc_Fr_push tw_3_182 tw_3_183 tw_3_184 tw_1_6) rfl rfl rfl (by decide +kernel) ⟨Nat.le_of_ble_eq_true rfl, Nat.le_of_ble_eq_true rfl⟩) ⟨cP_bl, va_recv hK hP rfl cw_11, cP_at hP hK hN⟩ rfl rfl hl.1 rfl (lv_room (Nat.le_of_ble_eq_true rfl)) dMa_combine_41 ⟨Nat.le_of_ble_eq_true rfl, Nat.le_of_ble_eq_true rfl⟩) hS (fun I6 F6 H locs hP hp6 hS => ?_)
    have hw := hw I6 F6 hp6
    refine lv_aload_n hx hb dMa_combine_44 rfl (lv_at hl 0 rfl) ?_
    refine va_get (D := D) (v := .ref (a 11)) (ci := 3) (C := "CodeJudge$Machine") (T := T_Ma) (N := 7) hx hb hts in_Ma hown hK hP 3 cw_3 rfl 1 (by decide) (hts (.fieldLink "CodeJudge$Machine" 12 "CodeJudge$Machine" "frames" "LCodeJudge$Frames;") tw_1_203) (fun _ h9 => h9) rfl dMa_combine_45 ?_
    refine lv_iload_n hx hb dMa_combine_48 rfl (lv_at hl 2 rfl) ?_
    obtain ⟨P7, hc7, hw⟩ := hw
    refine cc_v (va_runV (As := [.int p2]) (rest := []) ⟨hx, hb, hml, hown, hts⟩ (c_Fr_push l D a cI cZ cQ hJ I6 F6 p2 H.size P7 hc7) (cwV 1 hts (tb_V (C := "CodeJudge$Frames") wc_Fr_push tw_3_182 tw_3_183 tw_3_184 tw_1_6) rfl rfl rfl (by decide +kernel) ⟨Nat.le_of_ble_eq_true rfl, Nat.le_of_ble_eq_true rfl⟩) ⟨cP_bl, va_recv hK hP rfl cw_11, cP_at hP hK hN⟩ rfl rfl hl.1 rfl (lv_room (Nat.le_of_ble_eq_true rfl)) dMa_combine_49 ⟨Nat.le_of_ble_eq_true rfl, Nat.le_of_ble_eq_true rfl⟩) hS (fun I7 F7 H locs hP hp7 hS => ?_)
    have hw := hw I7 F7 hp7
    refine lv_goto (tgt := 106) hx hb dMa_combine_52 (by decide) ?_
    exact W.vret hx hb hr (fun t ht hW => ⟨⟨(I7, F7), rfl, hw, by subst ht; exact hP⟩, hS.F ht⟩) hS.2.2 dMa_combine_106
  · have hw := hw.2.2.2 h1
    refine lv_aload_n hx hb dMa_combine_93 rfl (lv_at hl 0 rfl) ?_
    refine va_get (D := D) (v := .ref (a 11)) (ci := 3) (C := "CodeJudge$Machine") (T := T_Ma) (N := 7) hx hb hts in_Ma hown hK hP 3 cw_3 rfl 1 (by decide) (hts (.fieldLink "CodeJudge$Machine" 12 "CodeJudge$Machine" "frames" "LCodeJudge$Frames;") tw_1_203) (fun _ h9 => h9) rfl dMa_combine_94 ?_
    refine lv_iload_n hx hb dMa_combine_97 rfl (lv_at hl 1 rfl) ?_
    refine lv_iload_n hx hb dMa_combine_98 rfl (lv_at hl 2 rfl) ?_
    refine lv_iload_n hx hb dMa_combine_99 rfl (lv_at hl 3 rfl) ?_
    obtain ⟨P8, hc8, hw⟩ := hw
    refine cc_i (va_runS (As := [.int p1, .int p2, .int p3]) (rest := [.ref (a 11)]) ⟨hx, hb, hml, hown, hts⟩ (c_Ma_reckon l D a cI cZ cQ hJ I F p1 p2 p3 H.size P8 hc8) (va_cwS 3 hts (tb_S wc_Ma_reckon tw_3_217 tw_3_218 tw_1_5) rfl rfl rfl (by decide +kernel) ⟨Nat.le_of_ble_eq_true rfl, Nat.le_of_ble_eq_true rfl⟩) ⟨cP_bl, cP_at hP hK hN⟩ rfl rfl hl.1 rfl (lv_room (Nat.le_of_ble_eq_true rfl)) dMa_combine_100 ⟨Nat.le_of_ble_eq_true rfl, Nat.le_of_ble_eq_true rfl⟩) hS (fun r8 I8 F8 H locs hP hp8 hS => ?_)
    have hw := hw r8 I8 F8 hp8
    obtain ⟨P9, hc9, hw⟩ := hw
    refine cc_v (va_runV (As := [.int r8]) (rest := []) ⟨hx, hb, hml, hown, hts⟩ (c_Fr_push l D a cI cZ cQ hJ I8 F8 r8 H.size P9 hc9) (cwV 1 hts (tb_V (C := "CodeJudge$Frames") wc_Fr_push tw_3_182 tw_3_183 tw_3_184 tw_1_6) rfl rfl rfl (by decide +kernel) ⟨Nat.le_of_ble_eq_true rfl, Nat.le_of_ble_eq_true rfl⟩) ⟨cP_bl, va_recv hK hP rfl cw_11, cP_at hP hK hN⟩ rfl rfl hl.1 rfl (lv_room (Nat.le_of_ble_eq_true rfl)) dMa_combine_103 ⟨Nat.le_of_ble_eq_true rfl, Nat.le_of_ble_eq_true rfl⟩) hS (fun I9 F9 H locs hP hp9 hS => ?_)
    have hw := hw I9 F9 hp9
    exact W.vret hx hb hr (fun t ht hW => ⟨⟨(I9, F9), rfl, hw, by subst ht; exact hP⟩, hS.F ht⟩) hS.2.2 dMa_combine_106
def wp_Ou_append (p1 : Int32) (I : SI) (F : SF) (Post : SI → SF → Prop) : Prop := ∃ P1 : Int32 → SI → SF → Prop, wp_MT_floorMod (I 12) 100 I F P1 ∧ ∀ r1 I1 F1, P1 r1 I1 F1 → (vp_in r1 100 ∧ (Post (va_up I1 12 ((I1 12) + 1)) (va_up F1 22 (upd (F1 22) r1.toNatClampNeg p1))))
set_option maxHeartbeats 4000000 in
set_option maxRecDepth 100000 in
theorem c_Ou_append (l : Launch) (D : va_G) (a : Nat → Nat) (cI cZ cQ : ClassId) (hJ : xJ 47 a) (I : SI) (F : SF) (p1 : Int32) (sz : Nat) (Post : SI → SF → Prop) (hw : wp_Ou_append p1 I F Post) : Met l y_Ou_append (Cond.code y_Ou_append b_Ou_append 2 none :: TB) { frames := 1, cells := 0, slots := 0, locals := 22 } (va_Pc [.ref (a 13), .int p1] (cP D a cI cZ cQ I F sz)) (va_Qv (fun (u : SI × SF) => Post u.1 u.2) (fun u t => va_P D vwCl (cw a cI cZ cQ u.1 u.2) t.heap) (xA 47 a sz)) 0 0 (xA 47 a sz) := by
  refine Met.ofW (cc := b_Ou_append) (maxL := 2) (ret := none) (by decide) rfl ?_
  intro p e s m args below meth c s₁ B hml hv
  obtain ⟨rfl, rfl, hP, hK, hN⟩ := hv
  have hx := B.exec
  have hb := B.bytes
  have hr := B.returns
  have hts : ∀ w ∈ TB, w.before _ s = true := fun w h => atoms_spec (ws := Cond.code y_Ou_append b_Ou_append 2 none :: TB) B.pre w (List.mem_cons_of_mem _ h)
  have hown : s.vm.findClass "CodeJudge$Outputs" = some m.cls := findClass_of_methodNamed B.named
  have hlocks := B.notSynchronized
  have hl := lv_entry ([.ref (a 13), .int p1]) (n := 2) (Nat.le_of_ble_eq_true rfl)
  rw [lg_entry_eq]
  generalize (lg_sl ([.ref (a 13), .int p1]) ++ List.replicate (2 - (lg_sl ([.ref (a 13), .int p1])).length) Slot.unset).toArray = ls at hl ⊢
  have hl : lv_has ls 2 [(0, .ref (a 13)), (1, .int p1)] := hl
  suffices hM : ∀ (H : Heap) (locs : List Loc), va_P D vwCl (cw a cI cZ cQ I F) H → va_S (xA 47 a s.heap.size) s.heap H locs → W p l e (headSpec (Cond.code y_Ou_append b_Ou_append 2 none :: TB) { frames := 1, cells := 0, slots := 0, locals := 22 }).room s m ([.ref (a 13), .int p1]).toArray below meth c H locs 0 0 (MQ below (va_Qv (fun (u : SI × SF) => Post u.1 u.2) (fun u t => va_P D vwCl (cw a cI cZ cQ u.1 u.2) t.heap) (xA 47 a s.heap.size)) ([.ref (a 13), .int p1]).toArray s 0 0 (xA 47 a s.heap.size)) (F0 m 0 ls []) from hM s.heap [] hP va_S.rf
  clear hP
  intro H locs hP hS
  dsimp only [wp_Ou_append] at hw
  refine lv_aload_n hx hb dOu_append_0 rfl (lv_at hl 0 rfl) ?_
  refine va_get (D := D) (v := .ref (a 22)) (ci := 5) (C := "CodeJudge$Outputs") (T := T_Ou) (N := 2) hx hb hts in_Ou hown hK hP 13 cw_13 rfl 1 (by decide) (hts (.fieldLink "CodeJudge$Outputs" 9 "CodeJudge$Outputs" "latest" "[I") tw_1_195) (fun _ h9 => h9) rfl dOu_append_1 ?_
  refine lv_aload_n hx hb dOu_append_4 rfl (lv_at hl 0 rfl) ?_
  refine va_get (D := D) (v := .int (I 12)) (ci := 5) (C := "CodeJudge$Outputs") (T := T_Ou) (N := 2) hx hb hts in_Ou hown hK hP 13 cw_13 rfl 0 (by decide) (hts (.fieldLink "CodeJudge$Outputs" 13 "CodeJudge$Outputs" "total" "I") tw_1_193) (fun _ h9 => h9) rfl dOu_append_5 ?_
  refine lv_bipush (v := 100) hx hb dOu_append_8 (by decide) ?_
  obtain ⟨P1, hc1, hw⟩ := hw
  refine cc_i (va_runS (As := [.int (I 12), .int 100]) (rest := [.ref (a 22)]) ⟨hx, hb, hml, hown, hts⟩ (c_MT_floorMod l D a cI cZ cQ hJ I F (I 12) 100 H.size P1 hc1) (va_cwS 2 hts (tb_S wc_MT_floorMod tw_3_232 tw_3_233 tw_1_18) rfl rfl rfl (by decide +kernel) ⟨Nat.le_of_ble_eq_true rfl, Nat.le_of_ble_eq_true rfl⟩) ⟨cP_bl, cP_at hP hK hN⟩ rfl rfl hl.1 rfl (lv_room (Nat.le_of_ble_eq_true rfl)) dOu_append_10 ⟨Nat.le_of_ble_eq_true rfl, Nat.le_of_ble_eq_true rfl⟩) hS (fun r1 I1 F1 H locs hP hp1 hS => ?_)
  have hw := hw r1 I1 F1 hp1
  refine lv_iload_n hx hb dOu_append_13 rfl (lv_at hl 1 rfl) ?_
  obtain ⟨h2, hw⟩ := hw
  refine va_iast hx hb hK hP (cD hJ) hS 22 0 cw_22 rfl h2 dOu_append_14 (fun H locs hP _ hS => ?_)
  have hP := cwa_22 hP
  refine lv_aload_n hx hb dOu_append_15 rfl (lv_at hl 0 rfl) ?_
  refine lv_dup hx hb dOu_append_16 rfl ?_
  refine va_get (D := D) (v := .int (I1 12)) (ci := 5) (C := "CodeJudge$Outputs") (T := T_Ou) (N := 2) hx hb hts in_Ou hown hK hP 13 cw_13 rfl 0 (by decide) (hts (.fieldLink "CodeJudge$Outputs" 13 "CodeJudge$Outputs" "total" "I") tw_1_193) (fun _ h9 => h9) rfl dOu_append_17 ?_
  refine lv_iconst (v := 1) hx hb dOu_append_20 (by decide) ?_
  refine lv_iadd hx hb dOu_append_21 ?_
  refine va_put (D := D) (ci := 5) (v := .int ((I1 12) + 1)) (ty := .int) (C := "CodeJudge$Outputs") (T := T_Ou) (N := 2) hx hb hts in_Ou ty_Ou ok_Ou nm_Ou hown hK hP (cD hJ) hS 13 cw_13 rfl 0 (by decide) (hts (.fieldLink "CodeJudge$Outputs" 13 "CodeJudge$Outputs" "total" "I") tw_1_193) (fun _ h9 => h9) rfl (by decide +kernel) rfl rfl (Nat.le_of_ble_eq_true rfl) dOu_append_22 (fun H locs hP _ hS => ?_)
  have hP := cwp_12 hP
  exact W.vret hx hb hr (fun t ht hW => ⟨⟨((va_up I1 12 ((I1 12) + 1)), (va_up F1 22 (upd (F1 22) r1.toNatClampNeg p1))), rfl, hw, by subst ht; exact hP⟩, hS.F ht⟩) hS.2.2 dOu_append_25
def wp_Ma_work (p1 : Int32) (p2 : Int32) (I : SI) (F : SF) (Post : SI → SF → Prop) : Prop := (p1 = 0 → (∃ P2 : SI → SF → Prop, wp_Fr_push p2 I F P2 ∧ ∀ I2 F2, P2 I2 F2 → (Post I2 F2))) ∧ (p1 = 1 → (∃ P3 : Int32 → SI → SF → Prop, wp_Fr_inLocal p2 I F P3 ∧ ∀ r3 I3 F3, P3 r3 I3 F3 → (∃ P4 : SI → SF → Prop, wp_Fr_push r3 I3 F3 P4 ∧ ∀ I4 F4, P4 I4 F4 → (Post I4 F4)))) ∧ (p1 = 2 → (∃ P5 : Int32 → SI → SF → Prop, wp_Fr_pop I F P5 ∧ ∀ r5 I5 F5, P5 r5 I5 F5 → (∃ P6 : SI → SF → Prop, wp_Fr_setLocal p2 r5 I5 F5 P6 ∧ ∀ I6 F6, P6 I6 F6 → (Post I6 F6)))) ∧ (p1 = 3 → (∃ P7 : Int32 → SI → SF → Prop, wp_Fr_inLocal p2 I F P7 ∧ ∀ r7 I7 F7, P7 r7 I7 F7 → (∃ P8 : SI → SF → Prop, wp_Fr_push r7 I7 F7 P8 ∧ ∀ I8 F8, P8 I8 F8 → (Post I8 F8)))) ∧ (p1 = 4 → (∃ P9 : Int32 → SI → SF → Prop, wp_Fr_pop I F P9 ∧ ∀ r9 I9 F9, P9 r9 I9 F9 → (∃ P10 : SI → SF → Prop, wp_Fr_setLocal p2 r9 I9 F9 P10 ∧ ∀ I10 F10, P10 I10 F10 → (Post I10 F10)))) ∧ (p1 = 10 → (∃ P11 : Int32 → SI → SF → Prop, wp_Fr_pop I F P11 ∧ ∀ r11 I11 F11, P11 r11 I11 F11 → (∃ P12 : Int32 → SI → SF → Prop, wp_He_make r11 I11 F11 P12 ∧ ∀ r12 I12 F12, P12 r12 I12 F12 → (∃ P13 : SI → SF → Prop, wp_Fr_push r12 I12 F12 P13 ∧ ∀ I13 F13, P13 I13 F13 → (Post I13 F13))))) ∧ (p1 = 18 → (∃ P14 : SI → SF → Prop, wp_Fr_push (-1) I F P14 ∧ ∀ I14 F14, P14 I14 F14 → (Post I14 F14))) ∧ (p1 = 20 → (∃ P15 : Int32 → SI → SF → Prop, wp_Fr_fromTop 0 I F P15 ∧ ∀ r15 I15 F15, P15 r15 I15 F15 → (∃ P16 : SI → SF → Prop, wp_Fr_push r15 I15 F15 P16 ∧ ∀ I16 F16, P16 I16 F16 → (Post I16 F16)))) ∧ (p1 = 21 → (∃ P17 : Int32 → SI → SF → Prop, wp_Fr_pop I F P17 ∧ ∀ r17 I17 F17, P17 r17 I17 F17 → (Post I17 F17))) ∧ (p1 = 25 → (∃ P18 : Int32 → SI → SF → Prop, wp_Fr_pop I F P18 ∧ ∀ r18 I18 F18, P18 r18 I18 F18 → (∃ P19 : SI → SF → Prop, wp_Ou_append r18 I18 F18 P19 ∧ ∀ I19 F19, P19 I19 F19 → (Post I19 F19)))) ∧ ((¬ p1 = 0 ∧ ¬ p1 = 1 ∧ ¬ p1 = 2 ∧ ¬ p1 = 3 ∧ ¬ p1 = 4 ∧ ¬ p1 = 10 ∧ ¬ p1 = 18 ∧ ¬ p1 = 20 ∧ ¬ p1 = 21 ∧ ¬ p1 = 25) → (∃ P20 : Int32 → SI → SF → Prop, wp_Fr_pop I F P20 ∧ ∀ r20 I20 F20, P20 r20 I20 F20 → (∃ P21 : Int32 → SI → SF → Prop, wp_He_lengthOf r20 I20 F20 P21 ∧ ∀ r21 I21 F21, P21 r21 I21 F21 → (∃ P22 : SI → SF → Prop, wp_Fr_push r21 I21 F21 P22 ∧ ∀ I22 F22, P22 I22 F22 → (Post I22 F22)))))
set_option maxHeartbeats 4000000 in
set_option maxRecDepth 100000 in
theorem c_Ma_work (l : Launch) (D : va_G) (a : Nat → Nat) (cI cZ cQ : ClassId) (hJ : xJ 47 a) (I : SI) (F : SF) (p1 : Int32) (p2 : Int32) (sz : Nat) (Post : SI → SF → Prop) (hw : wp_Ma_work p1 p2 I F Post) : Met l y_Ma_work (Cond.code y_Ma_work b_Ma_work 3 none :: TB) { frames := 3, cells := 0, slots := 0, locals := 63 } (va_Pc [.ref (a 3), .int p1, .int p2] (cP D a cI cZ cQ I F sz)) (va_Qv (fun (u : SI × SF) => Post u.1 u.2) (fun u t => va_P D vwCl (cw a cI cZ cQ u.1 u.2) t.heap) (xA 47 a sz)) 0 0 (xA 47 a sz) := by
  refine Met.ofW (cc := b_Ma_work) (maxL := 3) (ret := none) (by decide) rfl ?_
  intro p e s m args below meth c s₁ B hml hv
  obtain ⟨rfl, rfl, hP, hK, hN⟩ := hv
  have hx := B.exec
  have hb := B.bytes
  have hr := B.returns
  have hts : ∀ w ∈ TB, w.before _ s = true := fun w h => atoms_spec (ws := Cond.code y_Ma_work b_Ma_work 3 none :: TB) B.pre w (List.mem_cons_of_mem _ h)
  have hown : s.vm.findClass "CodeJudge$Machine" = some m.cls := findClass_of_methodNamed B.named
  have hlocks := B.notSynchronized
  have hl := lv_entry ([.ref (a 3), .int p1, .int p2]) (n := 3) (Nat.le_of_ble_eq_true rfl)
  rw [lg_entry_eq]
  generalize (lg_sl ([.ref (a 3), .int p1, .int p2]) ++ List.replicate (3 - (lg_sl ([.ref (a 3), .int p1, .int p2])).length) Slot.unset).toArray = ls at hl ⊢
  have hl : lv_has ls 3 [(0, .ref (a 3)), (1, .int p1), (2, .int p2)] := hl
  suffices hM : ∀ (H : Heap) (locs : List Loc), va_P D vwCl (cw a cI cZ cQ I F) H → va_S (xA 47 a s.heap.size) s.heap H locs → W p l e (headSpec (Cond.code y_Ma_work b_Ma_work 3 none :: TB) { frames := 3, cells := 0, slots := 0, locals := 63 }).room s m ([.ref (a 3), .int p1, .int p2]).toArray below meth c H locs 0 0 (MQ below (va_Qv (fun (u : SI × SF) => Post u.1 u.2) (fun u t => va_P D vwCl (cw a cI cZ cQ u.1 u.2) t.heap) (xA 47 a s.heap.size)) ([.ref (a 3), .int p1, .int p2]).toArray s 0 0 (xA 47 a s.heap.size)) (F0 m 0 ls []) from hM s.heap [] hP va_S.rf
  clear hP
  intro H locs hP hS
  dsimp only [wp_Ma_work] at hw
  refine lv_iload_n hx hb dMa_work_0 rfl (lv_at hl 1 rfl) ?_
  refine sw_Ma_work_1 hx hb (fun h1 => ?_) (fun h1 => ?_) (fun h1 => ?_) (fun h1 => ?_) (fun h1 => ?_) (fun h1 => ?_) (fun h1 => ?_) (fun h1 => ?_) (fun h1 => ?_) (fun h1 => ?_) (fun h1 => ?_)
  · have hw := hw.1 h1
    refine lv_aload_n hx hb dMa_work_120 rfl (lv_at hl 0 rfl) ?_
    refine va_get (D := D) (v := .ref (a 11)) (ci := 3) (C := "CodeJudge$Machine") (T := T_Ma) (N := 7) hx hb hts in_Ma hown hK hP 3 cw_3 rfl 1 (by decide) (hts (.fieldLink "CodeJudge$Machine" 12 "CodeJudge$Machine" "frames" "LCodeJudge$Frames;") tw_1_203) (fun _ h9 => h9) rfl dMa_work_121 ?_
    refine lv_iload_n hx hb dMa_work_124 rfl (lv_at hl 2 rfl) ?_
    obtain ⟨P2, hc2, hw⟩ := hw
    refine cc_v (va_runV (As := [.int p2]) (rest := []) ⟨hx, hb, hml, hown, hts⟩ (c_Fr_push l D a cI cZ cQ hJ I F p2 H.size P2 hc2) (cwV 1 hts (tb_V (C := "CodeJudge$Frames") wc_Fr_push tw_3_182 tw_3_183 tw_3_184 tw_1_6) rfl rfl rfl (by decide +kernel) ⟨Nat.le_of_ble_eq_true rfl, Nat.le_of_ble_eq_true rfl⟩) ⟨cP_bl, va_recv hK hP rfl cw_11, cP_at hP hK hN⟩ rfl rfl hl.1 rfl (lv_room (Nat.le_of_ble_eq_true rfl)) dMa_work_125 ⟨Nat.le_of_ble_eq_true rfl, Nat.le_of_ble_eq_true rfl⟩) hS (fun I2 F2 H locs hP hp2 hS => ?_)
    have hw := hw I2 F2 hp2
    refine lv_goto (tgt := 269) hx hb dMa_work_128 (by decide) ?_
    exact W.vret hx hb hr (fun t ht hW => ⟨⟨(I2, F2), rfl, hw, by subst ht; exact hP⟩, hS.F ht⟩) hS.2.2 dMa_work_269
  · have hw := hw.2.1 h1
    refine lv_aload_n hx hb dMa_work_131 rfl (lv_at hl 0 rfl) ?_
    refine va_get (D := D) (v := .ref (a 11)) (ci := 3) (C := "CodeJudge$Machine") (T := T_Ma) (N := 7) hx hb hts in_Ma hown hK hP 3 cw_3 rfl 1 (by decide) (hts (.fieldLink "CodeJudge$Machine" 12 "CodeJudge$Machine" "frames" "LCodeJudge$Frames;") tw_1_203) (fun _ h9 => h9) rfl dMa_work_132 ?_
    refine lv_aload_n hx hb dMa_work_135 rfl (lv_at hl 0 rfl) ?_
    refine va_get (D := D) (v := .ref (a 11)) (ci := 3) (C := "CodeJudge$Machine") (T := T_Ma) (N := 7) hx hb hts in_Ma hown hK hP 3 cw_3 rfl 1 (by decide) (hts (.fieldLink "CodeJudge$Machine" 12 "CodeJudge$Machine" "frames" "LCodeJudge$Frames;") tw_1_203) (fun _ h9 => h9) rfl dMa_work_136 ?_
    refine lv_iload_n hx hb dMa_work_139 rfl (lv_at hl 2 rfl) ?_
    obtain ⟨P3, hc3, hw⟩ := hw
    refine cc_i (va_runV (As := [.int p2]) (rest := [.ref (a 11)]) ⟨hx, hb, hml, hown, hts⟩ (c_Fr_inLocal l D a cI cZ cQ hJ I F p2 H.size P3 hc3) (cwV 1 hts (tb_V (C := "CodeJudge$Frames") wc_Fr_inLocal tw_3_224 tw_3_225 tw_3_226 tw_1_6) rfl rfl rfl (by decide +kernel) ⟨Nat.le_of_ble_eq_true rfl, Nat.le_of_ble_eq_true rfl⟩) ⟨cP_bl, va_recv hK hP rfl cw_11, cP_at hP hK hN⟩ rfl rfl hl.1 rfl (lv_room (Nat.le_of_ble_eq_true rfl)) dMa_work_140 ⟨Nat.le_of_ble_eq_true rfl, Nat.le_of_ble_eq_true rfl⟩) hS (fun r3 I3 F3 H locs hP hp3 hS => ?_)
    have hw := hw r3 I3 F3 hp3
    obtain ⟨P4, hc4, hw⟩ := hw
    refine cc_v (va_runV (As := [.int r3]) (rest := []) ⟨hx, hb, hml, hown, hts⟩ (c_Fr_push l D a cI cZ cQ hJ I3 F3 r3 H.size P4 hc4) (cwV 1 hts (tb_V (C := "CodeJudge$Frames") wc_Fr_push tw_3_182 tw_3_183 tw_3_184 tw_1_6) rfl rfl rfl (by decide +kernel) ⟨Nat.le_of_ble_eq_true rfl, Nat.le_of_ble_eq_true rfl⟩) ⟨cP_bl, va_recv hK hP rfl cw_11, cP_at hP hK hN⟩ rfl rfl hl.1 rfl (lv_room (Nat.le_of_ble_eq_true rfl)) dMa_work_143 ⟨Nat.le_of_ble_eq_true rfl, Nat.le_of_ble_eq_true rfl⟩) hS (fun I4 F4 H locs hP hp4 hS => ?_)
    have hw := hw I4 F4 hp4
    refine lv_goto (tgt := 269) hx hb dMa_work_146 (by decide) ?_
    exact W.vret hx hb hr (fun t ht hW => ⟨⟨(I4, F4), rfl, hw, by subst ht; exact hP⟩, hS.F ht⟩) hS.2.2 dMa_work_269
  · have hw := hw.2.2.1 h1
    refine lv_aload_n hx hb dMa_work_149 rfl (lv_at hl 0 rfl) ?_
    refine va_get (D := D) (v := .ref (a 11)) (ci := 3) (C := "CodeJudge$Machine") (T := T_Ma) (N := 7) hx hb hts in_Ma hown hK hP 3 cw_3 rfl 1 (by decide) (hts (.fieldLink "CodeJudge$Machine" 12 "CodeJudge$Machine" "frames" "LCodeJudge$Frames;") tw_1_203) (fun _ h9 => h9) rfl dMa_work_150 ?_
    refine lv_iload_n hx hb dMa_work_153 rfl (lv_at hl 2 rfl) ?_
    refine lv_aload_n hx hb dMa_work_154 rfl (lv_at hl 0 rfl) ?_
    refine va_get (D := D) (v := .ref (a 11)) (ci := 3) (C := "CodeJudge$Machine") (T := T_Ma) (N := 7) hx hb hts in_Ma hown hK hP 3 cw_3 rfl 1 (by decide) (hts (.fieldLink "CodeJudge$Machine" 12 "CodeJudge$Machine" "frames" "LCodeJudge$Frames;") tw_1_203) (fun _ h9 => h9) rfl dMa_work_155 ?_
    obtain ⟨P5, hc5, hw⟩ := hw
    refine cc_i (va_runV (As := []) (rest := [.int p2, .ref (a 11)]) ⟨hx, hb, hml, hown, hts⟩ (c_Fr_pop l D a cI cZ cQ hJ I F H.size P5 hc5) (cwV 0 hts (tb_V (C := "CodeJudge$Frames") wc_Fr_pop tw_3_174 tw_3_175 tw_3_176 tw_1_6) rfl rfl rfl (by decide +kernel) ⟨Nat.le_of_ble_eq_true rfl, Nat.le_of_ble_eq_true rfl⟩) ⟨cP_bl, va_recv hK hP rfl cw_11, cP_at hP hK hN⟩ rfl rfl hl.1 rfl (lv_room (Nat.le_of_ble_eq_true rfl)) dMa_work_158 ⟨Nat.le_of_ble_eq_true rfl, Nat.le_of_ble_eq_true rfl⟩) hS (fun r5 I5 F5 H locs hP hp5 hS => ?_)
    have hw := hw r5 I5 F5 hp5
    obtain ⟨P6, hc6, hw⟩ := hw
    refine cc_v (va_runV (As := [.int p2, .int r5]) (rest := []) ⟨hx, hb, hml, hown, hts⟩ (c_Fr_setLocal l D a cI cZ cQ hJ I5 F5 p2 r5 H.size P6 hc6) (cwV 2 hts (tb_V (C := "CodeJudge$Frames") wc_Fr_setLocal tw_3_96 tw_3_97 tw_3_98 tw_1_6) rfl rfl rfl (by decide +kernel) ⟨Nat.le_of_ble_eq_true rfl, Nat.le_of_ble_eq_true rfl⟩) ⟨cP_bl, va_recv hK hP rfl cw_11, cP_at hP hK hN⟩ rfl rfl hl.1 rfl (lv_room (Nat.le_of_ble_eq_true rfl)) dMa_work_161 ⟨Nat.le_of_ble_eq_true rfl, Nat.le_of_ble_eq_true rfl⟩) hS (fun I6 F6 H locs hP hp6 hS => ?_)
    have hw := hw I6 F6 hp6
    refine lv_goto (tgt := 269) hx hb dMa_work_164 (by decide) ?_
    exact W.vret hx hb hr (fun t ht hW => ⟨⟨(I6, F6), rfl, hw, by subst ht; exact hP⟩, hS.F ht⟩) hS.2.2 dMa_work_269
  · have hw := hw.2.2.2.1 h1
    refine lv_aload_n hx hb dMa_work_131 rfl (lv_at hl 0 rfl) ?_
    refine va_get (D := D) (v := .ref (a 11)) (ci := 3) (C := "CodeJudge$Machine") (T := T_Ma) (N := 7) hx hb hts in_Ma hown hK hP 3 cw_3 rfl 1 (by decide) (hts (.fieldLink "CodeJudge$Machine" 12 "CodeJudge$Machine" "frames" "LCodeJudge$Frames;") tw_1_203) (fun _ h9 => h9) rfl dMa_work_132 ?_
    refine lv_aload_n hx hb dMa_work_135 rfl (lv_at hl 0 rfl) ?_
    refine va_get (D := D) (v := .ref (a 11)) (ci := 3) (C := "CodeJudge$Machine") (T := T_Ma) (N := 7) hx hb hts in_Ma hown hK hP 3 cw_3 rfl 1 (by decide) (hts (.fieldLink "CodeJudge$Machine" 12 "CodeJudge$Machine" "frames" "LCodeJudge$Frames;") tw_1_203) (fun _ h9 => h9) rfl dMa_work_136 ?_
    refine lv_iload_n hx hb dMa_work_139 rfl (lv_at hl 2 rfl) ?_
    obtain ⟨P7, hc7, hw⟩ := hw
    refine cc_i (va_runV (As := [.int p2]) (rest := [.ref (a 11)]) ⟨hx, hb, hml, hown, hts⟩ (c_Fr_inLocal l D a cI cZ cQ hJ I F p2 H.size P7 hc7) (cwV 1 hts (tb_V (C := "CodeJudge$Frames") wc_Fr_inLocal tw_3_224 tw_3_225 tw_3_226 tw_1_6) rfl rfl rfl (by decide +kernel) ⟨Nat.le_of_ble_eq_true rfl, Nat.le_of_ble_eq_true rfl⟩) ⟨cP_bl, va_recv hK hP rfl cw_11, cP_at hP hK hN⟩ rfl rfl hl.1 rfl (lv_room (Nat.le_of_ble_eq_true rfl)) dMa_work_140 ⟨Nat.le_of_ble_eq_true rfl, Nat.le_of_ble_eq_true rfl⟩) hS (fun r7 I7 F7 H locs hP hp7 hS => ?_)
    have hw := hw r7 I7 F7 hp7
    obtain ⟨P8, hc8, hw⟩ := hw
    refine cc_v (va_runV (As := [.int r7]) (rest := []) ⟨hx, hb, hml, hown, hts⟩ (c_Fr_push l D a cI cZ cQ hJ I7 F7 r7 H.size P8 hc8) (cwV 1 hts (tb_V (C := "CodeJudge$Frames") wc_Fr_push tw_3_182 tw_3_183 tw_3_184 tw_1_6) rfl rfl rfl (by decide +kernel) ⟨Nat.le_of_ble_eq_true rfl, Nat.le_of_ble_eq_true rfl⟩) ⟨cP_bl, va_recv hK hP rfl cw_11, cP_at hP hK hN⟩ rfl rfl hl.1 rfl (lv_room (Nat.le_of_ble_eq_true rfl)) dMa_work_143 ⟨Nat.le_of_ble_eq_true rfl, Nat.le_of_ble_eq_true rfl⟩) hS (fun I8 F8 H locs hP hp8 hS => ?_)
    have hw := hw I8 F8 hp8
    refine lv_goto (tgt := 269) hx hb dMa_work_146 (by decide) ?_
    exact W.vret hx hb hr (fun t ht hW => ⟨⟨(I8, F8), rfl, hw, by subst ht; exact hP⟩, hS.F ht⟩) hS.2.2 dMa_work_269
  · have hw := hw.2.2.2.2.1 h1
    refine lv_aload_n hx hb dMa_work_149 rfl (lv_at hl 0 rfl) ?_
    refine va_get (D := D) (v := .ref (a 11)) (ci := 3) (C := "CodeJudge$Machine") (T := T_Ma) (N := 7) hx hb hts in_Ma hown hK hP 3 cw_3 rfl 1 (by decide) (hts (.fieldLink "CodeJudge$Machine" 12 "CodeJudge$Machine" "frames" "LCodeJudge$Frames;") tw_1_203) (fun _ h9 => h9) rfl dMa_work_150 ?_
    refine lv_iload_n hx hb dMa_work_153 rfl (lv_at hl 2 rfl) ?_
    refine lv_aload_n hx hb dMa_work_154 rfl (lv_at hl 0 rfl) ?_
    refine va_get (D := D) (v := .ref (a 11)) (ci := 3) (C := "CodeJudge$Machine") (T := T_Ma) (N := 7) hx hb hts in_Ma hown hK hP 3 cw_3 rfl 1 (by decide) (hts (.fieldLink "CodeJudge$Machine" 12 "CodeJudge$Machine" "frames" "LCodeJudge$Frames;") tw_1_203) (fun _ h9 => h9) rfl dMa_work_155 ?_
    obtain ⟨P9, hc9, hw⟩ := hw
    refine cc_i (va_runV (As := []) (rest := [.int p2, .ref (a 11)]) ⟨hx, hb, hml, hown, hts⟩ (c_Fr_pop l D a cI cZ cQ hJ I F H.size P9 hc9) (cwV 0 hts (tb_V (C := "CodeJudge$Frames") wc_Fr_pop tw_3_174 tw_3_175 tw_3_176 tw_1_6) rfl rfl rfl (by decide +kernel) ⟨Nat.le_of_ble_eq_true rfl, Nat.le_of_ble_eq_true rfl⟩) ⟨cP_bl, va_recv hK hP rfl cw_11, cP_at hP hK hN⟩ rfl rfl hl.1 rfl (lv_room (Nat.le_of_ble_eq_true rfl)) dMa_work_158 ⟨Nat.le_of_ble_eq_true rfl, Nat.le_of_ble_eq_true rfl⟩) hS (fun r9 I9 F9 H locs hP hp9 hS => ?_)
    have hw := hw r9 I9 F9 hp9
    obtain ⟨P10, hc10, hw⟩ := hw
    refine cc_v (va_runV (As := [.int p2, .int r9]) (rest := []) ⟨hx, hb, hml, hown, hts⟩ (c_Fr_setLocal l D a cI cZ cQ hJ I9 F9 p2 r9 H.size P10 hc10) (cwV 2 hts (tb_V (C := "CodeJudge$Frames") wc_Fr_setLocal tw_3_96 tw_3_97 tw_3_98 tw_1_6) rfl rfl rfl (by decide +kernel) ⟨Nat.le_of_ble_eq_true rfl, Nat.le_of_ble_eq_true rfl⟩) ⟨cP_bl, va_recv hK hP rfl cw_11, cP_at hP hK hN⟩ rfl rfl hl.1 rfl (lv_room (Nat.le_of_ble_eq_true rfl)) dMa_work_161 ⟨Nat.le_of_ble_eq_true rfl, Nat.le_of_ble_eq_true rfl⟩) hS (fun I10 F10 H locs hP hp10 hS => ?_)
    have hw := hw I10 F10 hp10
    refine lv_goto (tgt := 269) hx hb dMa_work_164 (by decide) ?_
    exact W.vret hx hb hr (fun t ht hW => ⟨⟨(I10, F10), rfl, hw, by subst ht; exact hP⟩, hS.F ht⟩) hS.2.2 dMa_work_269
  · have hw := hw.2.2.2.2.2.1 h1
    refine lv_aload_n hx hb dMa_work_224 rfl (lv_at hl 0 rfl) ?_
    refine va_get (D := D) (v := .ref (a 11)) (ci := 3) (C := "CodeJudge$Machine") (T := T_Ma) (N := 7) hx hb hts in_Ma hown hK hP 3 cw_3 rfl 1 (by decide) (hts (.fieldLink "CodeJudge$Machine" 12 "CodeJudge$Machine" "frames" "LCodeJudge$Frames;") tw_1_203) (fun _ h9 => h9) rfl dMa_work_225 ?_
    refine lv_aload_n hx hb dMa_work_228 rfl (lv_at hl 0 rfl) ?_
    refine va_get (D := D) (v := .ref (a 12)) (ci := 3) (C := "CodeJudge$Machine") (T := T_Ma) (N := 7) hx hb hts in_Ma hown hK hP 3 cw_3 rfl 2 (by decide) (hts (.fieldLink "CodeJudge$Machine" 21 "CodeJudge$Machine" "heap" "LCodeJudge$Heap;") tw_1_205) (fun _ h9 => h9) rfl dMa_work_229 ?_
    refine lv_aload_n hx hb dMa_work_232 rfl (lv_at hl 0 rfl) ?_
    refine va_get (D := D) (v := .ref (a 11)) (ci := 3) (C := "CodeJudge$Machine") (T := T_Ma) (N := 7) hx hb hts in_Ma hown hK hP 3 cw_3 rfl 1 (by decide) (hts (.fieldLink "CodeJudge$Machine" 12 "CodeJudge$Machine" "frames" "LCodeJudge$Frames;") tw_1_203) (fun _ h9 => h9) rfl dMa_work_233 ?_
    obtain ⟨P11, hc11, hw⟩ := hw
    refine cc_i (va_runV (As := []) (rest := [.ref (a 12), .ref (a 11)]) ⟨hx, hb, hml, hown, hts⟩ (c_Fr_pop l D a cI cZ cQ hJ I F H.size P11 hc11) (cwV 0 hts (tb_V (C := "CodeJudge$Frames") wc_Fr_pop tw_3_174 tw_3_175 tw_3_176 tw_1_6) rfl rfl rfl (by decide +kernel) ⟨Nat.le_of_ble_eq_true rfl, Nat.le_of_ble_eq_true rfl⟩) ⟨cP_bl, va_recv hK hP rfl cw_11, cP_at hP hK hN⟩ rfl rfl hl.1 rfl (lv_room (Nat.le_of_ble_eq_true rfl)) dMa_work_236 ⟨Nat.le_of_ble_eq_true rfl, Nat.le_of_ble_eq_true rfl⟩) hS (fun r11 I11 F11 H locs hP hp11 hS => ?_)
    have hw := hw r11 I11 F11 hp11
    obtain ⟨P12, hc12, hw⟩ := hw
    refine cc_i (va_runV (As := [.int r11]) (rest := [.ref (a 11)]) ⟨hx, hb, hml, hown, hts⟩ (c_He_make l D a cI cZ cQ hJ I11 F11 r11 H.size P12 hc12) (cwV 1 hts (tb_V (C := "CodeJudge$Heap") wc_He_make tw_3_88 tw_3_89 tw_3_90 tw_1_7) rfl rfl rfl (by decide +kernel) ⟨Nat.le_of_ble_eq_true rfl, Nat.le_of_ble_eq_true rfl⟩) ⟨cP_bl, va_recv hK hP rfl cw_12, cP_at hP hK hN⟩ rfl rfl hl.1 rfl (lv_room (Nat.le_of_ble_eq_true rfl)) dMa_work_239 ⟨Nat.le_of_ble_eq_true rfl, Nat.le_of_ble_eq_true rfl⟩) hS (fun r12 I12 F12 H locs hP hp12 hS => ?_)
    have hw := hw r12 I12 F12 hp12
    obtain ⟨P13, hc13, hw⟩ := hw
    refine cc_v (va_runV (As := [.int r12]) (rest := []) ⟨hx, hb, hml, hown, hts⟩ (c_Fr_push l D a cI cZ cQ hJ I12 F12 r12 H.size P13 hc13) (cwV 1 hts (tb_V (C := "CodeJudge$Frames") wc_Fr_push tw_3_182 tw_3_183 tw_3_184 tw_1_6) rfl rfl rfl (by decide +kernel) ⟨Nat.le_of_ble_eq_true rfl, Nat.le_of_ble_eq_true rfl⟩) ⟨cP_bl, va_recv hK hP rfl cw_11, cP_at hP hK hN⟩ rfl rfl hl.1 rfl (lv_room (Nat.le_of_ble_eq_true rfl)) dMa_work_242 ⟨Nat.le_of_ble_eq_true rfl, Nat.le_of_ble_eq_true rfl⟩) hS (fun I13 F13 H locs hP hp13 hS => ?_)
    have hw := hw I13 F13 hp13
    refine lv_goto (tgt := 269) hx hb dMa_work_245 (by decide) ?_
    exact W.vret hx hb hr (fun t ht hW => ⟨⟨(I13, F13), rfl, hw, by subst ht; exact hP⟩, hS.F ht⟩) hS.2.2 dMa_work_269
  · have hw := hw.2.2.2.2.2.2.1 h1
    refine lv_aload_n hx hb dMa_work_167 rfl (lv_at hl 0 rfl) ?_
    refine va_get (D := D) (v := .ref (a 11)) (ci := 3) (C := "CodeJudge$Machine") (T := T_Ma) (N := 7) hx hb hts in_Ma hown hK hP 3 cw_3 rfl 1 (by decide) (hts (.fieldLink "CodeJudge$Machine" 12 "CodeJudge$Machine" "frames" "LCodeJudge$Frames;") tw_1_203) (fun _ h9 => h9) rfl dMa_work_168 ?_
    refine lv_iconst (v := (-1)) hx hb dMa_work_171 (by decide) ?_
    obtain ⟨P14, hc14, hw⟩ := hw
    refine cc_v (va_runV (As := [.int (-1)]) (rest := []) ⟨hx, hb, hml, hown, hts⟩ (c_Fr_push l D a cI cZ cQ hJ I F (-1) H.size P14 hc14) (cwV 1 hts (tb_V (C := "CodeJudge$Frames") wc_Fr_push tw_3_182 tw_3_183 tw_3_184 tw_1_6) rfl rfl rfl (by decide +kernel) ⟨Nat.le_of_ble_eq_true rfl, Nat.le_of_ble_eq_true rfl⟩) ⟨cP_bl, va_recv hK hP rfl cw_11, cP_at hP hK hN⟩ rfl rfl hl.1 rfl (lv_room (Nat.le_of_ble_eq_true rfl)) dMa_work_172 ⟨Nat.le_of_ble_eq_true rfl, Nat.le_of_ble_eq_true rfl⟩) hS (fun I14 F14 H locs hP hp14 hS => ?_)
    have hw := hw I14 F14 hp14
    refine lv_goto (tgt := 269) hx hb dMa_work_175 (by decide) ?_
    exact W.vret hx hb hr (fun t ht hW => ⟨⟨(I14, F14), rfl, hw, by subst ht; exact hP⟩, hS.F ht⟩) hS.2.2 dMa_work_269
  · have hw := hw.2.2.2.2.2.2.2.1 h1
    refine lv_aload_n hx hb dMa_work_178 rfl (lv_at hl 0 rfl) ?_
    refine va_get (D := D) (v := .ref (a 11)) (ci := 3) (C := "CodeJudge$Machine") (T := T_Ma) (N := 7) hx hb hts in_Ma hown hK hP 3 cw_3 rfl 1 (by decide) (hts (.fieldLink "CodeJudge$Machine" 12 "CodeJudge$Machine" "frames" "LCodeJudge$Frames;") tw_1_203) (fun _ h9 => h9) rfl dMa_work_179 ?_
    refine lv_aload_n hx hb dMa_work_182 rfl (lv_at hl 0 rfl) ?_
    refine va_get (D := D) (v := .ref (a 11)) (ci := 3) (C := "CodeJudge$Machine") (T := T_Ma) (N := 7) hx hb hts in_Ma hown hK hP 3 cw_3 rfl 1 (by decide) (hts (.fieldLink "CodeJudge$Machine" 12 "CodeJudge$Machine" "frames" "LCodeJudge$Frames;") tw_1_203) (fun _ h9 => h9) rfl dMa_work_183 ?_
    refine lv_iconst (v := 0) hx hb dMa_work_186 (by decide) ?_
    obtain ⟨P15, hc15, hw⟩ := hw
    refine cc_i (va_runV (As := [.int 0]) (rest := [.ref (a 11)]) ⟨hx, hb, hml, hown, hts⟩ (c_Fr_fromTop l D a cI cZ cQ hJ I F 0 H.size P15 hc15) (cwV 1 hts (tb_V (C := "CodeJudge$Frames") wc_Fr_fromTop tw_3_135 tw_3_136 tw_3_137 tw_1_6) rfl rfl rfl (by decide +kernel) ⟨Nat.le_of_ble_eq_true rfl, Nat.le_of_ble_eq_true rfl⟩) ⟨cP_bl, va_recv hK hP rfl cw_11, cP_at hP hK hN⟩ rfl rfl hl.1 rfl (lv_room (Nat.le_of_ble_eq_true rfl)) dMa_work_187 ⟨Nat.le_of_ble_eq_true rfl, Nat.le_of_ble_eq_true rfl⟩) hS (fun r15 I15 F15 H locs hP hp15 hS => ?_)
    have hw := hw r15 I15 F15 hp15
    obtain ⟨P16, hc16, hw⟩ := hw
    refine cc_v (va_runV (As := [.int r15]) (rest := []) ⟨hx, hb, hml, hown, hts⟩ (c_Fr_push l D a cI cZ cQ hJ I15 F15 r15 H.size P16 hc16) (cwV 1 hts (tb_V (C := "CodeJudge$Frames") wc_Fr_push tw_3_182 tw_3_183 tw_3_184 tw_1_6) rfl rfl rfl (by decide +kernel) ⟨Nat.le_of_ble_eq_true rfl, Nat.le_of_ble_eq_true rfl⟩) ⟨cP_bl, va_recv hK hP rfl cw_11, cP_at hP hK hN⟩ rfl rfl hl.1 rfl (lv_room (Nat.le_of_ble_eq_true rfl)) dMa_work_190 ⟨Nat.le_of_ble_eq_true rfl, Nat.le_of_ble_eq_true rfl⟩) hS (fun I16 F16 H locs hP hp16 hS => ?_)
    have hw := hw I16 F16 hp16
    refine lv_goto (tgt := 269) hx hb dMa_work_193 (by decide) ?_
    exact W.vret hx hb hr (fun t ht hW => ⟨⟨(I16, F16), rfl, hw, by subst ht; exact hP⟩, hS.F ht⟩) hS.2.2 dMa_work_269
  · have hw := hw.2.2.2.2.2.2.2.2.1 h1
    refine lv_aload_n hx hb dMa_work_196 rfl (lv_at hl 0 rfl) ?_
    refine va_get (D := D) (v := .ref (a 11)) (ci := 3) (C := "CodeJudge$Machine") (T := T_Ma) (N := 7) hx hb hts in_Ma hown hK hP 3 cw_3 rfl 1 (by decide) (hts (.fieldLink "CodeJudge$Machine" 12 "CodeJudge$Machine" "frames" "LCodeJudge$Frames;") tw_1_203) (fun _ h9 => h9) rfl dMa_work_197 ?_
    obtain ⟨P17, hc17, hw⟩ := hw
    refine cc_i (va_runV (As := []) (rest := []) ⟨hx, hb, hml, hown, hts⟩ (c_Fr_pop l D a cI cZ cQ hJ I F H.size P17 hc17) (cwV 0 hts (tb_V (C := "CodeJudge$Frames") wc_Fr_pop tw_3_174 tw_3_175 tw_3_176 tw_1_6) rfl rfl rfl (by decide +kernel) ⟨Nat.le_of_ble_eq_true rfl, Nat.le_of_ble_eq_true rfl⟩) ⟨cP_bl, va_recv hK hP rfl cw_11, cP_at hP hK hN⟩ rfl rfl hl.1 rfl (lv_room (Nat.le_of_ble_eq_true rfl)) dMa_work_200 ⟨Nat.le_of_ble_eq_true rfl, Nat.le_of_ble_eq_true rfl⟩) hS (fun r17 I17 F17 H locs hP hp17 hS => ?_)
    have hw := hw r17 I17 F17 hp17
    refine lv_pop hx hb dMa_work_203 rfl ?_
    refine lv_goto (tgt := 269) hx hb dMa_work_204 (by decide) ?_
    exact W.vret hx hb hr (fun t ht hW => ⟨⟨(I17, F17), rfl, hw, by subst ht; exact hP⟩, hS.F ht⟩) hS.2.2 dMa_work_269
  · have hw := hw.2.2.2.2.2.2.2.2.2.1 h1
    refine lv_aload_n hx hb dMa_work_207 rfl (lv_at hl 0 rfl) ?_
    refine va_get (D := D) (v := .ref (a 13)) (ci := 3) (C := "CodeJudge$Machine") (T := T_Ma) (N := 7) hx hb hts in_Ma hown hK hP 3 cw_3 rfl 3 (by decide) (hts (.fieldLink "CodeJudge$Machine" 28 "CodeJudge$Machine" "outputs" "LCodeJudge$Outputs;") tw_1_207) (fun _ h9 => h9) rfl dMa_work_208 ?_
    refine lv_aload_n hx hb dMa_work_211 rfl (lv_at hl 0 rfl) ?_
    refine va_get (D := D) (v := .ref (a 11)) (ci := 3) (C := "CodeJudge$Machine") (T := T_Ma) (N := 7) hx hb hts in_Ma hown hK hP 3 cw_3 rfl 1 (by decide) (hts (.fieldLink "CodeJudge$Machine" 12 "CodeJudge$Machine" "frames" "LCodeJudge$Frames;") tw_1_203) (fun _ h9 => h9) rfl dMa_work_212 ?_
    obtain ⟨P18, hc18, hw⟩ := hw
    refine cc_i (va_runV (As := []) (rest := [.ref (a 13)]) ⟨hx, hb, hml, hown, hts⟩ (c_Fr_pop l D a cI cZ cQ hJ I F H.size P18 hc18) (cwV 0 hts (tb_V (C := "CodeJudge$Frames") wc_Fr_pop tw_3_174 tw_3_175 tw_3_176 tw_1_6) rfl rfl rfl (by decide +kernel) ⟨Nat.le_of_ble_eq_true rfl, Nat.le_of_ble_eq_true rfl⟩) ⟨cP_bl, va_recv hK hP rfl cw_11, cP_at hP hK hN⟩ rfl rfl hl.1 rfl (lv_room (Nat.le_of_ble_eq_true rfl)) dMa_work_215 ⟨Nat.le_of_ble_eq_true rfl, Nat.le_of_ble_eq_true rfl⟩) hS (fun r18 I18 F18 H locs hP hp18 hS => ?_)
    have hw := hw r18 I18 F18 hp18
    obtain ⟨P19, hc19, hw⟩ := hw
    refine cc_v (va_runV (As := [.int r18]) (rest := []) ⟨hx, hb, hml, hown, hts⟩ (c_Ou_append l D a cI cZ cQ hJ I18 F18 r18 H.size P19 hc19) (cwV 1 hts (tb_V (C := "CodeJudge$Outputs") wc_Ou_append tw_3_228 tw_3_229 tw_3_230 tw_1_8) rfl rfl rfl (by decide +kernel) ⟨Nat.le_of_ble_eq_true rfl, Nat.le_of_ble_eq_true rfl⟩) ⟨cP_bl, va_recv hK hP rfl cw_13, cP_at hP hK hN⟩ rfl rfl hl.1 rfl (lv_room (Nat.le_of_ble_eq_true rfl)) dMa_work_218 ⟨Nat.le_of_ble_eq_true rfl, Nat.le_of_ble_eq_true rfl⟩) hS (fun I19 F19 H locs hP hp19 hS => ?_)
    have hw := hw I19 F19 hp19
    refine lv_goto (tgt := 269) hx hb dMa_work_221 (by decide) ?_
    exact W.vret hx hb hr (fun t ht hW => ⟨⟨(I19, F19), rfl, hw, by subst ht; exact hP⟩, hS.F ht⟩) hS.2.2 dMa_work_269
  · have hw := hw.2.2.2.2.2.2.2.2.2.2 h1
    refine lv_aload_n hx hb dMa_work_248 rfl (lv_at hl 0 rfl) ?_
    refine va_get (D := D) (v := .ref (a 11)) (ci := 3) (C := "CodeJudge$Machine") (T := T_Ma) (N := 7) hx hb hts in_Ma hown hK hP 3 cw_3 rfl 1 (by decide) (hts (.fieldLink "CodeJudge$Machine" 12 "CodeJudge$Machine" "frames" "LCodeJudge$Frames;") tw_1_203) (fun _ h9 => h9) rfl dMa_work_249 ?_
    refine lv_aload_n hx hb dMa_work_252 rfl (lv_at hl 0 rfl) ?_
    refine va_get (D := D) (v := .ref (a 12)) (ci := 3) (C := "CodeJudge$Machine") (T := T_Ma) (N := 7) hx hb hts in_Ma hown hK hP 3 cw_3 rfl 2 (by decide) (hts (.fieldLink "CodeJudge$Machine" 21 "CodeJudge$Machine" "heap" "LCodeJudge$Heap;") tw_1_205) (fun _ h9 => h9) rfl dMa_work_253 ?_
    refine lv_aload_n hx hb dMa_work_256 rfl (lv_at hl 0 rfl) ?_
    refine va_get (D := D) (v := .ref (a 11)) (ci := 3) (C := "CodeJudge$Machine") (T := T_Ma) (N := 7) hx hb hts in_Ma hown hK hP 3 cw_3 rfl 1 (by decide) (hts (.fieldLink "CodeJudge$Machine" 12 "CodeJudge$Machine" "frames" "LCodeJudge$Frames;") tw_1_203) (fun _ h9 => h9) rfl dMa_work_257 ?_
    obtain ⟨P20, hc20, hw⟩ := hw
    refine cc_i (va_runV (As := []) (rest := [.ref (a 12), .ref (a 11)]) ⟨hx, hb, hml, hown, hts⟩ (c_Fr_pop l D a cI cZ cQ hJ I F H.size P20 hc20) (cwV 0 hts (tb_V (C := "CodeJudge$Frames") wc_Fr_pop tw_3_174 tw_3_175 tw_3_176 tw_1_6) rfl rfl rfl (by decide +kernel) ⟨Nat.le_of_ble_eq_true rfl, Nat.le_of_ble_eq_true rfl⟩) ⟨cP_bl, va_recv hK hP rfl cw_11, cP_at hP hK hN⟩ rfl rfl hl.1 rfl (lv_room (Nat.le_of_ble_eq_true rfl)) dMa_work_260 ⟨Nat.le_of_ble_eq_true rfl, Nat.le_of_ble_eq_true rfl⟩) hS (fun r20 I20 F20 H locs hP hp20 hS => ?_)
    have hw := hw r20 I20 F20 hp20
    obtain ⟨P21, hc21, hw⟩ := hw
    refine cc_i (va_runV (As := [.int r20]) (rest := [.ref (a 11)]) ⟨hx, hb, hml, hown, hts⟩ (c_He_lengthOf l D a cI cZ cQ hJ I20 F20 r20 H.size P21 hc21) (cwV 1 hts (tb_V (C := "CodeJudge$Heap") wc_He_lengthOf tw_3_235 tw_3_236 tw_3_237 tw_1_7) rfl rfl rfl (by decide +kernel) ⟨Nat.le_of_ble_eq_true rfl, Nat.le_of_ble_eq_true rfl⟩) ⟨cP_bl, va_recv hK hP rfl cw_12, cP_at hP hK hN⟩ rfl rfl hl.1 rfl (lv_room (Nat.le_of_ble_eq_true rfl)) dMa_work_263 ⟨Nat.le_of_ble_eq_true rfl, Nat.le_of_ble_eq_true rfl⟩) hS (fun r21 I21 F21 H locs hP hp21 hS => ?_)
    have hw := hw r21 I21 F21 hp21
    obtain ⟨P22, hc22, hw⟩ := hw
    refine cc_v (va_runV (As := [.int r21]) (rest := []) ⟨hx, hb, hml, hown, hts⟩ (c_Fr_push l D a cI cZ cQ hJ I21 F21 r21 H.size P22 hc22) (cwV 1 hts (tb_V (C := "CodeJudge$Frames") wc_Fr_push tw_3_182 tw_3_183 tw_3_184 tw_1_6) rfl rfl rfl (by decide +kernel) ⟨Nat.le_of_ble_eq_true rfl, Nat.le_of_ble_eq_true rfl⟩) ⟨cP_bl, va_recv hK hP rfl cw_11, cP_at hP hK hN⟩ rfl rfl hl.1 rfl (lv_room (Nat.le_of_ble_eq_true rfl)) dMa_work_266 ⟨Nat.le_of_ble_eq_true rfl, Nat.le_of_ble_eq_true rfl⟩) hS (fun I22 F22 H locs hP hp22 hS => ?_)
    have hw := hw I22 F22 hp22
    exact W.vret hx hb hr (fun t ht hW => ⟨⟨(I22, F22), rfl, hw, by subst ht; exact hP⟩, hS.F ht⟩) hS.2.2 dMa_work_269
