def wp_Ju_follow_168 (Post : Int32 → SI → SF → Prop)  (I : SI) (F : SF) : Prop := Post 1 I F
def wp_Ju_follow_150 (Post : Int32 → SI → SF → Prop) (kx2 : Nat) (x3 : Int32) (x4 : Int32) (I : SI) (F : SF) : Prop := (x4 = 14 → (wp_Ju_follow_168 Post I F)) ∧ (¬ x4 = 14 → (∃ P16 : Int32 → SI → SF → Prop, wp_Ju_arrive kx2 (x3 + 1) I F P16 ∧ ∀ r16 I16 F16, P16 r16 I16 F16 → ((r16 = 0 → (Post 0 I16 F16)) ∧ (¬ r16 = 0 → (wp_Ju_follow_168 Post I16 F16)))))
def wp_Ju_follow (k2 : Nat) (p3 : Int32) (I : SI) (F : SF) (Post : Int32 → SI → SF → Prop) : Prop := ∃ P1 : Int32 → SI → SF → Prop, wp_Me_orderAt k2 p3 I F P1 ∧ ∀ r1 I1 F1, P1 r1 I1 F1 → (∃ P2 : Int32 → SI → SF → Prop, wp_Me_numberAt k2 p3 I1 F1 P2 ∧ ∀ r2 I2 F2, P2 r2 I2 F2 → (vp_in p3 120 ∧ (vp_in p3 120 ∧ (vp_in p3 120 ∧ (vp_in p3 120 ∧ (∃ P7 : Int32 → SI → SF → Prop, wp_Ju_isThere k2 r1 r2 (va_up (va_up (va_up (va_up I2 5 ((F2 4) p3.toNatClampNeg)) 6 ((F2 5) p3.toNatClampNeg)) 7 ((F2 6) p3.toNatClampNeg)) 8 ((F2 7) p3.toNatClampNeg)) F2 P7 ∧ ∀ r7 I7 F7, P7 r7 I7 F7 → ((r7 = 0 → (Post 0 I7 F7)) ∧ (¬ r7 = 0 → (∃ P9 : Int32 → SI → SF → Prop, wp_Ju_change k2 r1 r2 I7 F7 P9 ∧ ∀ r9 I9 F9, P9 r9 I9 F9 → ((r9 = 0 → (Post 0 I9 F9)) ∧ (¬ r9 = 0 → (((I9 5) ≤ (I9 (25 + 10 * k2)) → ((¬ r1 = 24 → (∃ P13 : Int32 → SI → SF → Prop, wp_Or_namesPlace r1 I9 F9 P13 ∧ ∀ r13 I13 F13, P13 r13 I13 F13 → ((r13 = 0 → (wp_Ju_follow_150 Post k2 p3 r1 I13 F13)) ∧ (¬ r13 = 0 → (∃ P18 : Int32 → SI → SF → Prop, wp_Ju_arrive k2 r2 I13 F13 P18 ∧ ∀ r18 I18 F18, P18 r18 I18 F18 → ((¬ r18 = 0 → (wp_Ju_follow_150 Post k2 p3 r1 I18 F18)) ∧ (r18 = 0 → (Post 0 I18 F18)))))))) ∧ (r1 = 24 → ((¬ (I9 5) = 0 → (Post 0 I9 F9)) ∧ ((I9 5) = 0 → (Post 1 I9 F9)))))) ∧ (¬ (I9 5) ≤ (I9 (25 + 10 * k2)) → (Post 0 I9 F9))))))))))))))
set_option maxHeartbeats 4000000 in
set_option maxRecDepth 100000 in
theorem c_Ju_follow (l : Launch) (D : va_G) (a : Nat → Nat) (cI cZ cQ : ClassId) (hJ : xJ 47 a) (I : SI) (F : SF) (k2 : Nat) (p3 : Int32) (hk2 : k2 < 8) (sz : Nat) (Post : Int32 → SI → SF → Prop) (hw : wp_Ju_follow k2 p3 I F Post) : Met l y_Ju_follow (Cond.code y_Ju_follow b_Ju_follow 6 (some .boolean) :: TB) { frames := 3, cells := 0, slots := 0, locals := 66 } (va_Pc [.ref (a 2), .ref (a 1), .ref (a (23 + 3 * k2)), .int p3] (cP D a cI cZ cQ I F sz)) (va_Qi (fun r (u : SI × SF) => Post r u.1 u.2) (fun u t => va_P D vwCl (cw a cI cZ cQ u.1 u.2) t.heap) (xA 47 a sz)) 0 0 (xA 47 a sz) := by
  refine Met.ofW (cc := b_Ju_follow) (maxL := 6) (ret := (some .boolean)) (by decide) rfl ?_
  intro p e s m args below meth c s₁ B hml hv
  obtain ⟨rfl, rfl, hP, hK, hN⟩ := hv
  have hx := B.exec
  have hb := B.bytes
  have hr := B.returns
  have hts : ∀ w ∈ TB, w.before _ s = true := fun w h => atoms_spec (ws := Cond.code y_Ju_follow b_Ju_follow 6 (some .boolean) :: TB) B.pre w (List.mem_cons_of_mem _ h)
  have hown : s.vm.findClass "CodeJudge$Judge" = some m.cls := findClass_of_methodNamed B.named
  have hlocks := B.notSynchronized
  have hl := lv_entry ([.ref (a 2), .ref (a 1), .ref (a (23 + 3 * k2)), .int p3]) (n := 6) (Nat.le_of_ble_eq_true rfl)
  rw [lg_entry_eq]
  generalize (lg_sl ([.ref (a 2), .ref (a 1), .ref (a (23 + 3 * k2)), .int p3]) ++ List.replicate (6 - (lg_sl ([.ref (a 2), .ref (a 1), .ref (a (23 + 3 * k2)), .int p3])).length) Slot.unset).toArray = ls at hl ⊢
  have hl : lv_has ls 6 [(0, .ref (a 2)), (1, .ref (a 1)), (2, .ref (a (23 + 3 * k2))), (3, .int p3)] := hl
  obtain ⟨Q, hQ⟩ : ∃ Q, Q = MQ below (va_Qi (fun r (u : SI × SF) => Post r u.1 u.2) (fun u t => va_P D vwCl (cw a cI cZ cQ u.1 u.2) t.heap) (xA 47 a s.heap.size)) ([.ref (a 2), .ref (a 1), .ref (a (23 + 3 * k2)), .int p3]).toArray s 0 0 (xA 47 a s.heap.size) := ⟨_, rfl⟩
  rw [← hQ]
  have J168 : ∀ (I : SI) (F : SF) (H : Heap) (locs : List Loc) (ls : Array Slot), lv_has ls 6 [] → va_P D vwCl (cw a cI cZ cQ I F) H → va_S (xA 47 a s.heap.size) s.heap H locs → wp_Ju_follow_168 Post I F → W p l e (headSpec (Cond.code y_Ju_follow b_Ju_follow 6 (some .boolean) :: TB) { frames := 3, cells := 0, slots := 0, locals := 66 }).room s m ([.ref (a 2), .ref (a 1), .ref (a (23 + 3 * k2)), .int p3]).toArray below meth c H locs 0 0 Q (F0 m 168 ls []) := by
    intro I F H locs ls hl hP hS hw
    dsimp only [wp_Ju_follow_168] at hw
    refine lv_iconst (v := 1) hx hb dJu_follow_168 (by decide) ?_
    refine lv_goto (tgt := 173) hx hb dJu_follow_169 (by decide) ?_
    rw [hQ]
    exact W.zret (v := 1) hx hb hr rfl (fun t ht hW => ⟨⟨1, (I, F), rfl, hw, by subst ht; exact hP⟩, hS.F ht⟩) hS.2.2 dJu_follow_173
  have J150 : ∀ (kx2 : Nat) (x3 : Int32) (x4 : Int32) (I : SI) (F : SF) (H : Heap) (locs : List Loc) (ls : Array Slot) (hkx2 : kx2 < 8), lv_has ls 6 [(0, .ref (a 2)), (2, .ref (a (23 + 3 * kx2))), (3, .int x3), (4, .int x4)] → va_P D vwCl (cw a cI cZ cQ I F) H → va_S (xA 47 a s.heap.size) s.heap H locs → wp_Ju_follow_150 Post kx2 x3 x4 I F → W p l e (headSpec (Cond.code y_Ju_follow b_Ju_follow 6 (some .boolean) :: TB) { frames := 3, cells := 0, slots := 0, locals := 66 }).room s m ([.ref (a 2), .ref (a 1), .ref (a (23 + 3 * k2)), .int p3]).toArray below meth c H locs 0 0 Q (F0 m 150 ls []) := by
    intro kx2 x3 x4 I F H locs ls hkx2 hl hP hS hw
    dsimp only [wp_Ju_follow_150] at hw
    refine lv_iload hx hb dJu_follow_150 (lv_at hl 3 rfl) ?_
    refine lv_bipush (v := 14) hx hb dJu_follow_152 (by decide) ?_
    refine lv_icmp_eq (tgt := 168) hx hb dJu_follow_154 (by decide) (fun h15 => ?_) (fun h15 => ?_)
    · have hw := hw.1 h15
      exact J168 I F H locs ls (lv_sub hl [] rfl) hP hS hw
    · have hw := hw.2 h15
      refine lv_aload_n hx hb dJu_follow_157 rfl (lv_at hl 0 rfl) ?_
      refine lv_aload_n hx hb dJu_follow_158 rfl (lv_at hl 1 rfl) ?_
      refine lv_iload_n hx hb dJu_follow_159 rfl (lv_at hl 2 rfl) ?_
      refine lv_iconst (v := 1) hx hb dJu_follow_160 (by decide) ?_
      refine lv_iadd hx hb dJu_follow_161 ?_
      obtain ⟨P16, hc16, hw⟩ := hw
      refine cc_i (va_runV (As := [.ref (a (23 + 3 * kx2)), .int (x3 + 1)]) (rest := []) ⟨hx, hb, hml, hown, hts⟩ (c_Ju_arrive l D a cI cZ cQ hJ I F kx2 (x3 + 1) hkx2 H.size P16 hc16) (cwV 2 hts (tb_V (C := "CodeJudge$Judge") wc_Ju_arrive tw_2_177 tw_2_179 tw_0_4 tw_1_3) rfl rfl rfl (by decide +kernel) ⟨Nat.le_of_ble_eq_true rfl, Nat.le_of_ble_eq_true rfl⟩) ⟨cP_bl, va_recv hK hP rfl cw_2, cP_at hP hK hN⟩ rfl rfl hl.1 rfl (lv_room (Nat.le_of_ble_eq_true rfl)) dJu_follow_162 ⟨Nat.le_of_ble_eq_true rfl, Nat.le_of_ble_eq_true rfl⟩) hS (fun r16 I16 F16 H locs hP hp16 hS => ?_)
      have hw := hw r16 I16 F16 hp16
      refine lv_if_eq (tgt := 172) hx hb dJu_follow_165 (by decide) (fun h17 => ?_) (fun h17 => ?_)
      · have hw := hw.1 h17
        refine lv_iconst (v := 0) hx hb dJu_follow_172 (by decide) ?_
        rw [hQ]
        exact W.zret (v := 0) hx hb hr rfl (fun t ht hW => ⟨⟨0, (I16, F16), rfl, hw, by subst ht; exact hP⟩, hS.F ht⟩) hS.2.2 dJu_follow_173
      · have hw := hw.2 h17
        exact J168 I16 F16 H locs ls (lv_sub hl [] rfl) hP hS hw
  suffices hM : ∀ (H : Heap) (locs : List Loc), va_P D vwCl (cw a cI cZ cQ I F) H → va_S (xA 47 a s.heap.size) s.heap H locs → W p l e (headSpec (Cond.code y_Ju_follow b_Ju_follow 6 (some .boolean) :: TB) { frames := 3, cells := 0, slots := 0, locals := 66 }).room s m ([.ref (a 2), .ref (a 1), .ref (a (23 + 3 * k2)), .int p3]).toArray below meth c H locs 0 0 (Q) (F0 m 0 ls []) from hM s.heap [] hP va_S.rf
  clear hP
  intro H locs hP hS
  dsimp only [wp_Ju_follow] at hw
  refine lv_aload_n hx hb dJu_follow_0 rfl (lv_at hl 2 rfl) ?_
  refine lv_iload_n hx hb dJu_follow_1 rfl (lv_at hl 3 rfl) ?_
  obtain ⟨P1, hc1, hw⟩ := hw
  refine cc_i (va_runV (As := [.int p3]) (rest := []) ⟨hx, hb, hml, hown, hts⟩ (c_Me_orderAt l D a cI cZ cQ hJ I F k2 p3 hk2 H.size P1 hc1) (cwV 1 hts (tb_V (C := "CodeJudge$Method") wc_Me_orderAt tw_2_190 tw_2_191 tw_2_192 tw_1_2) rfl rfl rfl (by decide +kernel) ⟨Nat.le_of_ble_eq_true rfl, Nat.le_of_ble_eq_true rfl⟩) ⟨cP_bl, va_recv hK hP rfl (cw_M hk2), cP_at hP hK hN⟩ rfl rfl hl.1 rfl (lv_room (Nat.le_of_ble_eq_true rfl)) dJu_follow_2 ⟨Nat.le_of_ble_eq_true rfl, Nat.le_of_ble_eq_true rfl⟩) hS (fun r1 I1 F1 H locs hP hp1 hS => ?_)
  have hw := hw r1 I1 F1 hp1
  refine lv_istore (lv' := [(4, .int r1), (0, .ref (a 2)), (1, .ref (a 1)), (2, .ref (a (23 + 3 * k2))), (3, .int p3)]) hx hb dJu_follow_5 hl (by decide) rfl (fun ls hl => ?_)
  refine lv_aload_n hx hb dJu_follow_7 rfl (lv_at hl 3 rfl) ?_
  refine lv_iload_n hx hb dJu_follow_8 rfl (lv_at hl 4 rfl) ?_
  obtain ⟨P2, hc2, hw⟩ := hw
  refine cc_i (va_runV (As := [.int p3]) (rest := []) ⟨hx, hb, hml, hown, hts⟩ (c_Me_numberAt l D a cI cZ cQ hJ I1 F1 k2 p3 hk2 H.size P2 hc2) (cwV 1 hts (tb_V (C := "CodeJudge$Method") wc_Me_numberAt tw_2_194 tw_2_143 tw_2_144 tw_1_2) rfl rfl rfl (by decide +kernel) ⟨Nat.le_of_ble_eq_true rfl, Nat.le_of_ble_eq_true rfl⟩) ⟨cP_bl, va_recv hK hP rfl (cw_M hk2), cP_at hP hK hN⟩ rfl rfl hl.1 rfl (lv_room (Nat.le_of_ble_eq_true rfl)) dJu_follow_9 ⟨Nat.le_of_ble_eq_true rfl, Nat.le_of_ble_eq_true rfl⟩) hS (fun r2 I2 F2 H locs hP hp2 hS => ?_)
  have hw := hw r2 I2 F2 hp2
  refine lv_istore (lv' := [(5, .int r2), (4, .int r1), (0, .ref (a 2)), (1, .ref (a 1)), (2, .ref (a (23 + 3 * k2))), (3, .int p3)]) hx hb dJu_follow_12 hl (by decide) rfl (fun ls hl => ?_)
  refine lv_aload_n hx hb dJu_follow_14 rfl (lv_at hl 2 rfl) ?_
  refine va_get (D := D) (v := .ref (a 10)) (ci := 2) (C := "CodeJudge$Judge") (T := T_Ju) (N := 8) hx hb hts in_Ju hown hK hP 2 cw_2 rfl 7 (by decide) (hts (.fieldLink "CodeJudge$Judge" 34 "CodeJudge$Judge" "now" "LCodeJudge$Shape;") tw_1_112) (fun _ h9 => h9) rfl dJu_follow_15 ?_
  refine lv_aload_n hx hb dJu_follow_18 rfl (lv_at hl 2 rfl) ?_
  refine va_get (D := D) (v := .ref (a 4)) (ci := 2) (C := "CodeJudge$Judge") (T := T_Ju) (N := 8) hx hb hts in_Ju hown hK hP 2 cw_2 rfl 0 (by decide) (hts (.fieldLink "CodeJudge$Judge" 9 "CodeJudge$Judge" "heights" "[I") tw_1_105) (fun _ h9 => h9) rfl dJu_follow_19 ?_
  refine lv_iload_n hx hb dJu_follow_22 rfl (lv_at hl 5 rfl) ?_
  obtain ⟨h3, hw⟩ := hw
  refine va_iald hx hb hK hP 4 0 cw_4 rfl h3 dJu_follow_23 ?_
  refine va_put (D := D) (ci := 6) (v := .int ((F2 4) p3.toNatClampNeg)) (ty := .int) (C := "CodeJudge$Shape") (T := T_Sh) (N := 4) hx hb hts in_Sh ty_Sh ok_Sh nm_Sh hown hK hP (cD hJ) hS 10 cw_10 rfl 0 (by decide) (hts (.fieldLink "CodeJudge$Judge" 54 "CodeJudge$Shape" "high" "I") tw_1_88) (fun _ h9 => h9) rfl (by decide +kernel) rfl rfl (Nat.le_of_ble_eq_true rfl) dJu_follow_24 (fun H locs hP _ hS => ?_)
  have hP := cwp_5 hP
  refine lv_aload_n hx hb dJu_follow_27 rfl (lv_at hl 2 rfl) ?_
  refine va_get (D := D) (v := .ref (a 10)) (ci := 2) (C := "CodeJudge$Judge") (T := T_Ju) (N := 8) hx hb hts in_Ju hown hK hP 2 cw_2 rfl 7 (by decide) (hts (.fieldLink "CodeJudge$Judge" 34 "CodeJudge$Judge" "now" "LCodeJudge$Shape;") tw_1_112) (fun _ h9 => h9) rfl dJu_follow_28 ?_
  refine lv_aload_n hx hb dJu_follow_31 rfl (lv_at hl 2 rfl) ?_
  refine va_get (D := D) (v := .ref (a 5)) (ci := 2) (C := "CodeJudge$Judge") (T := T_Ju) (N := 8) hx hb hts in_Ju hown hK hP 2 cw_2 rfl 1 (by decide) (hts (.fieldLink "CodeJudge$Judge" 15 "CodeJudge$Judge" "stacks" "[I") tw_1_106) (fun _ h9 => h9) rfl dJu_follow_32 ?_
  refine lv_iload_n hx hb dJu_follow_35 rfl (lv_at hl 5 rfl) ?_
  obtain ⟨h4, hw⟩ := hw
  refine va_iald hx hb hK hP 5 0 cw_5 rfl h4 dJu_follow_36 ?_
  refine va_put (D := D) (ci := 6) (v := .int ((F2 5) p3.toNatClampNeg)) (ty := .int) (C := "CodeJudge$Shape") (T := T_Sh) (N := 4) hx hb hts in_Sh ty_Sh ok_Sh nm_Sh hown hK hP (cD hJ) hS 10 cw_10 rfl 1 (by decide) (hts (.fieldLink "CodeJudge$Judge" 57 "CodeJudge$Shape" "stack" "I") tw_1_90) (fun _ h9 => h9) rfl (by decide +kernel) rfl rfl (Nat.le_of_ble_eq_true rfl) dJu_follow_37 (fun H locs hP _ hS => ?_)
  have hP := cwp_6 hP
  refine lv_aload_n hx hb dJu_follow_40 rfl (lv_at hl 2 rfl) ?_
  refine va_get (D := D) (v := .ref (a 10)) (ci := 2) (C := "CodeJudge$Judge") (T := T_Ju) (N := 8) hx hb hts in_Ju hown hK hP 2 cw_2 rfl 7 (by decide) (hts (.fieldLink "CodeJudge$Judge" 34 "CodeJudge$Judge" "now" "LCodeJudge$Shape;") tw_1_112) (fun _ h9 => h9) rfl dJu_follow_41 ?_
  refine lv_aload_n hx hb dJu_follow_44 rfl (lv_at hl 2 rfl) ?_
  refine va_get (D := D) (v := .ref (a 6)) (ci := 2) (C := "CodeJudge$Judge") (T := T_Ju) (N := 8) hx hb hts in_Ju hown hK hP 2 cw_2 rfl 2 (by decide) (hts (.fieldLink "CodeJudge$Judge" 18 "CodeJudge$Judge" "intLocals" "[I") tw_1_107) (fun _ h9 => h9) rfl dJu_follow_45 ?_
  refine lv_iload_n hx hb dJu_follow_48 rfl (lv_at hl 5 rfl) ?_
  obtain ⟨h5, hw⟩ := hw
  refine va_iald hx hb hK hP 6 0 cw_6 rfl h5 dJu_follow_49 ?_
  refine va_put (D := D) (ci := 6) (v := .int ((F2 6) p3.toNatClampNeg)) (ty := .int) (C := "CodeJudge$Shape") (T := T_Sh) (N := 4) hx hb hts in_Sh ty_Sh ok_Sh nm_Sh hown hK hP (cD hJ) hS 10 cw_10 rfl 2 (by decide) (hts (.fieldLink "CodeJudge$Judge" 68 "CodeJudge$Shape" "intLocals" "I") tw_1_91) (fun _ h9 => h9) rfl (by decide +kernel) rfl rfl (Nat.le_of_ble_eq_true rfl) dJu_follow_50 (fun H locs hP _ hS => ?_)
  have hP := cwp_7 hP
  refine lv_aload_n hx hb dJu_follow_53 rfl (lv_at hl 2 rfl) ?_
  refine va_get (D := D) (v := .ref (a 10)) (ci := 2) (C := "CodeJudge$Judge") (T := T_Ju) (N := 8) hx hb hts in_Ju hown hK hP 2 cw_2 rfl 7 (by decide) (hts (.fieldLink "CodeJudge$Judge" 34 "CodeJudge$Judge" "now" "LCodeJudge$Shape;") tw_1_112) (fun _ h9 => h9) rfl dJu_follow_54 ?_
  refine lv_aload_n hx hb dJu_follow_57 rfl (lv_at hl 2 rfl) ?_
  refine va_get (D := D) (v := .ref (a 7)) (ci := 2) (C := "CodeJudge$Judge") (T := T_Ju) (N := 8) hx hb hts in_Ju hown hK hP 2 cw_2 rfl 3 (by decide) (hts (.fieldLink "CodeJudge$Judge" 21 "CodeJudge$Judge" "arrayLocals" "[I") tw_1_108) (fun _ h9 => h9) rfl dJu_follow_58 ?_
  refine lv_iload_n hx hb dJu_follow_61 rfl (lv_at hl 5 rfl) ?_
  obtain ⟨h6, hw⟩ := hw
  refine va_iald hx hb hK hP 7 0 cw_7 rfl h6 dJu_follow_62 ?_
  refine va_put (D := D) (ci := 6) (v := .int ((F2 7) p3.toNatClampNeg)) (ty := .int) (C := "CodeJudge$Shape") (T := T_Sh) (N := 4) hx hb hts in_Sh ty_Sh ok_Sh nm_Sh hown hK hP (cD hJ) hS 10 cw_10 rfl 3 (by decide) (hts (.fieldLink "CodeJudge$Judge" 70 "CodeJudge$Shape" "arrayLocals" "I") tw_1_93) (fun _ h9 => h9) rfl (by decide +kernel) rfl rfl (Nat.le_of_ble_eq_true rfl) dJu_follow_63 (fun H locs hP _ hS => ?_)
  have hP := cwp_8 hP
  refine lv_aload_n hx hb dJu_follow_66 rfl (lv_at hl 3 rfl) ?_
  refine lv_aload_n hx hb dJu_follow_67 rfl (lv_at hl 4 rfl) ?_
  refine lv_iload hx hb dJu_follow_68 (lv_at hl 1 rfl) ?_
  refine lv_iload hx hb dJu_follow_70 (lv_at hl 0 rfl) ?_
  obtain ⟨P7, hc7, hw⟩ := hw
  refine cc_i (va_runS (As := [.ref (a 1), .ref (a (23 + 3 * k2)), .int r1, .int r2]) (rest := []) ⟨hx, hb, hml, hown, hts⟩ (c_Ju_isThere l D a cI cZ cQ hJ (va_up (va_up (va_up (va_up I2 5 ((F2 4) p3.toNatClampNeg)) 6 ((F2 5) p3.toNatClampNeg)) 7 ((F2 6) p3.toNatClampNeg)) 8 ((F2 7) p3.toNatClampNeg)) F2 k2 r1 r2 hk2 H.size P7 hc7) (va_cwS 4 hts (tb_S wc_Ju_isThere tw_2_195 tw_2_196 tw_1_3) rfl rfl rfl (by decide +kernel) ⟨Nat.le_of_ble_eq_true rfl, Nat.le_of_ble_eq_true rfl⟩) ⟨cP_bl, cP_at hP hK hN⟩ rfl rfl hl.1 rfl (lv_room (Nat.le_of_ble_eq_true rfl)) dJu_follow_72 ⟨Nat.le_of_ble_eq_true rfl, Nat.le_of_ble_eq_true rfl⟩) hS (fun r7 I7 F7 H locs hP hp7 hS => ?_)
  have hw := hw r7 I7 F7 hp7
  refine lv_if_eq (tgt := 105) hx hb dJu_follow_75 (by decide) (fun h8 => ?_) (fun h8 => ?_)
  · have hw := hw.1 h8
    refine lv_iconst (v := 0) hx hb dJu_follow_105 (by decide) ?_
    rw [hQ]
    exact W.zret (v := 0) hx hb hr rfl (fun t ht hW => ⟨⟨0, (I7, F7), rfl, hw, by subst ht; exact hP⟩, hS.F ht⟩) hS.2.2 dJu_follow_106
  · have hw := hw.2 h8
    refine lv_aload_n hx hb dJu_follow_78 rfl (lv_at hl 2 rfl) ?_
    refine lv_aload_n hx hb dJu_follow_79 rfl (lv_at hl 3 rfl) ?_
    refine lv_aload_n hx hb dJu_follow_80 rfl (lv_at hl 4 rfl) ?_
    refine lv_iload hx hb dJu_follow_81 (lv_at hl 1 rfl) ?_
    refine lv_iload hx hb dJu_follow_83 (lv_at hl 0 rfl) ?_
    obtain ⟨P9, hc9, hw⟩ := hw
    refine cc_i (va_runV (As := [.ref (a 1), .ref (a (23 + 3 * k2)), .int r1, .int r2]) (rest := []) ⟨hx, hb, hml, hown, hts⟩ (c_Ju_change l D a cI cZ cQ hJ I7 F7 k2 r1 r2 hk2 H.size P9 hc9) (cwV 4 hts (tb_V (C := "CodeJudge$Judge") wc_Ju_change tw_2_205 tw_2_207 tw_0_7 tw_1_3) rfl rfl rfl (by decide +kernel) ⟨Nat.le_of_ble_eq_true rfl, Nat.le_of_ble_eq_true rfl⟩) ⟨cP_bl, va_recv hK hP rfl cw_2, cP_at hP hK hN⟩ rfl rfl hl.1 rfl (lv_room (Nat.le_of_ble_eq_true rfl)) dJu_follow_85 ⟨Nat.le_of_ble_eq_true rfl, Nat.le_of_ble_eq_true rfl⟩) hS (fun r9 I9 F9 H locs hP hp9 hS => ?_)
    have hw := hw r9 I9 F9 hp9
    refine lv_if_eq (tgt := 105) hx hb dJu_follow_88 (by decide) (fun h10 => ?_) (fun h10 => ?_)
    · have hw := hw.1 h10
      refine lv_iconst (v := 0) hx hb dJu_follow_105 (by decide) ?_
      rw [hQ]
      exact W.zret (v := 0) hx hb hr rfl (fun t ht hW => ⟨⟨0, (I9, F9), rfl, hw, by subst ht; exact hP⟩, hS.F ht⟩) hS.2.2 dJu_follow_106
    · have hw := hw.2 h10
      refine lv_aload_n hx hb dJu_follow_91 rfl (lv_at hl 2 rfl) ?_
      refine va_get (D := D) (v := .ref (a 10)) (ci := 2) (C := "CodeJudge$Judge") (T := T_Ju) (N := 8) hx hb hts in_Ju hown hK hP 2 cw_2 rfl 7 (by decide) (hts (.fieldLink "CodeJudge$Judge" 34 "CodeJudge$Judge" "now" "LCodeJudge$Shape;") tw_1_112) (fun _ h9 => h9) rfl dJu_follow_92 ?_
      refine va_get (D := D) (v := .int (I9 5)) (ci := 6) (C := "CodeJudge$Shape") (T := T_Sh) (N := 4) hx hb hts in_Sh hown hK hP 10 cw_10 rfl 0 (by decide) (hts (.fieldLink "CodeJudge$Judge" 54 "CodeJudge$Shape" "high" "I") tw_1_88) (fun _ h9 => h9) rfl dJu_follow_95 ?_
      refine lv_aload_n hx hb dJu_follow_98 rfl (lv_at hl 4 rfl) ?_
      refine va_get (D := D) (v := .int (I9 (25 + 10 * k2))) (ci := 4) (C := "CodeJudge$Method") (T := T_Me) (N := 9) hx hb hts in_Me hown hK hP (23 + 3 * k2) (cw_M hk2) rfl 5 (by decide) (hts (.fieldLink "CodeJudge$Judge" 86 "CodeJudge$Method" "limit" "I") tw_1_49) (fun _ h9 => h9) rfl dJu_follow_99 ?_
      refine lv_icmp_le (tgt := 107) hx hb dJu_follow_102 (by decide) (fun h11 => ?_) (fun h11 => ?_)
      · have hw := hw.1 h11
        refine lv_iload hx hb dJu_follow_107 (lv_at hl 1 rfl) ?_
        refine lv_bipush (v := 24) hx hb dJu_follow_109 (by decide) ?_
        refine lv_icmp_ne (tgt := 130) hx hb dJu_follow_111 (by decide) (fun h12 => ?_) (fun h12 => ?_)
        · have hw := hw.1 h12
          refine lv_iload hx hb dJu_follow_130 (lv_at hl 1 rfl) ?_
          obtain ⟨P13, hc13, hw⟩ := hw
          refine cc_i (va_runS (As := [.int r1]) (rest := []) ⟨hx, hb, hml, hown, hts⟩ (c_Or_namesPlace l D a cI cZ cQ hJ I9 F9 r1 H.size P13 hc13) (va_cwS 1 hts (tb_S wc_Or_namesPlace tw_2_202 tw_2_203 tw_1_16) rfl rfl rfl (by decide +kernel) ⟨Nat.le_of_ble_eq_true rfl, Nat.le_of_ble_eq_true rfl⟩) ⟨cP_bl, cP_at hP hK hN⟩ rfl rfl hl.1 rfl (lv_room (Nat.le_of_ble_eq_true rfl)) dJu_follow_132 ⟨Nat.le_of_ble_eq_true rfl, Nat.le_of_ble_eq_true rfl⟩) hS (fun r13 I13 F13 H locs hP hp13 hS => ?_)
          have hw := hw r13 I13 F13 hp13
          refine lv_if_eq (tgt := 150) hx hb dJu_follow_135 (by decide) (fun h14 => ?_) (fun h14 => ?_)
          · have hw := hw.1 h14
            exact J150 k2 p3 r1 I13 F13 H locs ls hk2 (lv_sub hl [2, 4, 5, 1] rfl) hP hS hw
          · have hw := hw.2 h14
            refine lv_aload_n hx hb dJu_follow_138 rfl (lv_at hl 2 rfl) ?_
            refine lv_aload_n hx hb dJu_follow_139 rfl (lv_at hl 4 rfl) ?_
            refine lv_iload hx hb dJu_follow_140 (lv_at hl 0 rfl) ?_
            obtain ⟨P18, hc18, hw⟩ := hw
            refine cc_i (va_runV (As := [.ref (a (23 + 3 * k2)), .int r2]) (rest := []) ⟨hx, hb, hml, hown, hts⟩ (c_Ju_arrive l D a cI cZ cQ hJ I13 F13 k2 r2 hk2 H.size P18 hc18) (cwV 2 hts (tb_V (C := "CodeJudge$Judge") wc_Ju_arrive tw_2_177 tw_2_179 tw_0_4 tw_1_3) rfl rfl rfl (by decide +kernel) ⟨Nat.le_of_ble_eq_true rfl, Nat.le_of_ble_eq_true rfl⟩) ⟨cP_bl, va_recv hK hP rfl cw_2, cP_at hP hK hN⟩ rfl rfl hl.1 rfl (lv_room (Nat.le_of_ble_eq_true rfl)) dJu_follow_142 ⟨Nat.le_of_ble_eq_true rfl, Nat.le_of_ble_eq_true rfl⟩) hS (fun r18 I18 F18 H locs hP hp18 hS => ?_)
            have hw := hw r18 I18 F18 hp18
            refine lv_if_ne (tgt := 150) hx hb dJu_follow_145 (by decide) (fun h19 => ?_) (fun h19 => ?_)
            · have hw := hw.1 h19
              exact J150 k2 p3 r1 I18 F18 H locs ls hk2 (lv_sub hl [2, 4, 5, 1] rfl) hP hS hw
            · have hw := hw.2 h19
              refine lv_iconst (v := 0) hx hb dJu_follow_148 (by decide) ?_
              rw [hQ]
              exact W.zret (v := 0) hx hb hr rfl (fun t ht hW => ⟨⟨0, (I18, F18), rfl, hw, by subst ht; exact hP⟩, hS.F ht⟩) hS.2.2 dJu_follow_149
        · have hw := hw.2 h12
          refine lv_aload_n hx hb dJu_follow_114 rfl (lv_at hl 2 rfl) ?_
          refine va_get (D := D) (v := .ref (a 10)) (ci := 2) (C := "CodeJudge$Judge") (T := T_Ju) (N := 8) hx hb hts in_Ju hown hK hP 2 cw_2 rfl 7 (by decide) (hts (.fieldLink "CodeJudge$Judge" 34 "CodeJudge$Judge" "now" "LCodeJudge$Shape;") tw_1_112) (fun _ h9 => h9) rfl dJu_follow_115 ?_
          refine va_get (D := D) (v := .int (I9 5)) (ci := 6) (C := "CodeJudge$Shape") (T := T_Sh) (N := 4) hx hb hts in_Sh hown hK hP 10 cw_10 rfl 0 (by decide) (hts (.fieldLink "CodeJudge$Judge" 54 "CodeJudge$Shape" "high" "I") tw_1_88) (fun _ h9 => h9) rfl dJu_follow_118 ?_
          refine lv_if_ne (tgt := 128) hx hb dJu_follow_121 (by decide) (fun h20 => ?_) (fun h20 => ?_)
          · have hw := hw.1 h20
            refine lv_iconst (v := 0) hx hb dJu_follow_128 (by decide) ?_
            rw [hQ]
            exact W.zret (v := 0) hx hb hr rfl (fun t ht hW => ⟨⟨0, (I9, F9), rfl, hw, by subst ht; exact hP⟩, hS.F ht⟩) hS.2.2 dJu_follow_129
          · have hw := hw.2 h20
            refine lv_iconst (v := 1) hx hb dJu_follow_124 (by decide) ?_
            refine lv_goto (tgt := 129) hx hb dJu_follow_125 (by decide) ?_
            rw [hQ]
            exact W.zret (v := 1) hx hb hr rfl (fun t ht hW => ⟨⟨1, (I9, F9), rfl, hw, by subst ht; exact hP⟩, hS.F ht⟩) hS.2.2 dJu_follow_129
      · have hw := hw.2 h11
        refine lv_iconst (v := 0) hx hb dJu_follow_105 (by decide) ?_
        rw [hQ]
        exact W.zret (v := 0) hx hb hr rfl (fun t ht hW => ⟨⟨0, (I9, F9), rfl, hw, by subst ht; exact hP⟩, hS.F ht⟩) hS.2.2 dJu_follow_106
def wp_Ju_approves_80 (Post : Int32 → SI → SF → Prop)  (I : SI) (F : SF) : Prop := (¬ (I 0) = 0 → (Post 0 I F)) ∧ ((I 0) = 0 → (Post 1 I F))
def wp_Ju_approves_18 (Post : Int32 → SI → SF → Prop) : Nat → Nat → Int32 → SI → SF → Prop
  | 0 => fun _ _ _ _ => False
  | n + 1 => fun kx2 x3 I F => (1320 ≤ x3 → (wp_Ju_approves_80 Post I F)) ∧ (¬ 1320 ≤ x3 → (((I 0) ≤ 0 → (wp_Ju_approves_80 Post I F)) ∧ (¬ (I 0) ≤ 0 → (vp_in ((I 0) - 1) 120 ∧ (∀ x8 : Int32, x8 = ((F 8) ((I 0) - 1 : Int32).toNatClampNeg) → (vp_in x8 120 ∧ (∃ P10 : Int32 → SI → SF → Prop, wp_Ju_follow kx2 x8 (va_up I 0 ((I 0) - 1)) (va_up F 9 (upd (F 9) x8.toNatClampNeg (vp_nar .boolean 0))) P10 ∧ ∀ r10 I10 F10, P10 r10 I10 F10 → ((¬ r10 = 0 → (∀ x12 : Int32, x12 = x3 + 1 → ((wp_Ju_approves_18 Post n) kx2 x12 I10 F10))) ∧ (r10 = 0 → (Post 0 I10 F10))))))))))
def wp_Ju_approves (k2 : Nat) (I : SI) (F : SF) (Post : Int32 → SI → SF → Prop) : Prop := ∃ P1 : SI → SF → Prop, wp_Ju_enter k2 I F P1 ∧ ∀ I1 F1, P1 I1 F1 → (∃ P2 : Int32 → SI → SF → Prop, wp_Ju_arrive k2 0 I1 F1 P2 ∧ ∀ r2 I2 F2, P2 r2 I2 F2 → ((¬ r2 = 0 → (∃ q18, wp_Ju_approves_18 Post q18 k2 0 I2 F2)) ∧ (r2 = 0 → (Post 0 I2 F2))))
set_option maxHeartbeats 4000000 in
set_option maxRecDepth 100000 in
theorem c_Ju_approves (l : Launch) (D : va_G) (a : Nat → Nat) (cI cZ cQ : ClassId) (hJ : xJ 47 a) (I : SI) (F : SF) (k2 : Nat) (hk2 : k2 < 8) (sz : Nat) (Post : Int32 → SI → SF → Prop) (hw : wp_Ju_approves k2 I F Post) : Met l y_Ju_approves (Cond.code y_Ju_approves b_Ju_approves 5 (some .boolean) :: TB) { frames := 4, cells := 0, slots := 0, locals := 91 } (va_Pc [.ref (a 2), .ref (a 1), .ref (a (23 + 3 * k2))] (cP D a cI cZ cQ I F sz)) (va_Qi (fun r (u : SI × SF) => Post r u.1 u.2) (fun u t => va_P D vwCl (cw a cI cZ cQ u.1 u.2) t.heap) (xA 47 a sz)) 0 0 (xA 47 a sz) := by
  refine Met.ofW (cc := b_Ju_approves) (maxL := 5) (ret := (some .boolean)) (by decide) rfl ?_
  intro p e s m args below meth c s₁ B hml hv
  obtain ⟨rfl, rfl, hP, hK, hN⟩ := hv
  have hx := B.exec
  have hb := B.bytes
  have hr := B.returns
  have hts : ∀ w ∈ TB, w.before _ s = true := fun w h => atoms_spec (ws := Cond.code y_Ju_approves b_Ju_approves 5 (some .boolean) :: TB) B.pre w (List.mem_cons_of_mem _ h)
  have hown : s.vm.findClass "CodeJudge$Judge" = some m.cls := findClass_of_methodNamed B.named
  have hlocks := B.notSynchronized
  have hl := lv_entry ([.ref (a 2), .ref (a 1), .ref (a (23 + 3 * k2))]) (n := 5) (Nat.le_of_ble_eq_true rfl)
  rw [lg_entry_eq]
  generalize (lg_sl ([.ref (a 2), .ref (a 1), .ref (a (23 + 3 * k2))]) ++ List.replicate (5 - (lg_sl ([.ref (a 2), .ref (a 1), .ref (a (23 + 3 * k2))])).length) Slot.unset).toArray = ls at hl ⊢
  have hl : lv_has ls 5 [(0, .ref (a 2)), (1, .ref (a 1)), (2, .ref (a (23 + 3 * k2)))] := hl
  obtain ⟨Q, hQ⟩ : ∃ Q, Q = MQ below (va_Qi (fun r (u : SI × SF) => Post r u.1 u.2) (fun u t => va_P D vwCl (cw a cI cZ cQ u.1 u.2) t.heap) (xA 47 a s.heap.size)) ([.ref (a 2), .ref (a 1), .ref (a (23 + 3 * k2))]).toArray s 0 0 (xA 47 a s.heap.size) := ⟨_, rfl⟩
  rw [← hQ]
  have J80 : ∀ (I : SI) (F : SF) (H : Heap) (locs : List Loc) (ls : Array Slot), lv_has ls 5 [(0, .ref (a 2))] → va_P D vwCl (cw a cI cZ cQ I F) H → va_S (xA 47 a s.heap.size) s.heap H locs → wp_Ju_approves_80 Post I F → W p l e (headSpec (Cond.code y_Ju_approves b_Ju_approves 5 (some .boolean) :: TB) { frames := 4, cells := 0, slots := 0, locals := 91 }).room s m ([.ref (a 2), .ref (a 1), .ref (a (23 + 3 * k2))]).toArray below meth c H locs 0 0 Q (F0 m 80 ls []) := by
    intro I F H locs ls hl hP hS hw
    dsimp only [wp_Ju_approves_80] at hw
    refine lv_aload_n hx hb dJu_approves_80 rfl (lv_at hl 0 rfl) ?_
    refine va_get (D := D) (v := .int (I 0)) (ci := 2) (C := "CodeJudge$Judge") (T := T_Ju) (N := 8) hx hb hts in_Ju hown hK hP 2 cw_2 rfl 6 (by decide) (hts (.fieldLink "CodeJudge$Judge" 46 "CodeJudge$Judge" "waitingSize" "I") tw_1_111) (fun _ h9 => h9) rfl dJu_approves_81 ?_
    refine lv_if_ne (tgt := 91) hx hb dJu_approves_84 (by decide) (fun h5 => ?_) (fun h5 => ?_)
    · have hw := hw.1 h5
      refine lv_iconst (v := 0) hx hb dJu_approves_91 (by decide) ?_
      rw [hQ]
      exact W.zret (v := 0) hx hb hr rfl (fun t ht hW => ⟨⟨0, (I, F), rfl, hw, by subst ht; exact hP⟩, hS.F ht⟩) hS.2.2 dJu_approves_92
    · have hw := hw.2 h5
      refine lv_iconst (v := 1) hx hb dJu_approves_87 (by decide) ?_
      refine lv_goto (tgt := 92) hx hb dJu_approves_88 (by decide) ?_
      rw [hQ]
      exact W.zret (v := 1) hx hb hr rfl (fun t ht hW => ⟨⟨1, (I, F), rfl, hw, by subst ht; exact hP⟩, hS.F ht⟩) hS.2.2 dJu_approves_92
  have J18 : ∀ n : Nat, ∀ (kx2 : Nat) (x3 : Int32) (I : SI) (F : SF) (H : Heap) (locs : List Loc) (ls : Array Slot) (hkx2 : kx2 < 8), lv_has ls 5 [(0, .ref (a 2)), (1, .ref (a 1)), (2, .ref (a (23 + 3 * kx2))), (3, .int x3)] → va_P D vwCl (cw a cI cZ cQ I F) H → va_S (xA 47 a s.heap.size) s.heap H locs → wp_Ju_approves_18 Post n kx2 x3 I F → W p l e (headSpec (Cond.code y_Ju_approves b_Ju_approves 5 (some .boolean) :: TB) { frames := 4, cells := 0, slots := 0, locals := 91 }).room s m ([.ref (a 2), .ref (a 1), .ref (a (23 + 3 * k2))]).toArray below meth c H locs 0 0 Q (F0 m 18 ls []) := by
    intro n18
    induction n18 with
    | zero =>
      intro kx2 x3 I F H locs ls hkx2 hl hP hS hw
      exact False.elim hw
    | succ n18 ih18 =>
      intro kx2 x3 I F H locs ls hkx2 hl hP hS hw
      dsimp only [wp_Ju_approves_18] at hw
      refine lv_iload_n hx hb dJu_approves_18 rfl (lv_at hl 3 rfl) ?_
      refine lv_sipush (v := 1320) hx hb dJu_approves_19 (by decide) ?_
      refine lv_icmp_ge (tgt := 80) hx hb dJu_approves_22 (by decide) (fun h4 => ?_) (fun h4 => ?_)
      · have hw := hw.1 h4
        exact J80 I F H locs ls (lv_sub hl [0] rfl) hP hS hw
      · have hw := hw.2 h4
        refine lv_aload_n hx hb dJu_approves_25 rfl (lv_at hl 0 rfl) ?_
        refine va_get (D := D) (v := .int (I 0)) (ci := 2) (C := "CodeJudge$Judge") (T := T_Ju) (N := 8) hx hb hts in_Ju hown hK hP 2 cw_2 rfl 6 (by decide) (hts (.fieldLink "CodeJudge$Judge" 46 "CodeJudge$Judge" "waitingSize" "I") tw_1_111) (fun _ h9 => h9) rfl dJu_approves_26 ?_
        refine lv_if_le (tgt := 80) hx hb dJu_approves_29 (by decide) (fun h6 => ?_) (fun h6 => ?_)
        · have hw := hw.1 h6
          exact J80 I F H locs ls (lv_sub hl [0] rfl) hP hS hw
        · have hw := hw.2 h6
          refine lv_aload_n hx hb dJu_approves_32 rfl (lv_at hl 0 rfl) ?_
          refine lv_dup hx hb dJu_approves_33 rfl ?_
          refine va_get (D := D) (v := .int (I 0)) (ci := 2) (C := "CodeJudge$Judge") (T := T_Ju) (N := 8) hx hb hts in_Ju hown hK hP 2 cw_2 rfl 6 (by decide) (hts (.fieldLink "CodeJudge$Judge" 46 "CodeJudge$Judge" "waitingSize" "I") tw_1_111) (fun _ h9 => h9) rfl dJu_approves_34 ?_
          refine lv_iconst (v := 1) hx hb dJu_approves_37 (by decide) ?_
          refine lv_isub hx hb dJu_approves_38 ?_
          refine va_put (D := D) (ci := 2) (v := .int ((I 0) - 1)) (ty := .int) (C := "CodeJudge$Judge") (T := T_Ju) (N := 8) hx hb hts in_Ju ty_Ju ok_Ju nm_Ju hown hK hP (cD hJ) hS 2 cw_2 rfl 6 (by decide) (hts (.fieldLink "CodeJudge$Judge" 46 "CodeJudge$Judge" "waitingSize" "I") tw_1_111) (fun _ h9 => h9) rfl (by decide +kernel) rfl rfl (Nat.le_of_ble_eq_true rfl) dJu_approves_39 (fun H locs hP _ hS => ?_)
          have hP := cwp_0 hP
          refine lv_aload_n hx hb dJu_approves_42 rfl (lv_at hl 0 rfl) ?_
          refine va_get (D := D) (v := .ref (a 8)) (ci := 2) (C := "CodeJudge$Judge") (T := T_Ju) (N := 8) hx hb hts in_Ju hown hK hP 2 cw_2 rfl 4 (by decide) (hts (.fieldLink "CodeJudge$Judge" 24 "CodeJudge$Judge" "waiting" "[I") tw_1_109) (fun _ h9 => h9) rfl dJu_approves_43 ?_
          refine lv_aload_n hx hb dJu_approves_46 rfl (lv_at hl 0 rfl) ?_
          refine va_get (D := D) (v := .int ((I 0) - 1)) (ci := 2) (C := "CodeJudge$Judge") (T := T_Ju) (N := 8) hx hb hts in_Ju hown hK hP 2 cw_2 rfl 6 (by decide) (hts (.fieldLink "CodeJudge$Judge" 46 "CodeJudge$Judge" "waitingSize" "I") tw_1_111) (fun _ h9 => h9) rfl dJu_approves_47 ?_
          obtain ⟨h7, hw⟩ := hw
          refine va_iald hx hb hK hP 8 0 cw_8 rfl h7 dJu_approves_50 ?_
          refine lv_topi (fun x8 e_x8 => ?_)
          have hw := hw x8 e_x8
          refine lv_istore (lv' := [(4, .int x8), (0, .ref (a 2)), (1, .ref (a 1)), (2, .ref (a (23 + 3 * kx2))), (3, .int x3)]) hx hb dJu_approves_51 hl (by decide) rfl (fun ls hl => ?_)
          refine lv_aload_n hx hb dJu_approves_53 rfl (lv_at hl 1 rfl) ?_
          refine va_get (D := D) (v := .ref (a 9)) (ci := 2) (C := "CodeJudge$Judge") (T := T_Ju) (N := 8) hx hb hts in_Ju hown hK hP 2 cw_2 rfl 5 (by decide) (hts (.fieldLink "CodeJudge$Judge" 27 "CodeJudge$Judge" "waits" "[Z") tw_1_110) (fun _ h9 => h9) rfl dJu_approves_54 ?_
          refine lv_iload hx hb dJu_approves_57 (lv_at hl 0 rfl) ?_
          refine lv_iconst (v := 0) hx hb dJu_approves_59 (by decide) ?_
          obtain ⟨h9, hw⟩ := hw
          refine va_zast hx hb hK hP (cD hJ) hS 9 1 cw_9 rfl h9 dJu_approves_60 (fun H locs hP _ hS => ?_)
          have hP := cwa_9 hP
          refine lv_aload_n hx hb dJu_approves_61 rfl (lv_at hl 1 rfl) ?_
          refine lv_aload_n hx hb dJu_approves_62 rfl (lv_at hl 2 rfl) ?_
          refine lv_aload_n hx hb dJu_approves_63 rfl (lv_at hl 3 rfl) ?_
          refine lv_iload hx hb dJu_approves_64 (lv_at hl 0 rfl) ?_
          obtain ⟨P10, hc10, hw⟩ := hw
          refine cc_i (va_runV (As := [.ref (a 1), .ref (a (23 + 3 * kx2)), .int x8]) (rest := []) ⟨hx, hb, hml, hown, hts⟩ (c_Ju_follow l D a cI cZ cQ hJ (va_up I 0 ((I 0) - 1)) (va_up F 9 (upd (F 9) x8.toNatClampNeg (vp_nar .boolean 0))) kx2 x8 hkx2 H.size P10 hc10) (cwV 3 hts (tb_V (C := "CodeJudge$Judge") wc_Ju_follow tw_2_186 tw_2_188 tw_0_6 tw_1_3) rfl rfl rfl (by decide +kernel) ⟨Nat.le_of_ble_eq_true rfl, Nat.le_of_ble_eq_true rfl⟩) ⟨cP_bl, va_recv hK hP rfl cw_2, cP_at hP hK hN⟩ rfl rfl hl.1 rfl (lv_room (Nat.le_of_ble_eq_true rfl)) dJu_approves_66 ⟨Nat.le_of_ble_eq_true rfl, Nat.le_of_ble_eq_true rfl⟩) hS (fun r10 I10 F10 H locs hP hp10 hS => ?_)
          have hw := hw r10 I10 F10 hp10
          refine lv_if_ne (tgt := 74) hx hb dJu_approves_69 (by decide) (fun h11 => ?_) (fun h11 => ?_)
          · have hw := hw.1 h11
            obtain ⟨x12, e_x12⟩ : ∃ z : Int32, z = x3 + 1 := ⟨_, rfl⟩
            have hw := hw x12 e_x12
            refine lv_iinc (k := 4) (v := x12) (lv' := [(3, .int x12), (4, .int x8), (0, .ref (a 2)), (1, .ref (a 1)), (2, .ref (a (23 + 3 * kx2)))]) hx hb dJu_approves_74 hl rfl (e_x12 ▸ (by first | rfl | decide)) (by decide) rfl (fun ls hl => ?_)
            refine lv_goto (tgt := 18) hx hb dJu_approves_77 (by decide) ?_
            exact ih18 kx2 x12 I10 F10 H locs ls hkx2 (lv_sub hl [2, 3, 4, 0] rfl) hP hS hw
          · have hw := hw.2 h11
            refine lv_iconst (v := 0) hx hb dJu_approves_72 (by decide) ?_
            rw [hQ]
            exact W.zret (v := 0) hx hb hr rfl (fun t ht hW => ⟨⟨0, (I10, F10), rfl, hw, by subst ht; exact hP⟩, hS.F ht⟩) hS.2.2 dJu_approves_73
  suffices hM : ∀ (H : Heap) (locs : List Loc), va_P D vwCl (cw a cI cZ cQ I F) H → va_S (xA 47 a s.heap.size) s.heap H locs → W p l e (headSpec (Cond.code y_Ju_approves b_Ju_approves 5 (some .boolean) :: TB) { frames := 4, cells := 0, slots := 0, locals := 91 }).room s m ([.ref (a 2), .ref (a 1), .ref (a (23 + 3 * k2))]).toArray below meth c H locs 0 0 (Q) (F0 m 0 ls []) from hM s.heap [] hP va_S.rf
  clear hP
  intro H locs hP hS
  dsimp only [wp_Ju_approves] at hw
  refine lv_aload_n hx hb dJu_approves_0 rfl (lv_at hl 0 rfl) ?_
  refine lv_aload_n hx hb dJu_approves_1 rfl (lv_at hl 2 rfl) ?_
  obtain ⟨P1, hc1, hw⟩ := hw
  refine cc_v (va_runV (As := [.ref (a (23 + 3 * k2))]) (rest := []) ⟨hx, hb, hml, hown, hts⟩ (c_Ju_enter l D a cI cZ cQ hJ I F k2 hk2 H.size P1 hc1) (cwV 1 hts (tb_V (C := "CodeJudge$Judge") wc_Ju_enter tw_2_173 tw_2_175 tw_0_3 tw_1_3) rfl rfl rfl (by decide +kernel) ⟨Nat.le_of_ble_eq_true rfl, Nat.le_of_ble_eq_true rfl⟩) ⟨cP_bl, va_recv hK hP rfl cw_2, cP_at hP hK hN⟩ rfl rfl hl.1 rfl (lv_room (Nat.le_of_ble_eq_true rfl)) dJu_approves_2 ⟨Nat.le_of_ble_eq_true rfl, Nat.le_of_ble_eq_true rfl⟩) hS (fun I1 F1 H locs hP hp1 hS => ?_)
  have hw := hw I1 F1 hp1
  refine lv_aload_n hx hb dJu_approves_5 rfl (lv_at hl 0 rfl) ?_
  refine lv_aload_n hx hb dJu_approves_6 rfl (lv_at hl 2 rfl) ?_
  refine lv_iconst (v := 0) hx hb dJu_approves_7 (by decide) ?_
  obtain ⟨P2, hc2, hw⟩ := hw
  refine cc_i (va_runV (As := [.ref (a (23 + 3 * k2)), .int 0]) (rest := []) ⟨hx, hb, hml, hown, hts⟩ (c_Ju_arrive l D a cI cZ cQ hJ I1 F1 k2 0 hk2 H.size P2 hc2) (cwV 2 hts (tb_V (C := "CodeJudge$Judge") wc_Ju_arrive tw_2_177 tw_2_179 tw_0_4 tw_1_3) rfl rfl rfl (by decide +kernel) ⟨Nat.le_of_ble_eq_true rfl, Nat.le_of_ble_eq_true rfl⟩) ⟨cP_bl, va_recv hK hP rfl cw_2, cP_at hP hK hN⟩ rfl rfl hl.1 rfl (lv_room (Nat.le_of_ble_eq_true rfl)) dJu_approves_8 ⟨Nat.le_of_ble_eq_true rfl, Nat.le_of_ble_eq_true rfl⟩) hS (fun r2 I2 F2 H locs hP hp2 hS => ?_)
  have hw := hw r2 I2 F2 hp2
  refine lv_if_ne (tgt := 16) hx hb dJu_approves_11 (by decide) (fun h3 => ?_) (fun h3 => ?_)
  · have hw := hw.1 h3
    refine lv_iconst (v := 0) hx hb dJu_approves_16 (by decide) ?_
    refine lv_istore_n (lv' := [(3, .int 0), (0, .ref (a 2)), (1, .ref (a 1)), (2, .ref (a (23 + 3 * k2)))]) hx hb dJu_approves_17 rfl hl (by decide) rfl (fun ls hl => ?_)
    obtain ⟨n18, hw⟩ := hw
    exact J18 n18 k2 0 I2 F2 H locs ls hk2 (lv_sub hl [1, 2, 3, 0] rfl) hP hS hw
  · have hw := hw.2 h3
    refine lv_iconst (v := 0) hx hb dJu_approves_14 (by decide) ?_
    rw [hQ]
    exact W.zret (v := 0) hx hb hr rfl (fun t ht hW => ⟨⟨0, (I2, F2), rfl, hw, by subst ht; exact hP⟩, hS.F ht⟩) hS.2.2 dJu_approves_15
def wp_Ju_heightAt (p1 : Int32) (I : SI) (F : SF) (Post : Int32 → SI → SF → Prop) : Prop := ∃ P1 : Int32 → SI → SF → Prop, wp_CJ_isBelow p1 120 I F P1 ∧ ∀ r1 I1 F1, P1 r1 I1 F1 → ((r1 = 0 → (Post (-1) I1 F1)) ∧ (¬ r1 = 0 → (vp_in p1 120 ∧ (Post ((F1 4) p1.toNatClampNeg) I1 F1))))
set_option maxHeartbeats 4000000 in
set_option maxRecDepth 100000 in
theorem c_Ju_heightAt (l : Launch) (D : va_G) (a : Nat → Nat) (cI cZ cQ : ClassId) (hJ : xJ 47 a) (I : SI) (F : SF) (p1 : Int32) (sz : Nat) (Post : Int32 → SI → SF → Prop) (hw : wp_Ju_heightAt p1 I F Post) : Met l y_Ju_heightAt (Cond.code y_Ju_heightAt b_Ju_heightAt 2 (some .int) :: TB) { frames := 1, cells := 0, slots := 0, locals := 21 } (va_Pc [.ref (a 2), .int p1] (cP D a cI cZ cQ I F sz)) (va_Qi (fun r (u : SI × SF) => Post r u.1 u.2) (fun u t => va_P D vwCl (cw a cI cZ cQ u.1 u.2) t.heap) (xA 47 a sz)) 0 0 (xA 47 a sz) := by
  refine Met.ofW (cc := b_Ju_heightAt) (maxL := 2) (ret := (some .int)) (by decide) rfl ?_
  intro p e s m args below meth c s₁ B hml hv
  obtain ⟨rfl, rfl, hP, hK, hN⟩ := hv
  have hx := B.exec
  have hb := B.bytes
  have hr := B.returns
  have hts : ∀ w ∈ TB, w.before _ s = true := fun w h => atoms_spec (ws := Cond.code y_Ju_heightAt b_Ju_heightAt 2 (some .int) :: TB) B.pre w (List.mem_cons_of_mem _ h)
  have hown : s.vm.findClass "CodeJudge$Judge" = some m.cls := findClass_of_methodNamed B.named
  have hlocks := B.notSynchronized
  have hl := lv_entry ([.ref (a 2), .int p1]) (n := 2) (Nat.le_of_ble_eq_true rfl)
  rw [lg_entry_eq]
  generalize (lg_sl ([.ref (a 2), .int p1]) ++ List.replicate (2 - (lg_sl ([.ref (a 2), .int p1])).length) Slot.unset).toArray = ls at hl ⊢
  have hl : lv_has ls 2 [(0, .ref (a 2)), (1, .int p1)] := hl
  suffices hM : ∀ (H : Heap) (locs : List Loc), va_P D vwCl (cw a cI cZ cQ I F) H → va_S (xA 47 a s.heap.size) s.heap H locs → W p l e (headSpec (Cond.code y_Ju_heightAt b_Ju_heightAt 2 (some .int) :: TB) { frames := 1, cells := 0, slots := 0, locals := 21 }).room s m ([.ref (a 2), .int p1]).toArray below meth c H locs 0 0 (MQ below (va_Qi (fun r (u : SI × SF) => Post r u.1 u.2) (fun u t => va_P D vwCl (cw a cI cZ cQ u.1 u.2) t.heap) (xA 47 a s.heap.size)) ([.ref (a 2), .int p1]).toArray s 0 0 (xA 47 a s.heap.size)) (F0 m 0 ls []) from hM s.heap [] hP va_S.rf
  clear hP
  intro H locs hP hS
  dsimp only [wp_Ju_heightAt] at hw
  refine lv_iload_n hx hb dJu_heightAt_0 rfl (lv_at hl 1 rfl) ?_
  refine lv_bipush (v := 120) hx hb dJu_heightAt_1 (by decide) ?_
  obtain ⟨P1, hc1, hw⟩ := hw
  refine cc_i (va_runSN (As := [.int p1, .int 120]) (rest := []) ⟨hx, hb, hml, hown, hts⟩ (c_CJ_isBelow l D a cI cZ cQ hJ I F p1 120 H.size P1 hc1) (⟨va_cnB 2 hts (tb_self wc_CJ_isBelow) rfl rfl rfl (hN ("CodeJudge$Judge", 101, ⟨"CodeJudge", "isBelow", "(II)Z"⟩, "CodeJudge") (by decide +kernel)) (hts (.initialized "CodeJudge") tw_1_1) (by decide +kernel) ⟨Nat.le_of_ble_eq_true rfl, Nat.le_of_ble_eq_true rfl⟩, hts (.static ⟨"CodeJudge", "isBelow", "(II)Z"⟩) tw_2_7, trivial⟩) ⟨cP_bl, cP_at hP hK hN⟩ rfl rfl hl.1 rfl (lv_room (Nat.le_of_ble_eq_true rfl)) dJu_heightAt_3 ⟨Nat.le_of_ble_eq_true rfl, Nat.le_of_ble_eq_true rfl⟩) hS (fun r1 I1 F1 H locs hP hp1 hS => ?_)
  have hw := hw r1 I1 F1 hp1
  refine lv_if_eq (tgt := 18) hx hb dJu_heightAt_6 (by decide) (fun h2 => ?_) (fun h2 => ?_)
  · have hw := hw.1 h2
    refine lv_iconst (v := (-1)) hx hb dJu_heightAt_18 (by decide) ?_
    exact W.iret (v := (-1)) hx hb hr (fun t ht hW => ⟨⟨(-1), (I1, F1), rfl, hw, by subst ht; exact hP⟩, hS.F ht⟩) hS.2.2 dJu_heightAt_19
  · have hw := hw.2 h2
    refine lv_aload_n hx hb dJu_heightAt_9 rfl (lv_at hl 0 rfl) ?_
    refine va_get (D := D) (v := .ref (a 4)) (ci := 2) (C := "CodeJudge$Judge") (T := T_Ju) (N := 8) hx hb hts in_Ju hown hK hP 2 cw_2 rfl 0 (by decide) (hts (.fieldLink "CodeJudge$Judge" 9 "CodeJudge$Judge" "heights" "[I") tw_1_105) (fun _ h9 => h9) rfl dJu_heightAt_10 ?_
    refine lv_iload_n hx hb dJu_heightAt_13 rfl (lv_at hl 1 rfl) ?_
    obtain ⟨h3, hw⟩ := hw
    refine va_iald hx hb hK hP 4 0 cw_4 rfl h3 dJu_heightAt_14 ?_
    refine lv_goto (tgt := 19) hx hb dJu_heightAt_15 (by decide) ?_
    exact W.iret (v := ((F1 4) p1.toNatClampNeg)) hx hb hr (fun t ht hW => ⟨⟨((F1 4) p1.toNatClampNeg), (I1, F1), rfl, hw, by subst ht; exact hP⟩, hS.F ht⟩) hS.2.2 dJu_heightAt_19
def wp_Ju_calledBy_41 (K4 : Nat → Int32 → Int32 → SI → SF → Prop) (Post : Int32 → SI → SF → Prop) (kx1 : Nat) (x2 : Int32) (x3 : Int32) (I : SI) (F : SF) : Prop := ∀ x4 : Int32, x4 = x3 + 1 → (K4 kx1 x2 x4 I F)
def wp_Ju_calledBy_4 (Post : Int32 → SI → SF → Prop) : Nat → Nat → Int32 → Int32 → SI → SF → Prop
  | 0 => fun _ _ _ _ _ => False
  | n + 1 => fun kx1 x2 x3 I F => ((I (26 + 10 * kx1)) ≤ x3 → (Post x2 I F)) ∧ (¬ (I (26 + 10 * kx1)) ≤ x3 → (∃ P2 : Int32 → SI → SF → Prop, wp_Ju_heightAt x3 I F P2 ∧ ∀ r2 I2 F2, P2 r2 I2 F2 → ((r2 = (-1) → (wp_Ju_calledBy_41 (wp_Ju_calledBy_4 Post n) Post kx1 x2 x3 I2 F2)) ∧ (¬ r2 = (-1) → (∃ P5 : Int32 → SI → SF → Prop, wp_Me_orderAt kx1 x3 I2 F2 P5 ∧ ∀ r5 I5 F5, P5 r5 I5 F5 → ((¬ r5 = 23 → (wp_Ju_calledBy_41 (wp_Ju_calledBy_4 Post n) Post kx1 x2 x3 I5 F5)) ∧ (r5 = 23 → (∃ P7 : Int32 → SI → SF → Prop, wp_Me_numberAt kx1 x3 I5 F5 P7 ∧ ∀ r7 I7 F7, P7 r7 I7 F7 → (∀ x8 : Int32, x8 = x2 ||| ((1 : Int32) <<< (r7 &&& 31)) → (wp_Ju_calledBy_41 (wp_Ju_calledBy_4 Post n) Post kx1 x8 x3 I7 F7))))))))))
def wp_Ju_calledBy (k1 : Nat) (I : SI) (F : SF) (Post : Int32 → SI → SF → Prop) : Prop := ∃ q4, wp_Ju_calledBy_4 Post q4 k1 0 0 I F
set_option maxHeartbeats 4000000 in
set_option maxRecDepth 100000 in
theorem c_Ju_calledBy (l : Launch) (D : va_G) (a : Nat → Nat) (cI cZ cQ : ClassId) (hJ : xJ 47 a) (I : SI) (F : SF) (k1 : Nat) (hk1 : k1 < 8) (sz : Nat) (Post : Int32 → SI → SF → Prop) (hw : wp_Ju_calledBy k1 I F Post) : Met l y_Ju_calledBy (Cond.code y_Ju_calledBy b_Ju_calledBy 4 (some .int) :: TB) { frames := 3, cells := 0, slots := 0, locals := 63 } (va_Pc [.ref (a 2), .ref (a (23 + 3 * k1))] (cP D a cI cZ cQ I F sz)) (va_Qi (fun r (u : SI × SF) => Post r u.1 u.2) (fun u t => va_P D vwCl (cw a cI cZ cQ u.1 u.2) t.heap) (xA 47 a sz)) 0 0 (xA 47 a sz) := by
  refine Met.ofW (cc := b_Ju_calledBy) (maxL := 4) (ret := (some .int)) (by decide) rfl ?_
  intro p e s m args below meth c s₁ B hml hv
  obtain ⟨rfl, rfl, hP, hK, hN⟩ := hv
  have hx := B.exec
  have hb := B.bytes
  have hr := B.returns
  have hts : ∀ w ∈ TB, w.before _ s = true := fun w h => atoms_spec (ws := Cond.code y_Ju_calledBy b_Ju_calledBy 4 (some .int) :: TB) B.pre w (List.mem_cons_of_mem _ h)
  have hown : s.vm.findClass "CodeJudge$Judge" = some m.cls := findClass_of_methodNamed B.named
  have hlocks := B.notSynchronized
  have hl := lv_entry ([.ref (a 2), .ref (a (23 + 3 * k1))]) (n := 4) (Nat.le_of_ble_eq_true rfl)
  rw [lg_entry_eq]
  generalize (lg_sl ([.ref (a 2), .ref (a (23 + 3 * k1))]) ++ List.replicate (4 - (lg_sl ([.ref (a 2), .ref (a (23 + 3 * k1))])).length) Slot.unset).toArray = ls at hl ⊢
  have hl : lv_has ls 4 [(0, .ref (a 2)), (1, .ref (a (23 + 3 * k1)))] := hl
  obtain ⟨Q, hQ⟩ : ∃ Q, Q = MQ below (va_Qi (fun r (u : SI × SF) => Post r u.1 u.2) (fun u t => va_P D vwCl (cw a cI cZ cQ u.1 u.2) t.heap) (xA 47 a s.heap.size)) ([.ref (a 2), .ref (a (23 + 3 * k1))]).toArray s 0 0 (xA 47 a s.heap.size) := ⟨_, rfl⟩
  rw [← hQ]
  have J4 : ∀ n : Nat, ∀ (kx1 : Nat) (x2 : Int32) (x3 : Int32) (I : SI) (F : SF) (H : Heap) (locs : List Loc) (ls : Array Slot) (hkx1 : kx1 < 8), lv_has ls 4 [(0, .ref (a 2)), (1, .ref (a (23 + 3 * kx1))), (2, .int x2), (3, .int x3)] → va_P D vwCl (cw a cI cZ cQ I F) H → va_S (xA 47 a s.heap.size) s.heap H locs → wp_Ju_calledBy_4 Post n kx1 x2 x3 I F → W p l e (headSpec (Cond.code y_Ju_calledBy b_Ju_calledBy 4 (some .int) :: TB) { frames := 3, cells := 0, slots := 0, locals := 63 }).room s m ([.ref (a 2), .ref (a (23 + 3 * k1))]).toArray below meth c H locs 0 0 Q (F0 m 4 ls []) := by
    intro n4
    induction n4 with
    | zero =>
      intro kx1 x2 x3 I F H locs ls hkx1 hl hP hS hw
      exact False.elim hw
    | succ n4 ih4 =>
      have J41 : ∀ (kx1 : Nat) (x2 : Int32) (x3 : Int32) (I : SI) (F : SF) (H : Heap) (locs : List Loc) (ls : Array Slot) (hkx1 : kx1 < 8), lv_has ls 4 [(0, .ref (a 2)), (1, .ref (a (23 + 3 * kx1))), (2, .int x2), (3, .int x3)] → va_P D vwCl (cw a cI cZ cQ I F) H → va_S (xA 47 a s.heap.size) s.heap H locs → wp_Ju_calledBy_41 (wp_Ju_calledBy_4 Post n4) Post kx1 x2 x3 I F → W p l e (headSpec (Cond.code y_Ju_calledBy b_Ju_calledBy 4 (some .int) :: TB) { frames := 3, cells := 0, slots := 0, locals := 63 }).room s m ([.ref (a 2), .ref (a (23 + 3 * k1))]).toArray below meth c H locs 0 0 Q (F0 m 41 ls []) := by
        intro kx1 x2 x3 I F H locs ls hkx1 hl hP hS hw
        dsimp only [wp_Ju_calledBy_41] at hw
        obtain ⟨x4, e_x4⟩ : ∃ z : Int32, z = x3 + 1 := ⟨_, rfl⟩
        have hw := hw x4 e_x4
        refine lv_iinc (k := 3) (v := x4) (lv' := [(3, .int x4), (0, .ref (a 2)), (1, .ref (a (23 + 3 * kx1))), (2, .int x2)]) hx hb dJu_calledBy_41 hl rfl (e_x4 ▸ (by first | rfl | decide)) (by decide) rfl (fun ls hl => ?_)
        refine lv_goto (tgt := 4) hx hb dJu_calledBy_44 (by decide) ?_
        exact ih4 kx1 x2 x4 I F H locs ls hkx1 (lv_sub hl [1, 2, 3, 0] rfl) hP hS hw
      intro kx1 x2 x3 I F H locs ls hkx1 hl hP hS hw
      dsimp only [wp_Ju_calledBy_4] at hw
      refine lv_iload_n hx hb dJu_calledBy_4 rfl (lv_at hl 3 rfl) ?_
      refine lv_aload_n hx hb dJu_calledBy_5 rfl (lv_at hl 1 rfl) ?_
      refine va_get (D := D) (v := .int (I (26 + 10 * kx1))) (ci := 4) (C := "CodeJudge$Method") (T := T_Me) (N := 9) hx hb hts in_Me hown hK hP (23 + 3 * kx1) (cw_M hkx1) rfl 6 (by decide) (hts (.fieldLink "CodeJudge$Judge" 154 "CodeJudge$Method" "size" "I") tw_1_52) (fun _ h9 => h9) rfl dJu_calledBy_6 ?_
      refine lv_icmp_ge (tgt := 47) hx hb dJu_calledBy_9 (by decide) (fun h1 => ?_) (fun h1 => ?_)
      · have hw := hw.1 h1
        refine lv_iload_n hx hb dJu_calledBy_47 rfl (lv_at hl 2 rfl) ?_
        rw [hQ]
        exact W.iret (v := x2) hx hb hr (fun t ht hW => ⟨⟨x2, (I, F), rfl, hw, by subst ht; exact hP⟩, hS.F ht⟩) hS.2.2 dJu_calledBy_48
      · have hw := hw.2 h1
        refine lv_aload_n hx hb dJu_calledBy_12 rfl (lv_at hl 0 rfl) ?_
        refine lv_iload_n hx hb dJu_calledBy_13 rfl (lv_at hl 3 rfl) ?_
        obtain ⟨P2, hc2, hw⟩ := hw
        refine cc_i (va_runV (As := [.int x3]) (rest := []) ⟨hx, hb, hml, hown, hts⟩ (c_Ju_heightAt l D a cI cZ cQ hJ I F x3 H.size P2 hc2) (cwV 1 hts (tb_V (C := "CodeJudge$Judge") wc_Ju_heightAt tw_3_36 tw_3_22 tw_3_23 tw_1_3) rfl rfl rfl (by decide +kernel) ⟨Nat.le_of_ble_eq_true rfl, Nat.le_of_ble_eq_true rfl⟩) ⟨cP_bl, va_recv hK hP rfl cw_2, cP_at hP hK hN⟩ rfl rfl hl.1 rfl (lv_room (Nat.le_of_ble_eq_true rfl)) dJu_calledBy_14 ⟨Nat.le_of_ble_eq_true rfl, Nat.le_of_ble_eq_true rfl⟩) hS (fun r2 I2 F2 H locs hP hp2 hS => ?_)
        have hw := hw r2 I2 F2 hp2
        refine lv_iconst (v := (-1)) hx hb dJu_calledBy_17 (by decide) ?_
        refine lv_icmp_eq (tgt := 41) hx hb dJu_calledBy_18 (by decide) (fun h3 => ?_) (fun h3 => ?_)
        · have hw := hw.1 h3
          exact J41 kx1 x2 x3 I2 F2 H locs ls hkx1 (lv_sub hl [0, 1, 2, 3] rfl) hP hS hw
        · have hw := hw.2 h3
          refine lv_aload_n hx hb dJu_calledBy_21 rfl (lv_at hl 1 rfl) ?_
          refine lv_iload_n hx hb dJu_calledBy_22 rfl (lv_at hl 3 rfl) ?_
          obtain ⟨P5, hc5, hw⟩ := hw
          refine cc_i (va_runV (As := [.int x3]) (rest := []) ⟨hx, hb, hml, hown, hts⟩ (c_Me_orderAt l D a cI cZ cQ hJ I2 F2 kx1 x3 hkx1 H.size P5 hc5) (cwV 1 hts (tb_V (C := "CodeJudge$Method") wc_Me_orderAt tw_2_190 tw_2_191 tw_2_192 tw_1_2) rfl rfl rfl (by decide +kernel) ⟨Nat.le_of_ble_eq_true rfl, Nat.le_of_ble_eq_true rfl⟩) ⟨cP_bl, va_recv hK hP rfl (cw_M hkx1), cP_at hP hK hN⟩ rfl rfl hl.1 rfl (lv_room (Nat.le_of_ble_eq_true rfl)) dJu_calledBy_23 ⟨Nat.le_of_ble_eq_true rfl, Nat.le_of_ble_eq_true rfl⟩) hS (fun r5 I5 F5 H locs hP hp5 hS => ?_)
          have hw := hw r5 I5 F5 hp5
          refine lv_bipush (v := 23) hx hb dJu_calledBy_26 (by decide) ?_
          refine lv_icmp_ne (tgt := 41) hx hb dJu_calledBy_28 (by decide) (fun h6 => ?_) (fun h6 => ?_)
          · have hw := hw.1 h6
            exact J41 kx1 x2 x3 I5 F5 H locs ls hkx1 (lv_sub hl [0, 1, 2, 3] rfl) hP hS hw
          · have hw := hw.2 h6
            refine lv_iload_n hx hb dJu_calledBy_31 rfl (lv_at hl 2 rfl) ?_
            refine lv_iconst (v := 1) hx hb dJu_calledBy_32 (by decide) ?_
            refine lv_aload_n hx hb dJu_calledBy_33 rfl (lv_at hl 1 rfl) ?_
            refine lv_iload_n hx hb dJu_calledBy_34 rfl (lv_at hl 3 rfl) ?_
            obtain ⟨P7, hc7, hw⟩ := hw
            refine cc_i (va_runV (As := [.int x3]) (rest := [.int 1, .int x2]) ⟨hx, hb, hml, hown, hts⟩ (c_Me_numberAt l D a cI cZ cQ hJ I5 F5 kx1 x3 hkx1 H.size P7 hc7) (cwV 1 hts (tb_V (C := "CodeJudge$Method") wc_Me_numberAt tw_2_194 tw_2_143 tw_2_144 tw_1_2) rfl rfl rfl (by decide +kernel) ⟨Nat.le_of_ble_eq_true rfl, Nat.le_of_ble_eq_true rfl⟩) ⟨cP_bl, va_recv hK hP rfl (cw_M hkx1), cP_at hP hK hN⟩ rfl rfl hl.1 rfl (lv_room (Nat.le_of_ble_eq_true rfl)) dJu_calledBy_35 ⟨Nat.le_of_ble_eq_true rfl, Nat.le_of_ble_eq_true rfl⟩) hS (fun r7 I7 F7 H locs hP hp7 hS => ?_)
            have hw := hw r7 I7 F7 hp7
            refine lv_ishl hx hb dJu_calledBy_38 ?_
            refine lv_ior hx hb dJu_calledBy_39 ?_
            refine lv_topi (fun x8 e_x8 => ?_)
            have hw := hw x8 e_x8
            refine lv_istore_n (lv' := [(2, .int x8), (0, .ref (a 2)), (1, .ref (a (23 + 3 * kx1))), (3, .int x3)]) hx hb dJu_calledBy_40 rfl hl (by decide) rfl (fun ls hl => ?_)
            exact J41 kx1 x8 x3 I7 F7 H locs ls hkx1 (lv_sub hl [1, 2, 0, 3] rfl) hP hS hw
  suffices hM : ∀ (H : Heap) (locs : List Loc), va_P D vwCl (cw a cI cZ cQ I F) H → va_S (xA 47 a s.heap.size) s.heap H locs → W p l e (headSpec (Cond.code y_Ju_calledBy b_Ju_calledBy 4 (some .int) :: TB) { frames := 3, cells := 0, slots := 0, locals := 63 }).room s m ([.ref (a 2), .ref (a (23 + 3 * k1))]).toArray below meth c H locs 0 0 (Q) (F0 m 0 ls []) from hM s.heap [] hP va_S.rf
  clear hP
  intro H locs hP hS
  dsimp only [wp_Ju_calledBy] at hw
  refine lv_iconst (v := 0) hx hb dJu_calledBy_0 (by decide) ?_
  refine lv_istore_n (lv' := [(2, .int 0), (0, .ref (a 2)), (1, .ref (a (23 + 3 * k1)))]) hx hb dJu_calledBy_1 rfl hl (by decide) rfl (fun ls hl => ?_)
  refine lv_iconst (v := 0) hx hb dJu_calledBy_2 (by decide) ?_
  refine lv_istore_n (lv' := [(3, .int 0), (2, .int 0), (0, .ref (a 2)), (1, .ref (a (23 + 3 * k1)))]) hx hb dJu_calledBy_3 rfl hl (by decide) rfl (fun ls hl => ?_)
  obtain ⟨n4, hw⟩ := hw
  exact J4 n4 k1 0 0 I F H locs ls hk1 (lv_sub hl [2, 3, 1, 0] rfl) hP hS hw
def wp_CJ_areGoodFrom_9 (Post : Int32 → SI → SF → Prop) : Nat → Int32 → Int32 → Int32 → SI → SF → Prop
  | 0 => fun _ _ _ _ _ => False
  | n + 1 => fun x2 x3 x4 I F => (8 ≤ x4 → (Post 1 I F)) ∧ (¬ 8 ≤ x4 → ((x2 = x3 → (Post 1 I F)) ∧ (¬ x2 = x3 → (∃ P4 : Int32 → SI → SF → Prop, wp_IN_numberOfTrailingZeros (x2 &&& (x3 ^^^ (-1))) I F P4 ∧ ∀ r4 I4 F4, P4 r4 I4 F4 → (∃ P5 : Int32 → SI → SF → Prop, wp_CJ_isBelow r4 8 I4 F4 P5 ∧ ∀ r5 I5 F5, P5 r5 I5 F5 → ((r5 = 0 → (Post 0 I5 F5)) ∧ (¬ r5 = 0 → (vp_in r4 8 ∧ (∃ P8 : Int32 → SI → SF → Prop, wp_Ju_approves r4.toNatClampNeg I5 F5 P8 ∧ ∀ r8 I8 F8, P8 r8 I8 F8 → ((¬ r8 = 0 → (∀ x10 : Int32, x10 = x3 ||| ((1 : Int32) <<< (r4 &&& 31)) → (vp_in r4 8 ∧ (∃ P12 : Int32 → SI → SF → Prop, wp_Ju_calledBy r4.toNatClampNeg I8 F8 P12 ∧ ∀ r12 I12 F12, P12 r12 I12 F12 → (∀ x13 : Int32, x13 = x2 ||| r12 → ∀ x14 : Int32, x14 = x4 + 1 → ((wp_CJ_areGoodFrom_9 Post n) x13 x10 x14 I12 F12)))))) ∧ (r8 = 0 → (Post 0 I8 F8))))))))))))
def wp_CJ_areGoodFrom (p1 : Int32) (I : SI) (F : SF) (Post : Int32 → SI → SF → Prop) : Prop := ∀ x1 : Int32, x1 = (1 : Int32) <<< (p1 &&& 31) → (∃ q9, wp_CJ_areGoodFrom_9 Post q9 x1 0 0 I F)
set_option maxHeartbeats 4000000 in
set_option maxRecDepth 100000 in
theorem c_CJ_areGoodFrom (l : Launch) (D : va_G) (a : Nat → Nat) (cI cZ cQ : ClassId) (hJ : xJ 47 a) (I : SI) (F : SF) (p1 : Int32) (sz : Nat) (Post : Int32 → SI → SF → Prop) (hw : wp_CJ_areGoodFrom p1 I F Post) : Met l y_CJ_areGoodFrom (Cond.code y_CJ_areGoodFrom b_CJ_areGoodFrom 6 (some .boolean) :: TB) { frames := 5, cells := 0, slots := 0, locals := 115 } (va_Pc [.ref (a 0), .int p1] (cP D a cI cZ cQ I F sz)) (va_Qi (fun r (u : SI × SF) => Post r u.1 u.2) (fun u t => va_P D vwCl (cw a cI cZ cQ u.1 u.2) t.heap) (xA 47 a sz)) 0 0 (xA 47 a sz) := by
  refine Met.ofW (cc := b_CJ_areGoodFrom) (maxL := 6) (ret := (some .boolean)) (by decide) rfl ?_
  intro p e s m args below meth c s₁ B hml hv
  obtain ⟨rfl, rfl, hP, hK, hN⟩ := hv
  have hx := B.exec
  have hb := B.bytes
  have hr := B.returns
  have hts : ∀ w ∈ TB, w.before _ s = true := fun w h => atoms_spec (ws := Cond.code y_CJ_areGoodFrom b_CJ_areGoodFrom 6 (some .boolean) :: TB) B.pre w (List.mem_cons_of_mem _ h)
  have hown : s.vm.findClass "CodeJudge" = some m.cls := findClass_of_methodNamed B.named
  have hlocks := B.notSynchronized
  have hl := lv_entry ([.ref (a 0), .int p1]) (n := 6) (Nat.le_of_ble_eq_true rfl)
  rw [lg_entry_eq]
  generalize (lg_sl ([.ref (a 0), .int p1]) ++ List.replicate (6 - (lg_sl ([.ref (a 0), .int p1])).length) Slot.unset).toArray = ls at hl ⊢
  have hl : lv_has ls 6 [(0, .ref (a 0)), (1, .int p1)] := hl
  obtain ⟨Q, hQ⟩ : ∃ Q, Q = MQ below (va_Qi (fun r (u : SI × SF) => Post r u.1 u.2) (fun u t => va_P D vwCl (cw a cI cZ cQ u.1 u.2) t.heap) (xA 47 a s.heap.size)) ([.ref (a 0), .int p1]).toArray s 0 0 (xA 47 a s.heap.size) := ⟨_, rfl⟩
  rw [← hQ]
  have J9 : ∀ n : Nat, ∀ (x2 : Int32) (x3 : Int32) (x4 : Int32) (I : SI) (F : SF) (H : Heap) (locs : List Loc) (ls : Array Slot), lv_has ls 6 [(0, .ref (a 0)), (2, .int x2), (3, .int x3), (4, .int x4)] → va_P D vwCl (cw a cI cZ cQ I F) H → va_S (xA 47 a s.heap.size) s.heap H locs → wp_CJ_areGoodFrom_9 Post n x2 x3 x4 I F → W p l e (headSpec (Cond.code y_CJ_areGoodFrom b_CJ_areGoodFrom 6 (some .boolean) :: TB) { frames := 5, cells := 0, slots := 0, locals := 115 }).room s m ([.ref (a 0), .int p1]).toArray below meth c H locs 0 0 Q (F0 m 9 ls []) := by
    intro n9
    induction n9 with
    | zero =>
      intro x2 x3 x4 I F H locs ls hl hP hS hw
      exact False.elim hw
    | succ n9 ih9 =>
      intro x2 x3 x4 I F H locs ls hl hP hS hw
      dsimp only [wp_CJ_areGoodFrom_9] at hw
      refine lv_iload hx hb dCJ_areGoodFrom_9 (lv_at hl 3 rfl) ?_
      refine lv_bipush (v := 8) hx hb dCJ_areGoodFrom_11 (by decide) ?_
      refine lv_icmp_ge (tgt := 94) hx hb dCJ_areGoodFrom_13 (by decide) (fun h2 => ?_) (fun h2 => ?_)
      · have hw := hw.1 h2
        refine lv_iconst (v := 1) hx hb dCJ_areGoodFrom_94 (by decide) ?_
        rw [hQ]
        exact W.zret (v := 1) hx hb hr rfl (fun t ht hW => ⟨⟨1, (I, F), rfl, hw, by subst ht; exact hP⟩, hS.F ht⟩) hS.2.2 dCJ_areGoodFrom_95
      · have hw := hw.2 h2
        refine lv_iload_n hx hb dCJ_areGoodFrom_16 rfl (lv_at hl 1 rfl) ?_
        refine lv_iload_n hx hb dCJ_areGoodFrom_17 rfl (lv_at hl 2 rfl) ?_
        refine lv_icmp_eq (tgt := 94) hx hb dCJ_areGoodFrom_18 (by decide) (fun h3 => ?_) (fun h3 => ?_)
        · have hw := hw.1 h3
          refine lv_iconst (v := 1) hx hb dCJ_areGoodFrom_94 (by decide) ?_
          rw [hQ]
          exact W.zret (v := 1) hx hb hr rfl (fun t ht hW => ⟨⟨1, (I, F), rfl, hw, by subst ht; exact hP⟩, hS.F ht⟩) hS.2.2 dCJ_areGoodFrom_95
        · have hw := hw.2 h3
          refine lv_iload_n hx hb dCJ_areGoodFrom_21 rfl (lv_at hl 1 rfl) ?_
          refine lv_iload_n hx hb dCJ_areGoodFrom_22 rfl (lv_at hl 2 rfl) ?_
          refine lv_iconst (v := (-1)) hx hb dCJ_areGoodFrom_23 (by decide) ?_
          refine lv_ixor hx hb dCJ_areGoodFrom_24 ?_
          refine lv_iand hx hb dCJ_areGoodFrom_25 ?_
          obtain ⟨P4, hc4, hw⟩ := hw
          refine cc_i (va_runS (As := [.int (x2 &&& (x3 ^^^ (-1)))]) (rest := []) ⟨hx, hb, hml, hown, hts⟩ (c_IN_numberOfTrailingZeros l D a cI cZ cQ hJ I F (x2 &&& (x3 ^^^ (-1))) H.size P4 hc4) (va_cwS 1 hts (tb_S wc_IN_numberOfTrailingZeros tw_3_59 tw_3_60 tw_1_17) rfl rfl rfl (by decide +kernel) ⟨Nat.le_of_ble_eq_true rfl, Nat.le_of_ble_eq_true rfl⟩) ⟨cP_bl, cP_at hP hK hN⟩ rfl rfl hl.1 rfl (lv_room (Nat.le_of_ble_eq_true rfl)) dCJ_areGoodFrom_26 ⟨Nat.le_of_ble_eq_true rfl, Nat.le_of_ble_eq_true rfl⟩) hS (fun r4 I4 F4 H locs hP hp4 hS => ?_)
          have hw := hw r4 I4 F4 hp4
          refine lv_istore (lv' := [(5, .int r4), (0, .ref (a 0)), (2, .int x2), (3, .int x3), (4, .int x4)]) hx hb dCJ_areGoodFrom_29 hl (by decide) rfl (fun ls hl => ?_)
          refine lv_iload hx hb dCJ_areGoodFrom_31 (lv_at hl 0 rfl) ?_
          refine lv_bipush (v := 8) hx hb dCJ_areGoodFrom_33 (by decide) ?_
          obtain ⟨P5, hc5, hw⟩ := hw
          refine cc_i (va_runS (As := [.int r4, .int 8]) (rest := []) ⟨hx, hb, hml, hown, hts⟩ (c_CJ_isBelow l D a cI cZ cQ hJ I4 F4 r4 8 H.size P5 hc5) (va_cwS 2 hts (tb_S wc_CJ_isBelow tw_2_6 tw_2_7 tw_1_1) rfl rfl rfl (by decide +kernel) ⟨Nat.le_of_ble_eq_true rfl, Nat.le_of_ble_eq_true rfl⟩) ⟨cP_bl, cP_at hP hK hN⟩ rfl rfl hl.1 rfl (lv_room (Nat.le_of_ble_eq_true rfl)) dCJ_areGoodFrom_35 ⟨Nat.le_of_ble_eq_true rfl, Nat.le_of_ble_eq_true rfl⟩) hS (fun r5 I5 F5 H locs hP hp5 hS => ?_)
          have hw := hw r5 I5 F5 hp5
          refine lv_if_eq (tgt := 62) hx hb dCJ_areGoodFrom_38 (by decide) (fun h6 => ?_) (fun h6 => ?_)
          · have hw := hw.1 h6
            refine lv_iconst (v := 0) hx hb dCJ_areGoodFrom_62 (by decide) ?_
            rw [hQ]
            exact W.zret (v := 0) hx hb hr rfl (fun t ht hW => ⟨⟨0, (I5, F5), rfl, hw, by subst ht; exact hP⟩, hS.F ht⟩) hS.2.2 dCJ_areGoodFrom_63
          · have hw := hw.2 h6
            refine lv_aload_n hx hb dCJ_areGoodFrom_41 rfl (lv_at hl 1 rfl) ?_
            refine va_get (D := D) (v := .ref (a 2)) (ci := 7) (C := "CodeJudge") (T := T_CJ) (N := 3) hx hb hts in_CJ hown hK hP 0 cw_0 rfl 1 (by decide) (hts (.fieldLink "CodeJudge" 19 "CodeJudge" "judge" "LCodeJudge$Judge;") tw_1_228) (fun _ h9 => h9) rfl dCJ_areGoodFrom_42 ?_
            refine lv_aload_n hx hb dCJ_areGoodFrom_45 rfl (lv_at hl 1 rfl) ?_
            refine va_get (D := D) (v := .ref (a 1)) (ci := 7) (C := "CodeJudge") (T := T_CJ) (N := 3) hx hb hts in_CJ hown hK hP 0 cw_0 rfl 0 (by decide) (hts (.fieldLink "CodeJudge" 11 "CodeJudge" "methods" "[LCodeJudge$Method;") tw_1_227) (fun _ h9 => h9) rfl dCJ_areGoodFrom_46 ?_
            refine lv_aload_n hx hb dCJ_areGoodFrom_49 rfl (lv_at hl 1 rfl) ?_
            refine va_get (D := D) (v := .ref (a 1)) (ci := 7) (C := "CodeJudge") (T := T_CJ) (N := 3) hx hb hts in_CJ hown hK hP 0 cw_0 rfl 0 (by decide) (hts (.fieldLink "CodeJudge" 11 "CodeJudge" "methods" "[LCodeJudge$Method;") tw_1_227) (fun _ h9 => h9) rfl dCJ_areGoodFrom_50 ?_
            refine lv_iload hx hb dCJ_areGoodFrom_53 (lv_at hl 0 rfl) ?_
            obtain ⟨h7, hw⟩ := hw
            refine va_aldq hx hb hK hP 1 2 cw_1 rfl h7 dCJ_areGoodFrom_55 ?_
            have kh7 := vin_lt h7
            obtain ⟨P8, hc8, hw⟩ := hw
            refine cc_i (va_runV (As := [.ref (a 1), .ref (a (23 + 3 * r4.toNatClampNeg))]) (rest := []) ⟨hx, hb, hml, hown, hts⟩ (c_Ju_approves l D a cI cZ cQ hJ I5 F5 r4.toNatClampNeg kh7 H.size P8 hc8) (cwV 2 hts (tb_V (C := "CodeJudge$Judge") wc_Ju_approves tw_2_169 tw_2_170 tw_2_171 tw_1_3) rfl rfl rfl (by decide +kernel) ⟨Nat.le_of_ble_eq_true rfl, Nat.le_of_ble_eq_true rfl⟩) ⟨cP_bl, va_recv hK hP rfl cw_2, cP_at hP hK hN⟩ rfl rfl hl.1 rfl (lv_room (Nat.le_of_ble_eq_true rfl)) dCJ_areGoodFrom_56 ⟨Nat.le_of_ble_eq_true rfl, Nat.le_of_ble_eq_true rfl⟩) hS (fun r8 I8 F8 H locs hP hp8 hS => ?_)
            have hw := hw r8 I8 F8 hp8
            refine lv_if_ne (tgt := 64) hx hb dCJ_areGoodFrom_59 (by decide) (fun h9 => ?_) (fun h9 => ?_)
            · have hw := hw.1 h9
              refine lv_iload_n hx hb dCJ_areGoodFrom_64 rfl (lv_at hl 3 rfl) ?_
              refine lv_iconst (v := 1) hx hb dCJ_areGoodFrom_65 (by decide) ?_
              refine lv_iload hx hb dCJ_areGoodFrom_66 (lv_at hl 0 rfl) ?_
              refine lv_ishl hx hb dCJ_areGoodFrom_68 ?_
              refine lv_ior hx hb dCJ_areGoodFrom_69 ?_
              refine lv_topi (fun x10 e_x10 => ?_)
              have hw := hw x10 e_x10
              refine lv_istore_n (lv' := [(3, .int x10), (5, .int r4), (0, .ref (a 0)), (2, .int x2), (4, .int x4)]) hx hb dCJ_areGoodFrom_70 rfl hl (by decide) rfl (fun ls hl => ?_)
              refine lv_iload_n hx hb dCJ_areGoodFrom_71 rfl (lv_at hl 3 rfl) ?_
              refine lv_aload_n hx hb dCJ_areGoodFrom_72 rfl (lv_at hl 2 rfl) ?_
              refine va_get (D := D) (v := .ref (a 2)) (ci := 7) (C := "CodeJudge") (T := T_CJ) (N := 3) hx hb hts in_CJ hown hK hP 0 cw_0 rfl 1 (by decide) (hts (.fieldLink "CodeJudge" 19 "CodeJudge" "judge" "LCodeJudge$Judge;") tw_1_228) (fun _ h9 => h9) rfl dCJ_areGoodFrom_73 ?_
              refine lv_aload_n hx hb dCJ_areGoodFrom_76 rfl (lv_at hl 2 rfl) ?_
              refine va_get (D := D) (v := .ref (a 1)) (ci := 7) (C := "CodeJudge") (T := T_CJ) (N := 3) hx hb hts in_CJ hown hK hP 0 cw_0 rfl 0 (by decide) (hts (.fieldLink "CodeJudge" 11 "CodeJudge" "methods" "[LCodeJudge$Method;") tw_1_227) (fun _ h9 => h9) rfl dCJ_areGoodFrom_77 ?_
              refine lv_iload hx hb dCJ_areGoodFrom_80 (lv_at hl 1 rfl) ?_
              obtain ⟨h11, hw⟩ := hw
              refine va_aldq hx hb hK hP 1 2 cw_1 rfl h11 dCJ_areGoodFrom_82 ?_
              have kh11 := vin_lt h11
              obtain ⟨P12, hc12, hw⟩ := hw
              refine cc_i (va_runV (As := [.ref (a (23 + 3 * r4.toNatClampNeg))]) (rest := [.int x2]) ⟨hx, hb, hml, hown, hts⟩ (c_Ju_calledBy l D a cI cZ cQ hJ I8 F8 r4.toNatClampNeg kh11 H.size P12 hc12) (cwV 1 hts (tb_V (C := "CodeJudge$Judge") wc_Ju_calledBy tw_3_63 tw_3_64 tw_3_65 tw_1_3) rfl rfl rfl (by decide +kernel) ⟨Nat.le_of_ble_eq_true rfl, Nat.le_of_ble_eq_true rfl⟩) ⟨cP_bl, va_recv hK hP rfl cw_2, cP_at hP hK hN⟩ rfl rfl hl.1 rfl (lv_room (Nat.le_of_ble_eq_true rfl)) dCJ_areGoodFrom_83 ⟨Nat.le_of_ble_eq_true rfl, Nat.le_of_ble_eq_true rfl⟩) hS (fun r12 I12 F12 H locs hP hp12 hS => ?_)
              have hw := hw r12 I12 F12 hp12
              refine lv_ior hx hb dCJ_areGoodFrom_86 ?_
              refine lv_topi (fun x13 e_x13 => ?_)
              have hw := hw x13 e_x13
              refine lv_istore_n (lv' := [(2, .int x13), (3, .int x10), (5, .int r4), (0, .ref (a 0)), (4, .int x4)]) hx hb dCJ_areGoodFrom_87 rfl hl (by decide) rfl (fun ls hl => ?_)
              obtain ⟨x14, e_x14⟩ : ∃ z : Int32, z = x4 + 1 := ⟨_, rfl⟩
              have hw := hw x14 e_x14
              refine lv_iinc (k := 4) (v := x14) (lv' := [(4, .int x14), (2, .int x13), (3, .int x10), (5, .int r4), (0, .ref (a 0))]) hx hb dCJ_areGoodFrom_88 hl rfl (e_x14 ▸ (by first | rfl | decide)) (by decide) rfl (fun ls hl => ?_)
              refine lv_goto (tgt := 9) hx hb dCJ_areGoodFrom_91 (by decide) ?_
              exact ih9 x13 x10 x14 I12 F12 H locs ls (lv_sub hl [4, 1, 2, 0] rfl) hP hS hw
            · have hw := hw.2 h9
              refine lv_iconst (v := 0) hx hb dCJ_areGoodFrom_62 (by decide) ?_
              rw [hQ]
              exact W.zret (v := 0) hx hb hr rfl (fun t ht hW => ⟨⟨0, (I8, F8), rfl, hw, by subst ht; exact hP⟩, hS.F ht⟩) hS.2.2 dCJ_areGoodFrom_63
  suffices hM : ∀ (H : Heap) (locs : List Loc), va_P D vwCl (cw a cI cZ cQ I F) H → va_S (xA 47 a s.heap.size) s.heap H locs → W p l e (headSpec (Cond.code y_CJ_areGoodFrom b_CJ_areGoodFrom 6 (some .boolean) :: TB) { frames := 5, cells := 0, slots := 0, locals := 115 }).room s m ([.ref (a 0), .int p1]).toArray below meth c H locs 0 0 (Q) (F0 m 0 ls []) from hM s.heap [] hP va_S.rf
  clear hP
  intro H locs hP hS
  dsimp only [wp_CJ_areGoodFrom] at hw
  refine lv_iconst (v := 1) hx hb dCJ_areGoodFrom_0 (by decide) ?_
  refine lv_iload_n hx hb dCJ_areGoodFrom_1 rfl (lv_at hl 1 rfl) ?_
  refine lv_ishl hx hb dCJ_areGoodFrom_2 ?_
  refine lv_topi (fun x1 e_x1 => ?_)
  have hw := hw x1 e_x1
  refine lv_istore_n (lv' := [(2, .int x1), (0, .ref (a 0)), (1, .int p1)]) hx hb dCJ_areGoodFrom_3 rfl hl (by decide) rfl (fun ls hl => ?_)
  refine lv_iconst (v := 0) hx hb dCJ_areGoodFrom_4 (by decide) ?_
  refine lv_istore_n (lv' := [(3, .int 0), (2, .int x1), (0, .ref (a 0)), (1, .int p1)]) hx hb dCJ_areGoodFrom_5 rfl hl (by decide) rfl (fun ls hl => ?_)
  refine lv_iconst (v := 0) hx hb dCJ_areGoodFrom_6 (by decide) ?_
  refine lv_istore (lv' := [(4, .int 0), (3, .int 0), (2, .int x1), (0, .ref (a 0)), (1, .int p1)]) hx hb dCJ_areGoodFrom_7 hl (by decide) rfl (fun ls hl => ?_)
  obtain ⟨n9, hw⟩ := hw
  exact J9 n9 x1 0 0 I F H locs ls (lv_sub hl [3, 2, 1, 0] rfl) hP hS hw
