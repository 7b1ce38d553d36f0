def wp_MM_make_25 (Post : Int32 → SI → SF → Prop) : Nat → Int32 → Int32 → SI → SF → Prop
  | 0 => fun _ _ _ _ => False
  | n + 1 => fun x1 x2 I F => (x1 ≤ x2 → (Post (((I 9) + 1) - 1) (va_up (va_up I 10 ((I 10) + x1)) 9 ((I 9) + 1)) F)) ∧ (¬ x1 ≤ x2 → (vp_in ((I 10) + x2) 2000 ∧ (∀ x5 : Int32, x5 = x2 + 1 → ((wp_MM_make_25 Post n) x1 x5 I (va_up F 24 (upd (F 24) ((I 10) + x2 : Int32).toNatClampNeg 0))))))
def wp_MM_make (p1 : Int32) (I : SI) (F : SF) (Post : Int32 → SI → SF → Prop) : Prop := vp_in (I 9) 201 ∧ (vp_in (I 9) 201 ∧ (∃ q25, wp_MM_make_25 Post q25 p1 0 I (va_up (va_up F 22 (upd (F 22) (I 9 : Int32).toNatClampNeg (I 10))) 23 (upd (F 23) (I 9 : Int32).toNatClampNeg p1))))
set_option maxHeartbeats 4000000 in
set_option maxRecDepth 100000 in
theorem c_MM_make (l : Launch) (D : va_G) (a : Nat → Nat) (cI cZ : ClassId) (hJ : xJ 26 a) (I : SI) (F : SF) (p1 : Int32) (sz : Nat) (Post : Int32 → SI → SF → Prop) (hw : wp_MM_make p1 I F Post) : Met l y_MM_make (Cond.code y_MM_make b_MM_make 3 (some .int) :: TB) { frames := 0, cells := 0, slots := 0, locals := 0 } (va_Pc [.ref (a 0), .int p1] (mP D a cI cZ I F sz)) (va_Qi (fun r (u : SI × SF) => Post r u.1 u.2) (fun u t => va_P D vwCl (mw a cI cZ u.1 u.2) t.heap) (xA 26 a sz)) 0 0 (xA 26 a sz) := by
  refine Met.ofW (cc := b_MM_make) (maxL := 3) (ret := (some .int)) (by decide) rfl ?_
  intro p e s m args below meth c s₁ B hml hv
  obtain ⟨rfl, rfl, hP, hK⟩ := hv
  have hx := B.exec
  have hb := B.bytes
  have hr := B.returns
  have hts : ∀ w ∈ TB, w.before _ s = true := fun w h => atoms_spec (ws := Cond.code y_MM_make b_MM_make 3 (some .int) :: TB) B.pre w (List.mem_cons_of_mem _ h)
  have hown : s.vm.findClass "CodeJudgeModel" = some m.cls := findClass_of_methodNamed B.named
  have hlocks := B.notSynchronized
  have hl := lv_entry ([.ref (a 0), .int p1]) (n := 3) (Nat.le_of_ble_eq_true rfl)
  rw [lg_entry_eq]
  generalize (lg_sl ([.ref (a 0), .int p1]) ++ List.replicate (3 - (lg_sl ([.ref (a 0), .int p1])).length) Slot.unset).toArray = ls at hl ⊢
  have hl : lv_has ls 3 [(0, .ref (a 0)), (1, .int p1)] := hl
  obtain ⟨Q, hQ⟩ : ∃ Q, Q = MQ below (va_Qi (fun r (u : SI × SF) => Post r u.1 u.2) (fun u t => va_P D vwCl (mw a cI cZ u.1 u.2) t.heap) (xA 26 a s.heap.size)) ([.ref (a 0), .int p1]).toArray s 0 0 (xA 26 a s.heap.size) := ⟨_, rfl⟩
  rw [← hQ]
  have J25 : ∀ n : Nat, ∀ (x1 : Int32) (x2 : Int32) (I : SI) (F : SF) (H : Heap) (locs : List Loc) (ls : Array Slot), lv_has ls 3 [(0, .ref (a 0)), (1, .int x1), (2, .int x2)] → va_P D vwCl (mw a cI cZ I F) H → va_S (xA 26 a s.heap.size) s.heap H locs → wp_MM_make_25 Post n x1 x2 I F → W p l e (headSpec (Cond.code y_MM_make b_MM_make 3 (some .int) :: TB) { frames := 0, cells := 0, slots := 0, locals := 0 }).room s m ([.ref (a 0), .int p1]).toArray below meth c H locs 0 0 Q (F0 m 25 ls []) := by
    intro n25
    induction n25 with
    | zero =>
      intro x1 x2 I F H locs ls hl hP hS hw
      exact False.elim hw
    | succ n25 ih25 =>
      intro x1 x2 I F H locs ls hl hP hS hw
      dsimp only [wp_MM_make_25] at hw
      refine lv_iload_n hx hb dMM_make_25 rfl (lv_at hl 2 rfl) ?_
      refine lv_iload_n hx hb dMM_make_26 rfl (lv_at hl 1 rfl) ?_
      refine lv_icmp_ge (tgt := 48) hx hb dMM_make_27 (by decide) (fun h3 => ?_) (fun h3 => ?_)
      · have hw := hw.1 h3
        refine lv_aload_n hx hb dMM_make_48 rfl (lv_at hl 0 rfl) ?_
        refine lv_aload_n hx hb dMM_make_49 rfl (lv_at hl 0 rfl) ?_
        refine va_get (D := D) (v := .int (I 10)) (ci := 8) (C := "CodeJudgeModel") (T := T_MM) (N := 37) hx hb hts in_MM hown hK hP 0 mw_0 rfl 31 (by decide) (hts (.fieldLink "CodeJudgeModel" 151 "CodeJudgeModel" "cells" "I") tw_4_96) (fun _ h9 => h9) rfl dMM_make_50 ?_
        refine lv_iload_n hx hb dMM_make_53 rfl (lv_at hl 1 rfl) ?_
        refine lv_iadd hx hb dMM_make_54 ?_
        refine va_put (D := D) (ci := 8) (v := .int ((I 10) + x1)) (ty := .int) (C := "CodeJudgeModel") (T := T_MM) (N := 37) hx hb hts in_MM ty_MM ok_MM nm_MM hown hK hP (mD hJ) hS 0 mw_0 rfl 31 (by decide) (hts (.fieldLink "CodeJudgeModel" 151 "CodeJudgeModel" "cells" "I") tw_4_96) (fun _ h9 => h9) rfl (by decide +kernel) rfl rfl (Nat.le_of_ble_eq_true rfl) dMM_make_55 (fun H locs hP _ hS => ?_)
        have hP := mwp_10 hP
        refine lv_aload_n hx hb dMM_make_58 rfl (lv_at hl 0 rfl) ?_
        refine lv_dup hx hb dMM_make_59 rfl ?_
        refine va_get (D := D) (v := .int (I 9)) (ci := 8) (C := "CodeJudgeModel") (T := T_MM) (N := 37) hx hb hts in_MM hown hK hP 0 mw_0 rfl 30 (by decide) (hts (.fieldLink "CodeJudgeModel" 148 "CodeJudgeModel" "made" "I") tw_4_95) (fun _ h9 => h9) rfl dMM_make_60 ?_
        refine lv_iconst (v := 1) hx hb dMM_make_63 (by decide) ?_
        refine lv_iadd hx hb dMM_make_64 ?_
        refine va_put (D := D) (ci := 8) (v := .int ((I 9) + 1)) (ty := .int) (C := "CodeJudgeModel") (T := T_MM) (N := 37) hx hb hts in_MM ty_MM ok_MM nm_MM hown hK hP (mD hJ) hS 0 mw_0 rfl 30 (by decide) (hts (.fieldLink "CodeJudgeModel" 148 "CodeJudgeModel" "made" "I") tw_4_95) (fun _ h9 => h9) rfl (by decide +kernel) rfl rfl (Nat.le_of_ble_eq_true rfl) dMM_make_65 (fun H locs hP _ hS => ?_)
        have hP := mwp_9 hP
        refine lv_aload_n hx hb dMM_make_68 rfl (lv_at hl 0 rfl) ?_
        refine va_get (D := D) (v := .int ((I 9) + 1)) (ci := 8) (C := "CodeJudgeModel") (T := T_MM) (N := 37) hx hb hts in_MM hown hK hP 0 mw_0 rfl 30 (by decide) (hts (.fieldLink "CodeJudgeModel" 148 "CodeJudgeModel" "made" "I") tw_4_95) (fun _ h9 => h9) rfl dMM_make_69 ?_
        refine lv_iconst (v := 1) hx hb dMM_make_72 (by decide) ?_
        refine lv_isub hx hb dMM_make_73 ?_
        rw [hQ]
        exact W.iret (v := (((I 9) + 1) - 1)) hx hb hr (fun t ht hW => ⟨⟨(((I 9) + 1) - 1), ((va_up (va_up I 10 ((I 10) + x1)) 9 ((I 9) + 1)), F), rfl, hw, by subst ht; exact hP⟩, hS.F ht⟩) hS.2.2 dMM_make_74
      · have hw := hw.2 h3
        refine lv_aload_n hx hb dMM_make_30 rfl (lv_at hl 0 rfl) ?_
        refine va_get (D := D) (v := .ref (a 24)) (ci := 8) (C := "CodeJudgeModel") (T := T_MM) (N := 37) hx hb hts in_MM hown hK hP 0 mw_0 rfl 34 (by decide) (hts (.fieldLink "CodeJudgeModel" 80 "CodeJudgeModel" "memory" "[I") tw_4_99) (fun _ h9 => h9) rfl dMM_make_31 ?_
        refine lv_aload_n hx hb dMM_make_34 rfl (lv_at hl 0 rfl) ?_
        refine va_get (D := D) (v := .int (I 10)) (ci := 8) (C := "CodeJudgeModel") (T := T_MM) (N := 37) hx hb hts in_MM hown hK hP 0 mw_0 rfl 31 (by decide) (hts (.fieldLink "CodeJudgeModel" 151 "CodeJudgeModel" "cells" "I") tw_4_96) (fun _ h9 => h9) rfl dMM_make_35 ?_
        refine lv_iload_n hx hb dMM_make_38 rfl (lv_at hl 2 rfl) ?_
        refine lv_iadd hx hb dMM_make_39 ?_
        refine lv_iconst (v := 0) hx hb dMM_make_40 (by decide) ?_
        obtain ⟨h4, hw⟩ := hw
        refine va_iast hx hb hK hP (mD hJ) hS 24 0 mw_24 rfl h4 dMM_make_41 (fun H locs hP _ hS => ?_)
        have hP := mwa_24 hP
        obtain ⟨x5, e_x5⟩ : ∃ z : Int32, z = x2 + 1 := ⟨_, rfl⟩
        have hw := hw x5 e_x5
        refine lv_iinc (k := 2) (v := x5) (lv' := [(2, .int x5), (0, .ref (a 0)), (1, .int x1)]) hx hb dMM_make_42 hl rfl (e_x5 ▸ (by first | rfl | decide)) (by decide) rfl (fun ls hl => ?_)
        refine lv_goto (tgt := 25) hx hb dMM_make_45 (by decide) ?_
        exact ih25 x1 x5 I (va_up F 24 (upd (F 24) ((I 10) + x2 : Int32).toNatClampNeg 0)) H locs ls (lv_sub hl [1, 2, 0] rfl) hP hS hw
  suffices hM : ∀ (H : Heap) (locs : List Loc), va_P D vwCl (mw a cI cZ I F) H → va_S (xA 26 a s.heap.size) s.heap H locs → W p l e (headSpec (Cond.code y_MM_make b_MM_make 3 (some .int) :: TB) { frames := 0, cells := 0, slots := 0, locals := 0 }).room s m ([.ref (a 0), .int p1]).toArray below meth c H locs 0 0 (Q) (F0 m 0 ls []) from hM s.heap [] hP va_S.rf
  clear hP
  intro H locs hP hS
  dsimp only [wp_MM_make] at hw
  refine lv_aload_n hx hb dMM_make_0 rfl (lv_at hl 0 rfl) ?_
  refine va_get (D := D) (v := .ref (a 22)) (ci := 8) (C := "CodeJudgeModel") (T := T_MM) (N := 37) hx hb hts in_MM hown hK hP 0 mw_0 rfl 32 (by decide) (hts (.fieldLink "CodeJudgeModel" 74 "CodeJudgeModel" "begins" "[I") tw_4_97) (fun _ h9 => h9) rfl dMM_make_1 ?_
  refine lv_aload_n hx hb dMM_make_4 rfl (lv_at hl 0 rfl) ?_
  refine va_get (D := D) (v := .int (I 9)) (ci := 8) (C := "CodeJudgeModel") (T := T_MM) (N := 37) hx hb hts in_MM hown hK hP 0 mw_0 rfl 30 (by decide) (hts (.fieldLink "CodeJudgeModel" 148 "CodeJudgeModel" "made" "I") tw_4_95) (fun _ h9 => h9) rfl dMM_make_5 ?_
  refine lv_aload_n hx hb dMM_make_8 rfl (lv_at hl 0 rfl) ?_
  refine va_get (D := D) (v := .int (I 10)) (ci := 8) (C := "CodeJudgeModel") (T := T_MM) (N := 37) hx hb hts in_MM hown hK hP 0 mw_0 rfl 31 (by decide) (hts (.fieldLink "CodeJudgeModel" 151 "CodeJudgeModel" "cells" "I") tw_4_96) (fun _ h9 => h9) rfl dMM_make_9 ?_
  obtain ⟨h1, hw⟩ := hw
  refine va_iast hx hb hK hP (mD hJ) hS 22 0 mw_22 rfl h1 dMM_make_12 (fun H locs hP _ hS => ?_)
  have hP := mwa_22 hP
  refine lv_aload_n hx hb dMM_make_13 rfl (lv_at hl 0 rfl) ?_
  refine va_get (D := D) (v := .ref (a 23)) (ci := 8) (C := "CodeJudgeModel") (T := T_MM) (N := 37) hx hb hts in_MM hown hK hP 0 mw_0 rfl 33 (by decide) (hts (.fieldLink "CodeJudgeModel" 77 "CodeJudgeModel" "lengths" "[I") tw_4_98) (fun _ h9 => h9) rfl dMM_make_14 ?_
  refine lv_aload_n hx hb dMM_make_17 rfl (lv_at hl 0 rfl) ?_
  refine va_get (D := D) (v := .int (I 9)) (ci := 8) (C := "CodeJudgeModel") (T := T_MM) (N := 37) hx hb hts in_MM hown hK hP 0 mw_0 rfl 30 (by decide) (hts (.fieldLink "CodeJudgeModel" 148 "CodeJudgeModel" "made" "I") tw_4_95) (fun _ h9 => h9) rfl dMM_make_18 ?_
  refine lv_iload_n hx hb dMM_make_21 rfl (lv_at hl 1 rfl) ?_
  obtain ⟨h2, hw⟩ := hw
  refine va_iast hx hb hK hP (mD hJ) hS 23 0 mw_23 rfl h2 dMM_make_22 (fun H locs hP _ hS => ?_)
  have hP := mwa_23 hP
  refine lv_iconst (v := 0) hx hb dMM_make_23 (by decide) ?_
  refine lv_istore_n (lv' := [(2, .int 0), (0, .ref (a 0)), (1, .int p1)]) hx hb dMM_make_24 rfl hl (by decide) rfl (fun ls hl => ?_)
  obtain ⟨n25, hw⟩ := hw
  exact J25 n25 p1 0 I (va_up (va_up F 22 (upd (F 22) (I 9 : Int32).toNatClampNeg (I 10))) 23 (upd (F 23) (I 9 : Int32).toNatClampNeg p1)) H locs ls (lv_sub hl [1, 2, 0] rfl) hP hS hw
def wp_MM_handle (p1 : Int32) (I : SI) (F : SF) (Post : SI → SF → Prop) : Prop := ∃ P1 : Int32 → SI → SF → Prop, wp_MM_popValue I F P1 ∧ ∀ r1 I1 F1, P1 r1 I1 F1 → ((¬ p1 = 10 → ((¬ p1 = 11 → ((¬ p1 = 12 → ((¬ p1 = 13 → ((¬ p1 = 20 → ((¬ p1 = 22 → ((¬ p1 = 25 → (Post I1 F1)) ∧ (p1 = 25 → ((¬ (100 : Int32) = 0) ∧ (vp_in ((I1 11) - (I1 11) / 100 * 100) 100 ∧ (Post (va_up I1 11 ((I1 11) + 1)) (va_up F1 25 (upd (F1 25) ((I1 11) - (I1 11) / 100 * 100 : Int32).toNatClampNeg r1)))))))) ∧ (p1 = 22 → (∃ P11 : Int32 → SI → SF → Prop, wp_MM_popValue I1 F1 P11 ∧ ∀ r11 I11 F11, P11 r11 I11 F11 → (∃ P12 : SI → SF → Prop, wp_MM_pushValue r1 I11 F11 P12 ∧ ∀ I12 F12, P12 I12 F12 → (∃ P13 : SI → SF → Prop, wp_MM_pushValue r11 I12 F12 P13 ∧ ∀ I13 F13, P13 I13 F13 → (Post I13 F13))))))) ∧ (p1 = 20 → (∃ P14 : SI → SF → Prop, wp_MM_pushValue r1 I1 F1 P14 ∧ ∀ I14 F14, P14 I14 F14 → (∃ P15 : SI → SF → Prop, wp_MM_pushValue r1 I14 F14 P15 ∧ ∀ I15 F15, P15 I15 F15 → (Post I15 F15)))))) ∧ (p1 = 13 → (∃ P16 : Int32 → SI → SF → Prop, wp_MM_popValue I1 F1 P16 ∧ ∀ r16 I16 F16, P16 r16 I16 F16 → (∃ P17 : Int32 → SI → SF → Prop, wp_MM_popValue I16 F16 P17 ∧ ∀ r17 I17 F17, P17 r17 I17 F17 → (vp_in r17 201 ∧ (vp_in (((F17 22) r17.toNatClampNeg) + r16) 2000 ∧ (Post I17 (va_up F17 24 (upd (F17 24) (((F17 22) r17.toNatClampNeg) + r16 : Int32).toNatClampNeg r1)))))))))) ∧ (p1 = 12 → (∃ P20 : Int32 → SI → SF → Prop, wp_MM_popValue I1 F1 P20 ∧ ∀ r20 I20 F20, P20 r20 I20 F20 → (vp_in r20 201 ∧ (vp_in (((F20 22) r20.toNatClampNeg) + r1) 2000 ∧ (∃ P23 : SI → SF → Prop, wp_MM_pushValue ((F20 24) (((F20 22) r20.toNatClampNeg) + r1 : Int32).toNatClampNeg) I20 F20 P23 ∧ ∀ I23 F23, P23 I23 F23 → (Post I23 F23)))))))) ∧ (p1 = 11 → (vp_in r1 201 ∧ (∃ P25 : SI → SF → Prop, wp_MM_pushValue ((F1 23) r1.toNatClampNeg) I1 F1 P25 ∧ ∀ I25 F25, P25 I25 F25 → (Post I25 F25)))))) ∧ (p1 = 10 → (∃ P26 : Int32 → SI → SF → Prop, wp_MM_make r1 I1 F1 P26 ∧ ∀ r26 I26 F26, P26 r26 I26 F26 → (∃ P27 : SI → SF → Prop, wp_MM_pushValue r26 I26 F26 P27 ∧ ∀ I27 F27, P27 I27 F27 → (Post I27 F27)))))
set_option maxHeartbeats 4000000 in
set_option maxRecDepth 100000 in
theorem c_MM_handle (l : Launch) (D : va_G) (a : Nat → Nat) (cI cZ : ClassId) (hJ : xJ 26 a) (I : SI) (F : SF) (p1 : Int32) (sz : Nat) (Post : SI → SF → Prop) (hw : wp_MM_handle p1 I F Post) : Met l y_MM_handle (Cond.code y_MM_handle b_MM_handle 4 none :: TB) { frames := 1, cells := 0, slots := 0, locals := 22 } (va_Pc [.ref (a 0), .int p1] (mP D a cI cZ I F sz)) (va_Qv (fun (u : SI × SF) => Post u.1 u.2) (fun u t => va_P D vwCl (mw a cI cZ u.1 u.2) t.heap) (xA 26 a sz)) 0 0 (xA 26 a sz) := by
  refine Met.ofW (cc := b_MM_handle) (maxL := 4) (ret := none) (by decide) rfl ?_
  intro p e s m args below meth c s₁ B hml hv
  obtain ⟨rfl, rfl, hP, hK⟩ := hv
  have hx := B.exec
  have hb := B.bytes
  have hr := B.returns
  have hts : ∀ w ∈ TB, w.before _ s = true := fun w h => atoms_spec (ws := Cond.code y_MM_handle b_MM_handle 4 none :: TB) B.pre w (List.mem_cons_of_mem _ h)
  have hown : s.vm.findClass "CodeJudgeModel" = some m.cls := findClass_of_methodNamed B.named
  have hlocks := B.notSynchronized
  have hl := lv_entry ([.ref (a 0), .int p1]) (n := 4) (Nat.le_of_ble_eq_true rfl)
  rw [lg_entry_eq]
  generalize (lg_sl ([.ref (a 0), .int p1]) ++ List.replicate (4 - (lg_sl ([.ref (a 0), .int p1])).length) Slot.unset).toArray = ls at hl ⊢
  have hl : lv_has ls 4 [(0, .ref (a 0)), (1, .int p1)] := hl
  suffices hM : ∀ (H : Heap) (locs : List Loc), va_P D vwCl (mw a cI cZ I F) H → va_S (xA 26 a s.heap.size) s.heap H locs → W p l e (headSpec (Cond.code y_MM_handle b_MM_handle 4 none :: TB) { frames := 1, cells := 0, slots := 0, locals := 22 }).room s m ([.ref (a 0), .int p1]).toArray below meth c H locs 0 0 (MQ below (va_Qv (fun (u : SI × SF) => Post u.1 u.2) (fun u t => va_P D vwCl (mw a cI cZ u.1 u.2) t.heap) (xA 26 a s.heap.size)) ([.ref (a 0), .int p1]).toArray s 0 0 (xA 26 a s.heap.size)) (F0 m 0 ls []) from hM s.heap [] hP va_S.rf
  clear hP
  intro H locs hP hS
  dsimp only [wp_MM_handle] at hw
  refine lv_aload_n hx hb dMM_handle_0 rfl (lv_at hl 0 rfl) ?_
  obtain ⟨P1, hc1, hw⟩ := hw
  refine mc_i (va_runV (As := []) (rest := []) ⟨hx, hb, hml, hown, hts⟩ (c_MM_popValue l D a cI cZ hJ I F H.size P1 hc1) (cwV 0 hts (tb_V (C := "CodeJudgeModel") wc_MM_popValue tw_5_59 tw_5_61 tw_0_40 tw_1_9) rfl rfl rfl (by decide +kernel) ⟨Nat.le_of_ble_eq_true rfl, Nat.le_of_ble_eq_true rfl⟩) ⟨mP_bl, va_recv hK hP rfl mw_0, mP_at hP hK⟩ rfl rfl hl.1 rfl (lv_room (Nat.le_of_ble_eq_true rfl)) dMM_handle_1 ⟨Nat.le_of_ble_eq_true rfl, Nat.le_of_ble_eq_true rfl⟩) hS (fun r1 I1 F1 H locs hP hp1 hS => ?_)
  have hw := hw r1 I1 F1 hp1
  refine lv_istore_n (lv' := [(2, .int r1), (0, .ref (a 0)), (1, .int p1)]) hx hb dMM_handle_4 rfl hl (by decide) rfl (fun ls hl => ?_)
  refine lv_iload_n hx hb dMM_handle_5 rfl (lv_at hl 2 rfl) ?_
  refine lv_bipush (v := 10) hx hb dMM_handle_6 (by decide) ?_
  refine lv_icmp_ne (tgt := 23) hx hb dMM_handle_8 (by decide) (fun h2 => ?_) (fun h2 => ?_)
  · have hw := hw.1 h2
    refine lv_iload_n hx hb dMM_handle_23 rfl (lv_at hl 2 rfl) ?_
    refine lv_bipush (v := 11) hx hb dMM_handle_24 (by decide) ?_
    refine lv_icmp_ne (tgt := 42) hx hb dMM_handle_26 (by decide) (fun h3 => ?_) (fun h3 => ?_)
    · have hw := hw.1 h3
      refine lv_iload_n hx hb dMM_handle_42 rfl (lv_at hl 2 rfl) ?_
      refine lv_bipush (v := 12) hx hb dMM_handle_43 (by decide) ?_
      refine lv_icmp_ne (tgt := 71) hx hb dMM_handle_45 (by decide) (fun h4 => ?_) (fun h4 => ?_)
      · have hw := hw.1 h4
        refine lv_iload_n hx hb dMM_handle_71 rfl (lv_at hl 2 rfl) ?_
        refine lv_bipush (v := 13) hx hb dMM_handle_72 (by decide) ?_
        refine lv_icmp_ne (tgt := 102) hx hb dMM_handle_74 (by decide) (fun h5 => ?_) (fun h5 => ?_)
        · have hw := hw.1 h5
          refine lv_iload_n hx hb dMM_handle_102 rfl (lv_at hl 2 rfl) ?_
          refine lv_bipush (v := 20) hx hb dMM_handle_103 (by decide) ?_
          refine lv_icmp_ne (tgt := 121) hx hb dMM_handle_105 (by decide) (fun h6 => ?_) (fun h6 => ?_)
          · have hw := hw.1 h6
            refine lv_iload_n hx hb dMM_handle_121 rfl (lv_at hl 2 rfl) ?_
            refine lv_bipush (v := 22) hx hb dMM_handle_122 (by decide) ?_
            refine lv_icmp_ne (tgt := 145) hx hb dMM_handle_124 (by decide) (fun h7 => ?_) (fun h7 => ?_)
            · have hw := hw.1 h7
              refine lv_iload_n hx hb dMM_handle_145 rfl (lv_at hl 2 rfl) ?_
              refine lv_bipush (v := 25) hx hb dMM_handle_146 (by decide) ?_
              refine lv_icmp_ne (tgt := 174) hx hb dMM_handle_148 (by decide) (fun h8 => ?_) (fun h8 => ?_)
              · have hw := hw.1 h8
                exact W.vret hx hb hr (fun t ht hW => ⟨⟨(I1, F1), rfl, hw, by subst ht; exact hP⟩, hS.F ht⟩) hS.2.2 dMM_handle_174
              · have hw := hw.2 h8
                refine lv_aload_n hx hb dMM_handle_151 rfl (lv_at hl 1 rfl) ?_
                refine va_get (D := D) (v := .ref (a 25)) (ci := 8) (C := "CodeJudgeModel") (T := T_MM) (N := 37) hx hb hts in_MM hown hK hP 0 mw_0 rfl 36 (by decide) (hts (.fieldLink "CodeJudgeModel" 83 "CodeJudgeModel" "output" "[I") tw_4_101) (fun _ h9 => h9) rfl dMM_handle_152 ?_
                refine lv_aload_n hx hb dMM_handle_155 rfl (lv_at hl 1 rfl) ?_
                refine va_get (D := D) (v := .int (I1 11)) (ci := 8) (C := "CodeJudgeModel") (T := T_MM) (N := 37) hx hb hts in_MM hown hK hP 0 mw_0 rfl 35 (by decide) (hts (.fieldLink "CodeJudgeModel" 173 "CodeJudgeModel" "outs" "I") tw_4_100) (fun _ h9 => h9) rfl dMM_handle_156 ?_
                refine lv_bipush (v := 100) hx hb dMM_handle_159 (by decide) ?_
                obtain ⟨h9, hw⟩ := hw
                refine lv_irem hx hb dMM_handle_161 h9 ?_
                refine lv_iload_n hx hb dMM_handle_162 rfl (lv_at hl 0 rfl) ?_
                obtain ⟨h10, hw⟩ := hw
                refine va_iast hx hb hK hP (mD hJ) hS 25 0 mw_25 rfl h10 dMM_handle_163 (fun H locs hP _ hS => ?_)
                have hP := mwa_25 hP
                refine lv_aload_n hx hb dMM_handle_164 rfl (lv_at hl 1 rfl) ?_
                refine lv_dup hx hb dMM_handle_165 rfl ?_
                refine va_get (D := D) (v := .int (I1 11)) (ci := 8) (C := "CodeJudgeModel") (T := T_MM) (N := 37) hx hb hts in_MM hown hK hP 0 mw_0 rfl 35 (by decide) (hts (.fieldLink "CodeJudgeModel" 173 "CodeJudgeModel" "outs" "I") tw_4_100) (fun _ h9 => h9) rfl dMM_handle_166 ?_
                refine lv_iconst (v := 1) hx hb dMM_handle_169 (by decide) ?_
                refine lv_iadd hx hb dMM_handle_170 ?_
                refine va_put (D := D) (ci := 8) (v := .int ((I1 11) + 1)) (ty := .int) (C := "CodeJudgeModel") (T := T_MM) (N := 37) hx hb hts in_MM ty_MM ok_MM nm_MM hown hK hP (mD hJ) hS 0 mw_0 rfl 35 (by decide) (hts (.fieldLink "CodeJudgeModel" 173 "CodeJudgeModel" "outs" "I") tw_4_100) (fun _ h9 => h9) rfl (by decide +kernel) rfl rfl (Nat.le_of_ble_eq_true rfl) dMM_handle_171 (fun H locs hP _ hS => ?_)
                have hP := mwp_11 hP
                exact W.vret hx hb hr (fun t ht hW => ⟨⟨((va_up I1 11 ((I1 11) + 1)), (va_up F1 25 (upd (F1 25) ((I1 11) - (I1 11) / 100 * 100 : Int32).toNatClampNeg r1))), rfl, hw, by subst ht; exact hP⟩, hS.F ht⟩) hS.2.2 dMM_handle_174
            · have hw := hw.2 h7
              refine lv_aload_n hx hb dMM_handle_127 rfl (lv_at hl 1 rfl) ?_
              obtain ⟨P11, hc11, hw⟩ := hw
              refine mc_i (va_runV (As := []) (rest := []) ⟨hx, hb, hml, hown, hts⟩ (c_MM_popValue l D a cI cZ hJ I1 F1 H.size P11 hc11) (cwV 0 hts (tb_V (C := "CodeJudgeModel") wc_MM_popValue tw_5_59 tw_5_61 tw_0_40 tw_1_9) rfl rfl rfl (by decide +kernel) ⟨Nat.le_of_ble_eq_true rfl, Nat.le_of_ble_eq_true rfl⟩) ⟨mP_bl, va_recv hK hP rfl mw_0, mP_at hP hK⟩ rfl rfl hl.1 rfl (lv_room (Nat.le_of_ble_eq_true rfl)) dMM_handle_128 ⟨Nat.le_of_ble_eq_true rfl, Nat.le_of_ble_eq_true rfl⟩) hS (fun r11 I11 F11 H locs hP hp11 hS => ?_)
              have hw := hw r11 I11 F11 hp11
              refine lv_istore_n (lv' := [(3, .int r11), (2, .int r1), (0, .ref (a 0)), (1, .int p1)]) hx hb dMM_handle_131 rfl hl (by decide) rfl (fun ls hl => ?_)
              refine lv_aload_n hx hb dMM_handle_132 rfl (lv_at hl 2 rfl) ?_
              refine lv_iload_n hx hb dMM_handle_133 rfl (lv_at hl 1 rfl) ?_
              obtain ⟨P12, hc12, hw⟩ := hw
              refine mc_v (va_runV (As := [.int r1]) (rest := []) ⟨hx, hb, hml, hown, hts⟩ (c_MM_pushValue l D a cI cZ hJ I11 F11 r1 H.size P12 hc12) (cwV 1 hts (tb_V (C := "CodeJudgeModel") wc_MM_pushValue tw_5_55 tw_5_57 tw_0_39 tw_1_9) rfl rfl rfl (by decide +kernel) ⟨Nat.le_of_ble_eq_true rfl, Nat.le_of_ble_eq_true rfl⟩) ⟨mP_bl, va_recv hK hP rfl mw_0, mP_at hP hK⟩ rfl rfl hl.1 rfl (lv_room (Nat.le_of_ble_eq_true rfl)) dMM_handle_134 ⟨Nat.le_of_ble_eq_true rfl, Nat.le_of_ble_eq_true rfl⟩) hS (fun I12 F12 H locs hP hp12 hS => ?_)
              have hw := hw I12 F12 hp12
              refine lv_aload_n hx hb dMM_handle_137 rfl (lv_at hl 2 rfl) ?_
              refine lv_iload_n hx hb dMM_handle_138 rfl (lv_at hl 0 rfl) ?_
              obtain ⟨P13, hc13, hw⟩ := hw
              refine mc_v (va_runV (As := [.int r11]) (rest := []) ⟨hx, hb, hml, hown, hts⟩ (c_MM_pushValue l D a cI cZ hJ I12 F12 r11 H.size P13 hc13) (cwV 1 hts (tb_V (C := "CodeJudgeModel") wc_MM_pushValue tw_5_55 tw_5_57 tw_0_39 tw_1_9) rfl rfl rfl (by decide +kernel) ⟨Nat.le_of_ble_eq_true rfl, Nat.le_of_ble_eq_true rfl⟩) ⟨mP_bl, va_recv hK hP rfl mw_0, mP_at hP hK⟩ rfl rfl hl.1 rfl (lv_room (Nat.le_of_ble_eq_true rfl)) dMM_handle_139 ⟨Nat.le_of_ble_eq_true rfl, Nat.le_of_ble_eq_true rfl⟩) hS (fun I13 F13 H locs hP hp13 hS => ?_)
              have hw := hw I13 F13 hp13
              refine lv_goto (tgt := 174) hx hb dMM_handle_142 (by decide) ?_
              exact W.vret hx hb hr (fun t ht hW => ⟨⟨(I13, F13), rfl, hw, by subst ht; exact hP⟩, hS.F ht⟩) hS.2.2 dMM_handle_174
          · have hw := hw.2 h6
            refine lv_aload_n hx hb dMM_handle_108 rfl (lv_at hl 1 rfl) ?_
            refine lv_iload_n hx hb dMM_handle_109 rfl (lv_at hl 0 rfl) ?_
            obtain ⟨P14, hc14, hw⟩ := hw
            refine mc_v (va_runV (As := [.int r1]) (rest := []) ⟨hx, hb, hml, hown, hts⟩ (c_MM_pushValue l D a cI cZ hJ I1 F1 r1 H.size P14 hc14) (cwV 1 hts (tb_V (C := "CodeJudgeModel") wc_MM_pushValue tw_5_55 tw_5_57 tw_0_39 tw_1_9) rfl rfl rfl (by decide +kernel) ⟨Nat.le_of_ble_eq_true rfl, Nat.le_of_ble_eq_true rfl⟩) ⟨mP_bl, va_recv hK hP rfl mw_0, mP_at hP hK⟩ rfl rfl hl.1 rfl (lv_room (Nat.le_of_ble_eq_true rfl)) dMM_handle_110 ⟨Nat.le_of_ble_eq_true rfl, Nat.le_of_ble_eq_true rfl⟩) hS (fun I14 F14 H locs hP hp14 hS => ?_)
            have hw := hw I14 F14 hp14
            refine lv_aload_n hx hb dMM_handle_113 rfl (lv_at hl 1 rfl) ?_
            refine lv_iload_n hx hb dMM_handle_114 rfl (lv_at hl 0 rfl) ?_
            obtain ⟨P15, hc15, hw⟩ := hw
            refine mc_v (va_runV (As := [.int r1]) (rest := []) ⟨hx, hb, hml, hown, hts⟩ (c_MM_pushValue l D a cI cZ hJ I14 F14 r1 H.size P15 hc15) (cwV 1 hts (tb_V (C := "CodeJudgeModel") wc_MM_pushValue tw_5_55 tw_5_57 tw_0_39 tw_1_9) rfl rfl rfl (by decide +kernel) ⟨Nat.le_of_ble_eq_true rfl, Nat.le_of_ble_eq_true rfl⟩) ⟨mP_bl, va_recv hK hP rfl mw_0, mP_at hP hK⟩ rfl rfl hl.1 rfl (lv_room (Nat.le_of_ble_eq_true rfl)) dMM_handle_115 ⟨Nat.le_of_ble_eq_true rfl, Nat.le_of_ble_eq_true rfl⟩) hS (fun I15 F15 H locs hP hp15 hS => ?_)
            have hw := hw I15 F15 hp15
            refine lv_goto (tgt := 174) hx hb dMM_handle_118 (by decide) ?_
            exact W.vret hx hb hr (fun t ht hW => ⟨⟨(I15, F15), rfl, hw, by subst ht; exact hP⟩, hS.F ht⟩) hS.2.2 dMM_handle_174
        · have hw := hw.2 h5
          refine lv_aload_n hx hb dMM_handle_77 rfl (lv_at hl 1 rfl) ?_
          obtain ⟨P16, hc16, hw⟩ := hw
          refine mc_i (va_runV (As := []) (rest := []) ⟨hx, hb, hml, hown, hts⟩ (c_MM_popValue l D a cI cZ hJ I1 F1 H.size P16 hc16) (cwV 0 hts (tb_V (C := "CodeJudgeModel") wc_MM_popValue tw_5_59 tw_5_61 tw_0_40 tw_1_9) rfl rfl rfl (by decide +kernel) ⟨Nat.le_of_ble_eq_true rfl, Nat.le_of_ble_eq_true rfl⟩) ⟨mP_bl, va_recv hK hP rfl mw_0, mP_at hP hK⟩ rfl rfl hl.1 rfl (lv_room (Nat.le_of_ble_eq_true rfl)) dMM_handle_78 ⟨Nat.le_of_ble_eq_true rfl, Nat.le_of_ble_eq_true rfl⟩) hS (fun r16 I16 F16 H locs hP hp16 hS => ?_)
          have hw := hw r16 I16 F16 hp16
          refine lv_istore_n (lv' := [(3, .int r16), (2, .int r1), (0, .ref (a 0)), (1, .int p1)]) hx hb dMM_handle_81 rfl hl (by decide) rfl (fun ls hl => ?_)
          refine lv_aload_n hx hb dMM_handle_82 rfl (lv_at hl 2 rfl) ?_
          refine va_get (D := D) (v := .ref (a 24)) (ci := 8) (C := "CodeJudgeModel") (T := T_MM) (N := 37) hx hb hts in_MM hown hK hP 0 mw_0 rfl 34 (by decide) (hts (.fieldLink "CodeJudgeModel" 80 "CodeJudgeModel" "memory" "[I") tw_4_99) (fun _ h9 => h9) rfl dMM_handle_83 ?_
          refine lv_aload_n hx hb dMM_handle_86 rfl (lv_at hl 2 rfl) ?_
          refine va_get (D := D) (v := .ref (a 22)) (ci := 8) (C := "CodeJudgeModel") (T := T_MM) (N := 37) hx hb hts in_MM hown hK hP 0 mw_0 rfl 32 (by decide) (hts (.fieldLink "CodeJudgeModel" 74 "CodeJudgeModel" "begins" "[I") tw_4_97) (fun _ h9 => h9) rfl dMM_handle_87 ?_
          refine lv_aload_n hx hb dMM_handle_90 rfl (lv_at hl 2 rfl) ?_
          obtain ⟨P17, hc17, hw⟩ := hw
          refine mc_i (va_runV (As := []) (rest := [.ref (a 22), .ref (a 24)]) ⟨hx, hb, hml, hown, hts⟩ (c_MM_popValue l D a cI cZ hJ I16 F16 H.size P17 hc17) (cwV 0 hts (tb_V (C := "CodeJudgeModel") wc_MM_popValue tw_5_59 tw_5_61 tw_0_40 tw_1_9) rfl rfl rfl (by decide +kernel) ⟨Nat.le_of_ble_eq_true rfl, Nat.le_of_ble_eq_true rfl⟩) ⟨mP_bl, va_recv hK hP rfl mw_0, mP_at hP hK⟩ rfl rfl hl.1 rfl (lv_room (Nat.le_of_ble_eq_true rfl)) dMM_handle_91 ⟨Nat.le_of_ble_eq_true rfl, Nat.le_of_ble_eq_true rfl⟩) hS (fun r17 I17 F17 H locs hP hp17 hS => ?_)
          have hw := hw r17 I17 F17 hp17
          obtain ⟨h18, hw⟩ := hw
          refine va_iald hx hb hK hP 22 0 mw_22 rfl h18 dMM_handle_94 ?_
          refine lv_iload_n hx hb dMM_handle_95 rfl (lv_at hl 0 rfl) ?_
          refine lv_iadd hx hb dMM_handle_96 ?_
          refine lv_iload_n hx hb dMM_handle_97 rfl (lv_at hl 1 rfl) ?_
          obtain ⟨h19, hw⟩ := hw
          refine va_iast hx hb hK hP (mD hJ) hS 24 0 mw_24 rfl h19 dMM_handle_98 (fun H locs hP _ hS => ?_)
          have hP := mwa_24 hP
          refine lv_goto (tgt := 174) hx hb dMM_handle_99 (by decide) ?_
          exact W.vret hx hb hr (fun t ht hW => ⟨⟨(I17, (va_up F17 24 (upd (F17 24) (((F17 22) r17.toNatClampNeg) + r16 : Int32).toNatClampNeg r1))), rfl, hw, by subst ht; exact hP⟩, hS.F ht⟩) hS.2.2 dMM_handle_174
      · have hw := hw.2 h4
        refine lv_aload_n hx hb dMM_handle_48 rfl (lv_at hl 1 rfl) ?_
        refine lv_aload_n hx hb dMM_handle_49 rfl (lv_at hl 1 rfl) ?_
        refine va_get (D := D) (v := .ref (a 24)) (ci := 8) (C := "CodeJudgeModel") (T := T_MM) (N := 37) hx hb hts in_MM hown hK hP 0 mw_0 rfl 34 (by decide) (hts (.fieldLink "CodeJudgeModel" 80 "CodeJudgeModel" "memory" "[I") tw_4_99) (fun _ h9 => h9) rfl dMM_handle_50 ?_
        refine lv_aload_n hx hb dMM_handle_53 rfl (lv_at hl 1 rfl) ?_
        refine va_get (D := D) (v := .ref (a 22)) (ci := 8) (C := "CodeJudgeModel") (T := T_MM) (N := 37) hx hb hts in_MM hown hK hP 0 mw_0 rfl 32 (by decide) (hts (.fieldLink "CodeJudgeModel" 74 "CodeJudgeModel" "begins" "[I") tw_4_97) (fun _ h9 => h9) rfl dMM_handle_54 ?_
        refine lv_aload_n hx hb dMM_handle_57 rfl (lv_at hl 1 rfl) ?_
        obtain ⟨P20, hc20, hw⟩ := hw
        refine mc_i (va_runV (As := []) (rest := [.ref (a 22), .ref (a 24), .ref (a 0)]) ⟨hx, hb, hml, hown, hts⟩ (c_MM_popValue l D a cI cZ hJ I1 F1 H.size P20 hc20) (cwV 0 hts (tb_V (C := "CodeJudgeModel") wc_MM_popValue tw_5_59 tw_5_61 tw_0_40 tw_1_9) rfl rfl rfl (by decide +kernel) ⟨Nat.le_of_ble_eq_true rfl, Nat.le_of_ble_eq_true rfl⟩) ⟨mP_bl, va_recv hK hP rfl mw_0, mP_at hP hK⟩ rfl rfl hl.1 rfl (lv_room (Nat.le_of_ble_eq_true rfl)) dMM_handle_58 ⟨Nat.le_of_ble_eq_true rfl, Nat.le_of_ble_eq_true rfl⟩) hS (fun r20 I20 F20 H locs hP hp20 hS => ?_)
        have hw := hw r20 I20 F20 hp20
        obtain ⟨h21, hw⟩ := hw
        refine va_iald hx hb hK hP 22 0 mw_22 rfl h21 dMM_handle_61 ?_
        refine lv_iload_n hx hb dMM_handle_62 rfl (lv_at hl 0 rfl) ?_
        refine lv_iadd hx hb dMM_handle_63 ?_
        obtain ⟨h22, hw⟩ := hw
        refine va_iald hx hb hK hP 24 0 mw_24 rfl h22 dMM_handle_64 ?_
        obtain ⟨P23, hc23, hw⟩ := hw
        refine mc_v (va_runV (As := [.int ((F20 24) (((F20 22) r20.toNatClampNeg) + r1 : Int32).toNatClampNeg)]) (rest := []) ⟨hx, hb, hml, hown, hts⟩ (c_MM_pushValue l D a cI cZ hJ I20 F20 ((F20 24) (((F20 22) r20.toNatClampNeg) + r1 : Int32).toNatClampNeg) H.size P23 hc23) (cwV 1 hts (tb_V (C := "CodeJudgeModel") wc_MM_pushValue tw_5_55 tw_5_57 tw_0_39 tw_1_9) rfl rfl rfl (by decide +kernel) ⟨Nat.le_of_ble_eq_true rfl, Nat.le_of_ble_eq_true rfl⟩) ⟨mP_bl, va_recv hK hP rfl mw_0, mP_at hP hK⟩ rfl rfl hl.1 rfl (lv_room (Nat.le_of_ble_eq_true rfl)) dMM_handle_65 ⟨Nat.le_of_ble_eq_true rfl, Nat.le_of_ble_eq_true rfl⟩) hS (fun I23 F23 H locs hP hp23 hS => ?_)
        have hw := hw I23 F23 hp23
        refine lv_goto (tgt := 174) hx hb dMM_handle_68 (by decide) ?_
        exact W.vret hx hb hr (fun t ht hW => ⟨⟨(I23, F23), rfl, hw, by subst ht; exact hP⟩, hS.F ht⟩) hS.2.2 dMM_handle_174
    · have hw := hw.2 h3
      refine lv_aload_n hx hb dMM_handle_29 rfl (lv_at hl 1 rfl) ?_
      refine lv_aload_n hx hb dMM_handle_30 rfl (lv_at hl 1 rfl) ?_
      refine va_get (D := D) (v := .ref (a 23)) (ci := 8) (C := "CodeJudgeModel") (T := T_MM) (N := 37) hx hb hts in_MM hown hK hP 0 mw_0 rfl 33 (by decide) (hts (.fieldLink "CodeJudgeModel" 77 "CodeJudgeModel" "lengths" "[I") tw_4_98) (fun _ h9 => h9) rfl dMM_handle_31 ?_
      refine lv_iload_n hx hb dMM_handle_34 rfl (lv_at hl 0 rfl) ?_
      obtain ⟨h24, hw⟩ := hw
      refine va_iald hx hb hK hP 23 0 mw_23 rfl h24 dMM_handle_35 ?_
      obtain ⟨P25, hc25, hw⟩ := hw
      refine mc_v (va_runV (As := [.int ((F1 23) r1.toNatClampNeg)]) (rest := []) ⟨hx, hb, hml, hown, hts⟩ (c_MM_pushValue l D a cI cZ hJ I1 F1 ((F1 23) r1.toNatClampNeg) H.size P25 hc25) (cwV 1 hts (tb_V (C := "CodeJudgeModel") wc_MM_pushValue tw_5_55 tw_5_57 tw_0_39 tw_1_9) rfl rfl rfl (by decide +kernel) ⟨Nat.le_of_ble_eq_true rfl, Nat.le_of_ble_eq_true rfl⟩) ⟨mP_bl, va_recv hK hP rfl mw_0, mP_at hP hK⟩ rfl rfl hl.1 rfl (lv_room (Nat.le_of_ble_eq_true rfl)) dMM_handle_36 ⟨Nat.le_of_ble_eq_true rfl, Nat.le_of_ble_eq_true rfl⟩) hS (fun I25 F25 H locs hP hp25 hS => ?_)
      have hw := hw I25 F25 hp25
      refine lv_goto (tgt := 174) hx hb dMM_handle_39 (by decide) ?_
      exact W.vret hx hb hr (fun t ht hW => ⟨⟨(I25, F25), rfl, hw, by subst ht; exact hP⟩, hS.F ht⟩) hS.2.2 dMM_handle_174
  · have hw := hw.2 h2
    refine lv_aload_n hx hb dMM_handle_11 rfl (lv_at hl 1 rfl) ?_
    refine lv_aload_n hx hb dMM_handle_12 rfl (lv_at hl 1 rfl) ?_
    refine lv_iload_n hx hb dMM_handle_13 rfl (lv_at hl 0 rfl) ?_
    obtain ⟨P26, hc26, hw⟩ := hw
    refine mc_i (va_runV (As := [.int r1]) (rest := [.ref (a 0)]) ⟨hx, hb, hml, hown, hts⟩ (c_MM_make l D a cI cZ hJ I1 F1 r1 H.size P26 hc26) (cwV 1 hts (tb_V (C := "CodeJudgeModel") wc_MM_make tw_5_35 tw_5_37 tw_0_35 tw_1_9) rfl rfl rfl (by decide +kernel) ⟨Nat.le_of_ble_eq_true rfl, Nat.le_of_ble_eq_true rfl⟩) ⟨mP_bl, va_recv hK hP rfl mw_0, mP_at hP hK⟩ rfl rfl hl.1 rfl (lv_room (Nat.le_of_ble_eq_true rfl)) dMM_handle_14 ⟨Nat.le_of_ble_eq_true rfl, Nat.le_of_ble_eq_true rfl⟩) hS (fun r26 I26 F26 H locs hP hp26 hS => ?_)
    have hw := hw r26 I26 F26 hp26
    obtain ⟨P27, hc27, hw⟩ := hw
    refine mc_v (va_runV (As := [.int r26]) (rest := []) ⟨hx, hb, hml, hown, hts⟩ (c_MM_pushValue l D a cI cZ hJ I26 F26 r26 H.size P27 hc27) (cwV 1 hts (tb_V (C := "CodeJudgeModel") wc_MM_pushValue tw_5_55 tw_5_57 tw_0_39 tw_1_9) rfl rfl rfl (by decide +kernel) ⟨Nat.le_of_ble_eq_true rfl, Nat.le_of_ble_eq_true rfl⟩) ⟨mP_bl, va_recv hK hP rfl mw_0, mP_at hP hK⟩ rfl rfl hl.1 rfl (lv_room (Nat.le_of_ble_eq_true rfl)) dMM_handle_17 ⟨Nat.le_of_ble_eq_true rfl, Nat.le_of_ble_eq_true rfl⟩) hS (fun I27 F27 H locs hP hp27 hS => ?_)
    have hw := hw I27 F27 hp27
    refine lv_goto (tgt := 174) hx hb dMM_handle_20 (by decide) ?_
    exact W.vret hx hb hr (fun t ht hW => ⟨⟨(I27, F27), rfl, hw, by subst ht; exact hP⟩, hS.F ht⟩) hS.2.2 dMM_handle_174
def wp_MM_isPlace (p1 : Int32) (p2 : Int32) (I : SI) (F : SF) (Post : Int32 → SI → SF → Prop) : Prop := ∃ P1 : Int32 → SI → SF → Prop, wp_MM_isMethod p1 I F P1 ∧ ∀ r1 I1 F1, P1 r1 I1 F1 → ((r1 = 0 → (Post 0 I1 F1)) ∧ (¬ r1 = 0 → ((p2 < 0 → (Post 0 I1 F1)) ∧ (¬ p2 < 0 → (vp_in p1 8 ∧ ((((F1 7) p1.toNatClampNeg) ≤ p2 → (Post 0 I1 F1)) ∧ (¬ ((F1 7) p1.toNatClampNeg) ≤ p2 → (Post 1 I1 F1))))))))
set_option maxHeartbeats 4000000 in
set_option maxRecDepth 100000 in
theorem c_MM_isPlace (l : Launch) (D : va_G) (a : Nat → Nat) (cI cZ : ClassId) (hJ : xJ 26 a) (I : SI) (F : SF) (p1 : Int32) (p2 : Int32) (sz : Nat) (Post : Int32 → SI → SF → Prop) (hw : wp_MM_isPlace p1 p2 I F Post) : Met l y_MM_isPlace (Cond.code y_MM_isPlace b_MM_isPlace 3 (some .boolean) :: TB) { frames := 1, cells := 0, slots := 0, locals := 21 } (va_Pc [.ref (a 0), .int p1, .int p2] (mP D a cI cZ I F sz)) (va_Qi (fun r (u : SI × SF) => Post r u.1 u.2) (fun u t => va_P D vwCl (mw a cI cZ u.1 u.2) t.heap) (xA 26 a sz)) 0 0 (xA 26 a sz) := by
  refine Met.ofW (cc := b_MM_isPlace) (maxL := 3) (ret := (some .boolean)) (by decide) rfl ?_
  intro p e s m args below meth c s₁ B hml hv
  obtain ⟨rfl, rfl, hP, hK⟩ := hv
  have hx := B.exec
  have hb := B.bytes
  have hr := B.returns
  have hts : ∀ w ∈ TB, w.before _ s = true := fun w h => atoms_spec (ws := Cond.code y_MM_isPlace b_MM_isPlace 3 (some .boolean) :: TB) B.pre w (List.mem_cons_of_mem _ h)
  have hown : s.vm.findClass "CodeJudgeModel" = some m.cls := findClass_of_methodNamed B.named
  have hlocks := B.notSynchronized
  have hl := lv_entry ([.ref (a 0), .int p1, .int p2]) (n := 3) (Nat.le_of_ble_eq_true rfl)
  rw [lg_entry_eq]
  generalize (lg_sl ([.ref (a 0), .int p1, .int p2]) ++ List.replicate (3 - (lg_sl ([.ref (a 0), .int p1, .int p2])).length) Slot.unset).toArray = ls at hl ⊢
  have hl : lv_has ls 3 [(0, .ref (a 0)), (1, .int p1), (2, .int p2)] := hl
  suffices hM : ∀ (H : Heap) (locs : List Loc), va_P D vwCl (mw a cI cZ I F) H → va_S (xA 26 a s.heap.size) s.heap H locs → W p l e (headSpec (Cond.code y_MM_isPlace b_MM_isPlace 3 (some .boolean) :: TB) { frames := 1, cells := 0, slots := 0, locals := 21 }).room s m ([.ref (a 0), .int p1, .int p2]).toArray below meth c H locs 0 0 (MQ below (va_Qi (fun r (u : SI × SF) => Post r u.1 u.2) (fun u t => va_P D vwCl (mw a cI cZ u.1 u.2) t.heap) (xA 26 a s.heap.size)) ([.ref (a 0), .int p1, .int p2]).toArray s 0 0 (xA 26 a s.heap.size)) (F0 m 0 ls []) from hM s.heap [] hP va_S.rf
  clear hP
  intro H locs hP hS
  dsimp only [wp_MM_isPlace] at hw
  refine lv_aload_n hx hb dMM_isPlace_0 rfl (lv_at hl 0 rfl) ?_
  refine lv_iload_n hx hb dMM_isPlace_1 rfl (lv_at hl 1 rfl) ?_
  obtain ⟨P1, hc1, hw⟩ := hw
  refine mc_i (va_runV (As := [.int p1]) (rest := []) ⟨hx, hb, hml, hown, hts⟩ (c_MM_isMethod l D a cI cZ hJ I F p1 H.size P1 hc1) (cwV 1 hts (tb_V (C := "CodeJudgeModel") wc_MM_isMethod tw_4_196 tw_4_198 tw_0_22 tw_1_9) rfl rfl rfl (by decide +kernel) ⟨Nat.le_of_ble_eq_true rfl, Nat.le_of_ble_eq_true rfl⟩) ⟨mP_bl, va_recv hK hP rfl mw_0, mP_at hP hK⟩ rfl rfl hl.1 rfl (lv_room (Nat.le_of_ble_eq_true rfl)) dMM_isPlace_2 ⟨Nat.le_of_ble_eq_true rfl, Nat.le_of_ble_eq_true rfl⟩) hS (fun r1 I1 F1 H locs hP hp1 hS => ?_)
  have hw := hw r1 I1 F1 hp1
  refine lv_if_eq (tgt := 26) hx hb dMM_isPlace_5 (by decide) (fun h2 => ?_) (fun h2 => ?_)
  · have hw := hw.1 h2
    refine lv_iconst (v := 0) hx hb dMM_isPlace_26 (by decide) ?_
    exact W.zret (v := 0) hx hb hr rfl (fun t ht hW => ⟨⟨0, (I1, F1), rfl, hw, by subst ht; exact hP⟩, hS.F ht⟩) hS.2.2 dMM_isPlace_27
  · have hw := hw.2 h2
    refine lv_iload_n hx hb dMM_isPlace_8 rfl (lv_at hl 2 rfl) ?_
    refine lv_if_lt (tgt := 26) hx hb dMM_isPlace_9 (by decide) (fun h3 => ?_) (fun h3 => ?_)
    · have hw := hw.1 h3
      refine lv_iconst (v := 0) hx hb dMM_isPlace_26 (by decide) ?_
      exact W.zret (v := 0) hx hb hr rfl (fun t ht hW => ⟨⟨0, (I1, F1), rfl, hw, by subst ht; exact hP⟩, hS.F ht⟩) hS.2.2 dMM_isPlace_27
    · have hw := hw.2 h3
      refine lv_iload_n hx hb dMM_isPlace_12 rfl (lv_at hl 2 rfl) ?_
      refine lv_aload_n hx hb dMM_isPlace_13 rfl (lv_at hl 0 rfl) ?_
      refine va_get (D := D) (v := .ref (a 7)) (ci := 8) (C := "CodeJudgeModel") (T := T_MM) (N := 37) hx hb hts in_MM hown hK hP 0 mw_0 rfl 7 (by decide) (hts (.fieldLink "CodeJudgeModel" 29 "CodeJudgeModel" "sizes" "[I") tw_4_73) (fun _ h9 => h9) rfl dMM_isPlace_14 ?_
      refine lv_iload_n hx hb dMM_isPlace_17 rfl (lv_at hl 1 rfl) ?_
      obtain ⟨h4, hw⟩ := hw
      refine va_iald hx hb hK hP 7 0 mw_7 rfl h4 dMM_isPlace_18 ?_
      refine lv_icmp_ge (tgt := 26) hx hb dMM_isPlace_19 (by decide) (fun h5 => ?_) (fun h5 => ?_)
      · have hw := hw.1 h5
        refine lv_iconst (v := 0) hx hb dMM_isPlace_26 (by decide) ?_
        exact W.zret (v := 0) hx hb hr rfl (fun t ht hW => ⟨⟨0, (I1, F1), rfl, hw, by subst ht; exact hP⟩, hS.F ht⟩) hS.2.2 dMM_isPlace_27
      · have hw := hw.2 h5
        refine lv_iconst (v := 1) hx hb dMM_isPlace_22 (by decide) ?_
        refine lv_goto (tgt := 27) hx hb dMM_isPlace_23 (by decide) ?_
        exact W.zret (v := 1) hx hb hr rfl (fun t ht hW => ⟨⟨1, (I1, F1), rfl, hw, by subst ht; exact hP⟩, hS.F ht⟩) hS.2.2 dMM_isPlace_27
def wp_MM_height_29 (Post : Int32 → SI → SF → Prop) (x2 : Int32) (s0 : Int32) (s1 : Int32) (I : SI) (F : SF) : Prop := ∃ P4 : Int32 → SI → SF → Prop, wp_MM_goes s1 s0 1 I F P4 ∧ ∀ r4 I4 F4, P4 r4 I4 F4 → ((r4 = 0 → (Post 0 I4 F4)) ∧ (¬ r4 = 0 → (vp_in x2 120 ∧ (Post ((F4 10) x2.toNatClampNeg) I4 F4))))
def wp_MM_height_28 (Post : Int32 → SI → SF → Prop) (x2 : Int32) (s0 : Int32) (I : SI) (F : SF) : Prop := wp_MM_height_29 Post x2 0 s0 I F
def wp_MM_height (p1 : Int32) (p2 : Int32) (I : SI) (F : SF) (Post : Int32 → SI → SF → Prop) : Prop := ∃ P1 : Int32 → SI → SF → Prop, wp_MM_isPlace p1 p2 I F P1 ∧ ∀ r1 I1 F1, P1 r1 I1 F1 → (∃ P2 : Int32 → SI → SF → Prop, wp_MM_isPlace p1 p2 I1 F1 P2 ∧ ∀ r2 I2 F2, P2 r2 I2 F2 → ((r2 = 0 → (wp_MM_height_28 Post p2 r1 I2 F2)) ∧ (¬ r2 = 0 → (∃ P7 : Int32 → SI → SF → Prop, wp_MM_judge p1 I2 F2 P7 ∧ ∀ r7 I7 F7, P7 r7 I7 F7 → ((r7 = 0 → (wp_MM_height_28 Post p2 r1 I7 F7)) ∧ (¬ r7 = 0 → (wp_MM_height_29 Post p2 1 r1 I7 F7)))))))
set_option maxHeartbeats 4000000 in
set_option maxRecDepth 100000 in
theorem c_MM_height (l : Launch) (D : va_G) (a : Nat → Nat) (cI cZ : ClassId) (hJ : xJ 26 a) (I : SI) (F : SF) (p1 : Int32) (p2 : Int32) (sz : Nat) (Post : Int32 → SI → SF → Prop) (hw : wp_MM_height p1 p2 I F Post) : Met l y_MM_height (Cond.code y_MM_height b_MM_height 3 (some .int) :: TB) { frames := 5, cells := 0, slots := 0, locals := 119 } (va_Pc [.ref (a 0), .int p1, .int p2] (mP D a cI cZ I F sz)) (va_Qi (fun r (u : SI × SF) => Post r u.1 u.2) (fun u t => va_P D vwCl (mw a cI cZ u.1 u.2) t.heap) (xA 26 a sz)) 0 0 (xA 26 a sz) := by
  refine Met.ofW (cc := b_MM_height) (maxL := 3) (ret := (some .int)) (by decide) rfl ?_
  intro p e s m args below meth c s₁ B hml hv
  obtain ⟨rfl, rfl, hP, hK⟩ := hv
  have hx := B.exec
  have hb := B.bytes
  have hr := B.returns
  have hts : ∀ w ∈ TB, w.before _ s = true := fun w h => atoms_spec (ws := Cond.code y_MM_height b_MM_height 3 (some .int) :: TB) B.pre w (List.mem_cons_of_mem _ h)
  have hown : s.vm.findClass "CodeJudgeModel" = some m.cls := findClass_of_methodNamed B.named
  have hlocks := B.notSynchronized
  have hl := lv_entry ([.ref (a 0), .int p1, .int p2]) (n := 3) (Nat.le_of_ble_eq_true rfl)
  rw [lg_entry_eq]
  generalize (lg_sl ([.ref (a 0), .int p1, .int p2]) ++ List.replicate (3 - (lg_sl ([.ref (a 0), .int p1, .int p2])).length) Slot.unset).toArray = ls at hl ⊢
  have hl : lv_has ls 3 [(0, .ref (a 0)), (1, .int p1), (2, .int p2)] := hl
  obtain ⟨Q, hQ⟩ : ∃ Q, Q = MQ below (va_Qi (fun r (u : SI × SF) => Post r u.1 u.2) (fun u t => va_P D vwCl (mw a cI cZ u.1 u.2) t.heap) (xA 26 a s.heap.size)) ([.ref (a 0), .int p1, .int p2]).toArray s 0 0 (xA 26 a s.heap.size) := ⟨_, rfl⟩
  rw [← hQ]
  have J29 : ∀ (x2 : Int32) (s0 : Int32) (s1 : Int32) (I : SI) (F : SF) (H : Heap) (locs : List Loc) (ls : Array Slot), lv_has ls 3 [(0, .ref (a 0)), (2, .int x2)] → va_P D vwCl (mw a cI cZ I F) H → va_S (xA 26 a s.heap.size) s.heap H locs → wp_MM_height_29 Post x2 s0 s1 I F → W p l e (headSpec (Cond.code y_MM_height b_MM_height 3 (some .int) :: TB) { frames := 5, cells := 0, slots := 0, locals := 119 }).room s m ([.ref (a 0), .int p1, .int p2]).toArray below meth c H locs 0 0 Q (F0 m 29 ls [.int s0, .int s1, .ref (a 0)]) := by
    intro x2 s0 s1 I F H locs ls hl hP hS hw
    dsimp only [wp_MM_height_29] at hw
    refine lv_iconst (v := 1) hx hb dMM_height_29 (by decide) ?_
    obtain ⟨P4, hc4, hw⟩ := hw
    refine mc_i (va_runV (As := [.int s1, .int s0, .int 1]) (rest := []) ⟨hx, hb, hml, hown, hts⟩ (c_MM_goes l D a cI cZ hJ I F s1 s0 1 H.size P4 hc4) (cwV 3 hts (tb_V (C := "CodeJudgeModel") wc_MM_goes tw_4_188 tw_4_190 tw_0_21 tw_1_9) rfl rfl rfl (by decide +kernel) ⟨Nat.le_of_ble_eq_true rfl, Nat.le_of_ble_eq_true rfl⟩) ⟨mP_bl, va_recv hK hP rfl mw_0, mP_at hP hK⟩ rfl rfl hl.1 rfl (lv_room (Nat.le_of_ble_eq_true rfl)) dMM_height_30 ⟨Nat.le_of_ble_eq_true rfl, Nat.le_of_ble_eq_true rfl⟩) hS (fun r4 I4 F4 H locs hP hp4 hS => ?_)
    have hw := hw r4 I4 F4 hp4
    refine lv_if_eq (tgt := 45) hx hb dMM_height_33 (by decide) (fun h5 => ?_) (fun h5 => ?_)
    · have hw := hw.1 h5
      refine lv_iconst (v := 0) hx hb dMM_height_45 (by decide) ?_
      rw [hQ]
      exact W.iret (v := 0) hx hb hr (fun t ht hW => ⟨⟨0, (I4, F4), rfl, hw, by subst ht; exact hP⟩, hS.F ht⟩) hS.2.2 dMM_height_46
    · have hw := hw.2 h5
      refine lv_aload_n hx hb dMM_height_36 rfl (lv_at hl 0 rfl) ?_
      refine va_get (D := D) (v := .ref (a 10)) (ci := 8) (C := "CodeJudgeModel") (T := T_MM) (N := 37) hx hb hts in_MM hown hK hP 0 mw_0 rfl 11 (by decide) (hts (.fieldLink "CodeJudgeModel" 38 "CodeJudgeModel" "heights" "[I") tw_4_76) (fun _ h9 => h9) rfl dMM_height_37 ?_
      refine lv_iload_n hx hb dMM_height_40 rfl (lv_at hl 1 rfl) ?_
      obtain ⟨h6, hw⟩ := hw
      refine va_iald hx hb hK hP 10 0 mw_10 rfl h6 dMM_height_41 ?_
      refine lv_goto (tgt := 46) hx hb dMM_height_42 (by decide) ?_
      rw [hQ]
      exact W.iret (v := ((F4 10) x2.toNatClampNeg)) hx hb hr (fun t ht hW => ⟨⟨((F4 10) x2.toNatClampNeg), (I4, F4), rfl, hw, by subst ht; exact hP⟩, hS.F ht⟩) hS.2.2 dMM_height_46
  have J28 : ∀ (x2 : Int32) (s0 : Int32) (I : SI) (F : SF) (H : Heap) (locs : List Loc) (ls : Array Slot), lv_has ls 3 [(0, .ref (a 0)), (2, .int x2)] → va_P D vwCl (mw a cI cZ I F) H → va_S (xA 26 a s.heap.size) s.heap H locs → wp_MM_height_28 Post x2 s0 I F → W p l e (headSpec (Cond.code y_MM_height b_MM_height 3 (some .int) :: TB) { frames := 5, cells := 0, slots := 0, locals := 119 }).room s m ([.ref (a 0), .int p1, .int p2]).toArray below meth c H locs 0 0 Q (F0 m 28 ls [.int s0, .ref (a 0)]) := by
    intro x2 s0 I F H locs ls hl hP hS hw
    dsimp only [wp_MM_height_28] at hw
    refine lv_iconst (v := 0) hx hb dMM_height_28 (by decide) ?_
    exact J29 x2 0 s0 I F H locs ls (lv_sub hl [0, 1] rfl) hP hS hw
  suffices hM : ∀ (H : Heap) (locs : List Loc), va_P D vwCl (mw a cI cZ I F) H → va_S (xA 26 a s.heap.size) s.heap H locs → W p l e (headSpec (Cond.code y_MM_height b_MM_height 3 (some .int) :: TB) { frames := 5, cells := 0, slots := 0, locals := 119 }).room s m ([.ref (a 0), .int p1, .int p2]).toArray below meth c H locs 0 0 (Q) (F0 m 0 ls []) from hM s.heap [] hP va_S.rf
  clear hP
  intro H locs hP hS
  dsimp only [wp_MM_height] at hw
  refine lv_aload_n hx hb dMM_height_0 rfl (lv_at hl 0 rfl) ?_
  refine lv_aload_n hx hb dMM_height_1 rfl (lv_at hl 0 rfl) ?_
  refine lv_iload_n hx hb dMM_height_2 rfl (lv_at hl 1 rfl) ?_
  refine lv_iload_n hx hb dMM_height_3 rfl (lv_at hl 2 rfl) ?_
  obtain ⟨P1, hc1, hw⟩ := hw
  refine mc_i (va_runV (As := [.int p1, .int p2]) (rest := [.ref (a 0)]) ⟨hx, hb, hml, hown, hts⟩ (c_MM_isPlace l D a cI cZ hJ I F p1 p2 H.size P1 hc1) (cwV 2 hts (tb_V (C := "CodeJudgeModel") wc_MM_isPlace tw_4_204 tw_4_206 tw_0_23 tw_1_9) rfl rfl rfl (by decide +kernel) ⟨Nat.le_of_ble_eq_true rfl, Nat.le_of_ble_eq_true rfl⟩) ⟨mP_bl, va_recv hK hP rfl mw_0, mP_at hP hK⟩ rfl rfl hl.1 rfl (lv_room (Nat.le_of_ble_eq_true rfl)) dMM_height_4 ⟨Nat.le_of_ble_eq_true rfl, Nat.le_of_ble_eq_true rfl⟩) hS (fun r1 I1 F1 H locs hP hp1 hS => ?_)
  have hw := hw r1 I1 F1 hp1
  refine lv_aload_n hx hb dMM_height_7 rfl (lv_at hl 0 rfl) ?_
  refine lv_iload_n hx hb dMM_height_8 rfl (lv_at hl 1 rfl) ?_
  refine lv_iload_n hx hb dMM_height_9 rfl (lv_at hl 2 rfl) ?_
  obtain ⟨P2, hc2, hw⟩ := hw
  refine mc_i (va_runV (As := [.int p1, .int p2]) (rest := [.int r1, .ref (a 0)]) ⟨hx, hb, hml, hown, hts⟩ (c_MM_isPlace l D a cI cZ hJ I1 F1 p1 p2 H.size P2 hc2) (cwV 2 hts (tb_V (C := "CodeJudgeModel") wc_MM_isPlace tw_4_204 tw_4_206 tw_0_23 tw_1_9) rfl rfl rfl (by decide +kernel) ⟨Nat.le_of_ble_eq_true rfl, Nat.le_of_ble_eq_true rfl⟩) ⟨mP_bl, va_recv hK hP rfl mw_0, mP_at hP hK⟩ rfl rfl hl.1 rfl (lv_room (Nat.le_of_ble_eq_true rfl)) dMM_height_10 ⟨Nat.le_of_ble_eq_true rfl, Nat.le_of_ble_eq_true rfl⟩) hS (fun r2 I2 F2 H locs hP hp2 hS => ?_)
  have hw := hw r2 I2 F2 hp2
  refine lv_if_eq (tgt := 28) hx hb dMM_height_13 (by decide) (fun h3 => ?_) (fun h3 => ?_)
  · have hw := hw.1 h3
    exact J28 p2 r1 I2 F2 H locs ls (lv_sub hl [0, 2] rfl) hP hS hw
  · have hw := hw.2 h3
    refine lv_aload_n hx hb dMM_height_16 rfl (lv_at hl 0 rfl) ?_
    refine lv_iload_n hx hb dMM_height_17 rfl (lv_at hl 1 rfl) ?_
    obtain ⟨P7, hc7, hw⟩ := hw
    refine mc_i (va_runV (As := [.int p1]) (rest := [.int r1, .ref (a 0)]) ⟨hx, hb, hml, hown, hts⟩ (c_MM_judge l D a cI cZ hJ I2 F2 p1 H.size P7 hc7) (cwV 1 hts (tb_V (C := "CodeJudgeModel") wc_MM_judge tw_4_216 tw_4_218 tw_0_24 tw_1_9) rfl rfl rfl (by decide +kernel) ⟨Nat.le_of_ble_eq_true rfl, Nat.le_of_ble_eq_true rfl⟩) ⟨mP_bl, va_recv hK hP rfl mw_0, mP_at hP hK⟩ rfl rfl hl.1 rfl (lv_room (Nat.le_of_ble_eq_true rfl)) dMM_height_18 ⟨Nat.le_of_ble_eq_true rfl, Nat.le_of_ble_eq_true rfl⟩) hS (fun r7 I7 F7 H locs hP hp7 hS => ?_)
    have hw := hw r7 I7 F7 hp7
    refine lv_if_eq (tgt := 28) hx hb dMM_height_21 (by decide) (fun h8 => ?_) (fun h8 => ?_)
    · have hw := hw.1 h8
      exact J28 p2 r1 I7 F7 H locs ls (lv_sub hl [0, 2] rfl) hP hS hw
    · have hw := hw.2 h8
      refine lv_iconst (v := 1) hx hb dMM_height_24 (by decide) ?_
      refine lv_goto (tgt := 29) hx hb dMM_height_25 (by decide) ?_
      exact J29 p2 1 r1 I7 F7 H locs ls (lv_sub hl [0, 2] rfl) hP hS hw
def wp_MM_open_32 (Post : SI → SF → Prop) : Nat → Int32 → SI → SF → Prop
  | 0 => fun _ _ _ => False
  | n + 1 => fun x2 I F => (10 ≤ x2 → (Post (va_up I 5 ((I 5) + 1)) F)) ∧ (¬ 10 ≤ x2 → (vp_in (((10 : Int32) * (I 5)) + x2) 500 ∧ (∀ x6 : Int32, x6 = x2 + 1 → ((wp_MM_open_32 Post n) x6 I (va_up F 21 (upd (F 21) (((10 : Int32) * (I 5)) + x2 : Int32).toNatClampNeg 0))))))
def wp_MM_open (p1 : Int32) (I : SI) (F : SF) (Post : SI → SF → Prop) : Prop := vp_in (I 5) 50 ∧ (vp_in (I 5) 50 ∧ (vp_in (I 5) 50 ∧ (∃ q32, wp_MM_open_32 Post q32 0 I (va_up (va_up (va_up F 17 (upd (F 17) (I 5 : Int32).toNatClampNeg p1)) 18 (upd (F 18) (I 5 : Int32).toNatClampNeg 0)) 19 (upd (F 19) (I 5 : Int32).toNatClampNeg 0)))))
set_option maxHeartbeats 4000000 in
set_option maxRecDepth 100000 in
theorem c_MM_open (l : Launch) (D : va_G) (a : Nat → Nat) (cI cZ : ClassId) (hJ : xJ 26 a) (I : SI) (F : SF) (p1 : Int32) (sz : Nat) (Post : SI → SF → Prop) (hw : wp_MM_open p1 I F Post) : Met l y_MM_open (Cond.code y_MM_open b_MM_open 3 none :: TB) { frames := 0, cells := 0, slots := 0, locals := 0 } (va_Pc [.ref (a 0), .int p1] (mP D a cI cZ I F sz)) (va_Qv (fun (u : SI × SF) => Post u.1 u.2) (fun u t => va_P D vwCl (mw a cI cZ u.1 u.2) t.heap) (xA 26 a sz)) 0 0 (xA 26 a sz) := by
  refine Met.ofW (cc := b_MM_open) (maxL := 3) (ret := none) (by decide) rfl ?_
  intro p e s m args below meth c s₁ B hml hv
  obtain ⟨rfl, rfl, hP, hK⟩ := hv
  have hx := B.exec
  have hb := B.bytes
  have hr := B.returns
  have hts : ∀ w ∈ TB, w.before _ s = true := fun w h => atoms_spec (ws := Cond.code y_MM_open b_MM_open 3 none :: TB) B.pre w (List.mem_cons_of_mem _ h)
  have hown : s.vm.findClass "CodeJudgeModel" = some m.cls := findClass_of_methodNamed B.named
  have hlocks := B.notSynchronized
  have hl := lv_entry ([.ref (a 0), .int p1]) (n := 3) (Nat.le_of_ble_eq_true rfl)
  rw [lg_entry_eq]
  generalize (lg_sl ([.ref (a 0), .int p1]) ++ List.replicate (3 - (lg_sl ([.ref (a 0), .int p1])).length) Slot.unset).toArray = ls at hl ⊢
  have hl : lv_has ls 3 [(0, .ref (a 0)), (1, .int p1)] := hl
  obtain ⟨Q, hQ⟩ : ∃ Q, Q = MQ below (va_Qv (fun (u : SI × SF) => Post u.1 u.2) (fun u t => va_P D vwCl (mw a cI cZ u.1 u.2) t.heap) (xA 26 a s.heap.size)) ([.ref (a 0), .int p1]).toArray s 0 0 (xA 26 a s.heap.size) := ⟨_, rfl⟩
  rw [← hQ]
  have J32 : ∀ n : Nat, ∀ (x2 : Int32) (I : SI) (F : SF) (H : Heap) (locs : List Loc) (ls : Array Slot), lv_has ls 3 [(0, .ref (a 0)), (2, .int x2)] → va_P D vwCl (mw a cI cZ I F) H → va_S (xA 26 a s.heap.size) s.heap H locs → wp_MM_open_32 Post n x2 I F → W p l e (headSpec (Cond.code y_MM_open b_MM_open 3 none :: TB) { frames := 0, cells := 0, slots := 0, locals := 0 }).room s m ([.ref (a 0), .int p1]).toArray below meth c H locs 0 0 Q (F0 m 32 ls []) := by
    intro n32
    induction n32 with
    | zero =>
      intro x2 I F H locs ls hl hP hS hw
      exact False.elim hw
    | succ n32 ih32 =>
      intro x2 I F H locs ls hl hP hS hw
      dsimp only [wp_MM_open_32] at hw
      refine lv_iload_n hx hb dMM_open_32 rfl (lv_at hl 1 rfl) ?_
      refine lv_bipush (v := 10) hx hb dMM_open_33 (by decide) ?_
      refine lv_icmp_ge (tgt := 59) hx hb dMM_open_35 (by decide) (fun h4 => ?_) (fun h4 => ?_)
      · have hw := hw.1 h4
        refine lv_aload_n hx hb dMM_open_59 rfl (lv_at hl 0 rfl) ?_
        refine lv_dup hx hb dMM_open_60 rfl ?_
        refine va_get (D := D) (v := .int (I 5)) (ci := 8) (C := "CodeJudgeModel") (T := T_MM) (N := 37) hx hb hts in_MM hown hK hP 0 mw_0 rfl 21 (by decide) (hts (.fieldLink "CodeJudgeModel" 154 "CodeJudgeModel" "frames" "I") tw_4_86) (fun _ h9 => h9) rfl dMM_open_61 ?_
        refine lv_iconst (v := 1) hx hb dMM_open_64 (by decide) ?_
        refine lv_iadd hx hb dMM_open_65 ?_
        refine va_put (D := D) (ci := 8) (v := .int ((I 5) + 1)) (ty := .int) (C := "CodeJudgeModel") (T := T_MM) (N := 37) hx hb hts in_MM ty_MM ok_MM nm_MM hown hK hP (mD hJ) hS 0 mw_0 rfl 21 (by decide) (hts (.fieldLink "CodeJudgeModel" 154 "CodeJudgeModel" "frames" "I") tw_4_86) (fun _ h9 => h9) rfl (by decide +kernel) rfl rfl (Nat.le_of_ble_eq_true rfl) dMM_open_66 (fun H locs hP _ hS => ?_)
        have hP := mwp_5 hP
        rw [hQ]
        exact W.vret hx hb hr (fun t ht hW => ⟨⟨((va_up I 5 ((I 5) + 1)), F), rfl, hw, by subst ht; exact hP⟩, hS.F ht⟩) hS.2.2 dMM_open_69
      · have hw := hw.2 h4
        refine lv_aload_n hx hb dMM_open_38 rfl (lv_at hl 0 rfl) ?_
        refine va_get (D := D) (v := .ref (a 21)) (ci := 8) (C := "CodeJudgeModel") (T := T_MM) (N := 37) hx hb hts in_MM hown hK hP 0 mw_0 rfl 26 (by decide) (hts (.fieldLink "CodeJudgeModel" 71 "CodeJudgeModel" "slots" "[I") tw_4_91) (fun _ h9 => h9) rfl dMM_open_39 ?_
        refine lv_bipush (v := 10) hx hb dMM_open_42 (by decide) ?_
        refine lv_aload_n hx hb dMM_open_44 rfl (lv_at hl 0 rfl) ?_
        refine va_get (D := D) (v := .int (I 5)) (ci := 8) (C := "CodeJudgeModel") (T := T_MM) (N := 37) hx hb hts in_MM hown hK hP 0 mw_0 rfl 21 (by decide) (hts (.fieldLink "CodeJudgeModel" 154 "CodeJudgeModel" "frames" "I") tw_4_86) (fun _ h9 => h9) rfl dMM_open_45 ?_
        refine lv_imul hx hb dMM_open_48 ?_
        refine lv_iload_n hx hb dMM_open_49 rfl (lv_at hl 1 rfl) ?_
        refine lv_iadd hx hb dMM_open_50 ?_
        refine lv_iconst (v := 0) hx hb dMM_open_51 (by decide) ?_
        obtain ⟨h5, hw⟩ := hw
        refine va_iast hx hb hK hP (mD hJ) hS 21 0 mw_21 rfl h5 dMM_open_52 (fun H locs hP _ hS => ?_)
        have hP := mwa_21 hP
        obtain ⟨x6, e_x6⟩ : ∃ z : Int32, z = x2 + 1 := ⟨_, rfl⟩
        have hw := hw x6 e_x6
        refine lv_iinc (k := 1) (v := x6) (lv' := [(2, .int x6), (0, .ref (a 0))]) hx hb dMM_open_53 hl rfl (e_x6 ▸ (by first | rfl | decide)) (by decide) rfl (fun ls hl => ?_)
        refine lv_goto (tgt := 32) hx hb dMM_open_56 (by decide) ?_
        exact ih32 x6 I (va_up F 21 (upd (F 21) (((10 : Int32) * (I 5)) + x2 : Int32).toNatClampNeg 0)) H locs ls (lv_sub hl [1, 0] rfl) hP hS hw
  suffices hM : ∀ (H : Heap) (locs : List Loc), va_P D vwCl (mw a cI cZ I F) H → va_S (xA 26 a s.heap.size) s.heap H locs → W p l e (headSpec (Cond.code y_MM_open b_MM_open 3 none :: TB) { frames := 0, cells := 0, slots := 0, locals := 0 }).room s m ([.ref (a 0), .int p1]).toArray below meth c H locs 0 0 (Q) (F0 m 0 ls []) from hM s.heap [] hP va_S.rf
  clear hP
  intro H locs hP hS
  dsimp only [wp_MM_open] at hw
  refine lv_aload_n hx hb dMM_open_0 rfl (lv_at hl 0 rfl) ?_
  refine va_get (D := D) (v := .ref (a 17)) (ci := 8) (C := "CodeJudgeModel") (T := T_MM) (N := 37) hx hb hts in_MM hown hK hP 0 mw_0 rfl 22 (by decide) (hts (.fieldLink "CodeJudgeModel" 59 "CodeJudgeModel" "methods" "[I") tw_4_87) (fun _ h9 => h9) rfl dMM_open_1 ?_
  refine lv_aload_n hx hb dMM_open_4 rfl (lv_at hl 0 rfl) ?_
  refine va_get (D := D) (v := .int (I 5)) (ci := 8) (C := "CodeJudgeModel") (T := T_MM) (N := 37) hx hb hts in_MM hown hK hP 0 mw_0 rfl 21 (by decide) (hts (.fieldLink "CodeJudgeModel" 154 "CodeJudgeModel" "frames" "I") tw_4_86) (fun _ h9 => h9) rfl dMM_open_5 ?_
  refine lv_iload_n hx hb dMM_open_8 rfl (lv_at hl 1 rfl) ?_
  obtain ⟨h1, hw⟩ := hw
  refine va_iast hx hb hK hP (mD hJ) hS 17 0 mw_17 rfl h1 dMM_open_9 (fun H locs hP _ hS => ?_)
  have hP := mwa_17 hP
  refine lv_aload_n hx hb dMM_open_10 rfl (lv_at hl 0 rfl) ?_
  refine va_get (D := D) (v := .ref (a 18)) (ci := 8) (C := "CodeJudgeModel") (T := T_MM) (N := 37) hx hb hts in_MM hown hK hP 0 mw_0 rfl 23 (by decide) (hts (.fieldLink "CodeJudgeModel" 62 "CodeJudgeModel" "places" "[I") tw_4_88) (fun _ h9 => h9) rfl dMM_open_11 ?_
  refine lv_aload_n hx hb dMM_open_14 rfl (lv_at hl 0 rfl) ?_
  refine va_get (D := D) (v := .int (I 5)) (ci := 8) (C := "CodeJudgeModel") (T := T_MM) (N := 37) hx hb hts in_MM hown hK hP 0 mw_0 rfl 21 (by decide) (hts (.fieldLink "CodeJudgeModel" 154 "CodeJudgeModel" "frames" "I") tw_4_86) (fun _ h9 => h9) rfl dMM_open_15 ?_
  refine lv_iconst (v := 0) hx hb dMM_open_18 (by decide) ?_
  obtain ⟨h2, hw⟩ := hw
  refine va_iast hx hb hK hP (mD hJ) hS 18 0 mw_18 rfl h2 dMM_open_19 (fun H locs hP _ hS => ?_)
  have hP := mwa_18 hP
  refine lv_aload_n hx hb dMM_open_20 rfl (lv_at hl 0 rfl) ?_
  refine va_get (D := D) (v := .ref (a 19)) (ci := 8) (C := "CodeJudgeModel") (T := T_MM) (N := 37) hx hb hts in_MM hown hK hP 0 mw_0 rfl 24 (by decide) (hts (.fieldLink "CodeJudgeModel" 65 "CodeJudgeModel" "tops" "[I") tw_4_89) (fun _ h9 => h9) rfl dMM_open_21 ?_
  refine lv_aload_n hx hb dMM_open_24 rfl (lv_at hl 0 rfl) ?_
  refine va_get (D := D) (v := .int (I 5)) (ci := 8) (C := "CodeJudgeModel") (T := T_MM) (N := 37) hx hb hts in_MM hown hK hP 0 mw_0 rfl 21 (by decide) (hts (.fieldLink "CodeJudgeModel" 154 "CodeJudgeModel" "frames" "I") tw_4_86) (fun _ h9 => h9) rfl dMM_open_25 ?_
  refine lv_iconst (v := 0) hx hb dMM_open_28 (by decide) ?_
  obtain ⟨h3, hw⟩ := hw
  refine va_iast hx hb hK hP (mD hJ) hS 19 0 mw_19 rfl h3 dMM_open_29 (fun H locs hP _ hS => ?_)
  have hP := mwa_19 hP
  refine lv_iconst (v := 0) hx hb dMM_open_30 (by decide) ?_
  refine lv_istore_n (lv' := [(2, .int 0), (0, .ref (a 0)), (1, .int p1)]) hx hb dMM_open_31 rfl hl (by decide) rfl (fun ls hl => ?_)
  obtain ⟨n32, hw⟩ := hw
  exact J32 n32 0 I (va_up (va_up (va_up F 17 (upd (F 17) (I 5 : Int32).toNatClampNeg p1)) 18 (upd (F 18) (I 5 : Int32).toNatClampNeg 0)) 19 (upd (F 19) (I 5 : Int32).toNatClampNeg 0)) H locs ls (lv_sub hl [1, 0] rfl) hP hS hw
def wp_MM_into_21 (Post : SI → SF → Prop) : Nat → Int32 → Int32 → SI → SF → Prop
  | 0 => fun _ _ _ _ => False
  | n + 1 => fun x2 x3 I F => (x3 < 0 → (Post I F)) ∧ (¬ x3 < 0 → (vp_in x2 50 ∧ (vp_in x2 50 ∧ (vp_in x2 50 ∧ (vp_in (((16 : Int32) * x2) + (upd (F 19) x2.toNatClampNeg (((F 19) x2.toNatClampNeg) - 1) x2.toNatClampNeg)) 800 ∧ (vp_in ((((10 : Int32) * (I 5)) - 10) + x3) 500 ∧ (∀ x11 : Int32, x11 = x3 + (-1) → ((wp_MM_into_21 Post n) x2 x11 I (va_up (va_up F 19 (upd (F 19) x2.toNatClampNeg (((F 19) x2.toNatClampNeg) - 1))) 21 (upd (F 21) ((((10 : Int32) * (I 5)) - 10) + x3 : Int32).toNatClampNeg ((F 20) (((16 : Int32) * x2) + (upd (F 19) x2.toNatClampNeg (((F 19) x2.toNatClampNeg) - 1) x2.toNatClampNeg) : Int32).toNatClampNeg)))))))))))
def wp_MM_into (p1 : Int32) (I : SI) (F : SF) (Post : SI → SF → Prop) : Prop := ∃ P1 : SI → SF → Prop, wp_MM_open p1 I F P1 ∧ ∀ I1 F1, P1 I1 F1 → (∀ x2 : Int32, x2 = (I1 5) - 2 → (vp_in p1 8 ∧ (∀ x4 : Int32, x4 = ((F1 2) p1.toNatClampNeg) - 1 → (∃ q21, wp_MM_into_21 Post q21 x2 x4 I1 F1))))
set_option maxHeartbeats 4000000 in
set_option maxRecDepth 100000 in
theorem c_MM_into (l : Launch) (D : va_G) (a : Nat → Nat) (cI cZ : ClassId) (hJ : xJ 26 a) (I : SI) (F : SF) (p1 : Int32) (sz : Nat) (Post : SI → SF → Prop) (hw : wp_MM_into p1 I F Post) : Met l y_MM_into (Cond.code y_MM_into b_MM_into 4 none :: TB) { frames := 1, cells := 0, slots := 0, locals := 22 } (va_Pc [.ref (a 0), .int p1] (mP D a cI cZ I F sz)) (va_Qv (fun (u : SI × SF) => Post u.1 u.2) (fun u t => va_P D vwCl (mw a cI cZ u.1 u.2) t.heap) (xA 26 a sz)) 0 0 (xA 26 a sz) := by
  refine Met.ofW (cc := b_MM_into) (maxL := 4) (ret := none) (by decide) rfl ?_
  intro p e s m args below meth c s₁ B hml hv
  obtain ⟨rfl, rfl, hP, hK⟩ := hv
  have hx := B.exec
  have hb := B.bytes
  have hr := B.returns
  have hts : ∀ w ∈ TB, w.before _ s = true := fun w h => atoms_spec (ws := Cond.code y_MM_into b_MM_into 4 none :: TB) B.pre w (List.mem_cons_of_mem _ h)
  have hown : s.vm.findClass "CodeJudgeModel" = some m.cls := findClass_of_methodNamed B.named
  have hlocks := B.notSynchronized
  have hl := lv_entry ([.ref (a 0), .int p1]) (n := 4) (Nat.le_of_ble_eq_true rfl)
  rw [lg_entry_eq]
  generalize (lg_sl ([.ref (a 0), .int p1]) ++ List.replicate (4 - (lg_sl ([.ref (a 0), .int p1])).length) Slot.unset).toArray = ls at hl ⊢
  have hl : lv_has ls 4 [(0, .ref (a 0)), (1, .int p1)] := hl
  obtain ⟨Q, hQ⟩ : ∃ Q, Q = MQ below (va_Qv (fun (u : SI × SF) => Post u.1 u.2) (fun u t => va_P D vwCl (mw a cI cZ u.1 u.2) t.heap) (xA 26 a s.heap.size)) ([.ref (a 0), .int p1]).toArray s 0 0 (xA 26 a s.heap.size) := ⟨_, rfl⟩
  rw [← hQ]
  have J21 : ∀ n : Nat, ∀ (x2 : Int32) (x3 : Int32) (I : SI) (F : SF) (H : Heap) (locs : List Loc) (ls : Array Slot), lv_has ls 4 [(0, .ref (a 0)), (2, .int x2), (3, .int x3)] → va_P D vwCl (mw a cI cZ I F) H → va_S (xA 26 a s.heap.size) s.heap H locs → wp_MM_into_21 Post n x2 x3 I F → W p l e (headSpec (Cond.code y_MM_into b_MM_into 4 none :: TB) { frames := 1, cells := 0, slots := 0, locals := 22 }).room s m ([.ref (a 0), .int p1]).toArray below meth c H locs 0 0 Q (F0 m 21 ls []) := by
    intro n21
    induction n21 with
    | zero =>
      intro x2 x3 I F H locs ls hl hP hS hw
      exact False.elim hw
    | succ n21 ih21 =>
      intro x2 x3 I F H locs ls hl hP hS hw
      dsimp only [wp_MM_into_21] at hw
      refine lv_iload_n hx hb dMM_into_21 rfl (lv_at hl 2 rfl) ?_
      refine lv_if_lt (tgt := 74) hx hb dMM_into_22 (by decide) (fun h5 => ?_) (fun h5 => ?_)
      · have hw := hw.1 h5
        rw [hQ]
        exact W.vret hx hb hr (fun t ht hW => ⟨⟨(I, F), rfl, hw, by subst ht; exact hP⟩, hS.F ht⟩) hS.2.2 dMM_into_74
      · have hw := hw.2 h5
        refine lv_aload_n hx hb dMM_into_25 rfl (lv_at hl 0 rfl) ?_
        refine va_get (D := D) (v := .ref (a 19)) (ci := 8) (C := "CodeJudgeModel") (T := T_MM) (N := 37) hx hb hts in_MM hown hK hP 0 mw_0 rfl 24 (by decide) (hts (.fieldLink "CodeJudgeModel" 65 "CodeJudgeModel" "tops" "[I") tw_4_89) (fun _ h9 => h9) rfl dMM_into_26 ?_
        refine lv_iload_n hx hb dMM_into_29 rfl (lv_at hl 1 rfl) ?_
        refine lv_dup2_11 hx hb dMM_into_30 rfl rfl ?_
        obtain ⟨h6, hw⟩ := hw
        refine va_iald hx hb hK hP 19 0 mw_19 rfl h6 dMM_into_31 ?_
        refine lv_iconst (v := 1) hx hb dMM_into_32 (by decide) ?_
        refine lv_isub hx hb dMM_into_33 ?_
        obtain ⟨h7, hw⟩ := hw
        refine va_iast hx hb hK hP (mD hJ) hS 19 0 mw_19 rfl h7 dMM_into_34 (fun H locs hP _ hS => ?_)
        have hP := mwa_19 hP
        refine lv_aload_n hx hb dMM_into_35 rfl (lv_at hl 0 rfl) ?_
        refine va_get (D := D) (v := .ref (a 21)) (ci := 8) (C := "CodeJudgeModel") (T := T_MM) (N := 37) hx hb hts in_MM hown hK hP 0 mw_0 rfl 26 (by decide) (hts (.fieldLink "CodeJudgeModel" 71 "CodeJudgeModel" "slots" "[I") tw_4_91) (fun _ h9 => h9) rfl dMM_into_36 ?_
        refine lv_bipush (v := 10) hx hb dMM_into_39 (by decide) ?_
        refine lv_aload_n hx hb dMM_into_41 rfl (lv_at hl 0 rfl) ?_
        refine va_get (D := D) (v := .int (I 5)) (ci := 8) (C := "CodeJudgeModel") (T := T_MM) (N := 37) hx hb hts in_MM hown hK hP 0 mw_0 rfl 21 (by decide) (hts (.fieldLink "CodeJudgeModel" 154 "CodeJudgeModel" "frames" "I") tw_4_86) (fun _ h9 => h9) rfl dMM_into_42 ?_
        refine lv_imul hx hb dMM_into_45 ?_
        refine lv_bipush (v := 10) hx hb dMM_into_46 (by decide) ?_
        refine lv_isub hx hb dMM_into_48 ?_
        refine lv_iload_n hx hb dMM_into_49 rfl (lv_at hl 2 rfl) ?_
        refine lv_iadd hx hb dMM_into_50 ?_
        refine lv_aload_n hx hb dMM_into_51 rfl (lv_at hl 0 rfl) ?_
        refine va_get (D := D) (v := .ref (a 20)) (ci := 8) (C := "CodeJudgeModel") (T := T_MM) (N := 37) hx hb hts in_MM hown hK hP 0 mw_0 rfl 25 (by decide) (hts (.fieldLink "CodeJudgeModel" 68 "CodeJudgeModel" "values" "[I") tw_4_90) (fun _ h9 => h9) rfl dMM_into_52 ?_
        refine lv_bipush (v := 16) hx hb dMM_into_55 (by decide) ?_
        refine lv_iload_n hx hb dMM_into_57 rfl (lv_at hl 1 rfl) ?_
        refine lv_imul hx hb dMM_into_58 ?_
        refine lv_aload_n hx hb dMM_into_59 rfl (lv_at hl 0 rfl) ?_
        refine va_get (D := D) (v := .ref (a 19)) (ci := 8) (C := "CodeJudgeModel") (T := T_MM) (N := 37) hx hb hts in_MM hown hK hP 0 mw_0 rfl 24 (by decide) (hts (.fieldLink "CodeJudgeModel" 65 "CodeJudgeModel" "tops" "[I") tw_4_89) (fun _ h9 => h9) rfl dMM_into_60 ?_
        refine lv_iload_n hx hb dMM_into_63 rfl (lv_at hl 1 rfl) ?_
        obtain ⟨h8, hw⟩ := hw
        refine va_iald hx hb hK hP 19 0 mw_19 rfl h8 dMM_into_64 ?_
        refine lv_iadd hx hb dMM_into_65 ?_
        obtain ⟨h9, hw⟩ := hw
        refine va_iald hx hb hK hP 20 0 mw_20 rfl h9 dMM_into_66 ?_
        obtain ⟨h10, hw⟩ := hw
        refine va_iast hx hb hK hP (mD hJ) hS 21 0 mw_21 rfl h10 dMM_into_67 (fun H locs hP _ hS => ?_)
        have hP := mwa_21 hP
        obtain ⟨x11, e_x11⟩ : ∃ z : Int32, z = x3 + (-1) := ⟨_, rfl⟩
        have hw := hw x11 e_x11
        refine lv_iinc (k := 2) (v := x11) (lv' := [(3, .int x11), (0, .ref (a 0)), (2, .int x2)]) hx hb dMM_into_68 hl rfl (e_x11 ▸ (by first | rfl | decide)) (by decide) rfl (fun ls hl => ?_)
        refine lv_goto (tgt := 21) hx hb dMM_into_71 (by decide) ?_
        exact ih21 x2 x11 I (va_up (va_up F 19 (upd (F 19) x2.toNatClampNeg (((F 19) x2.toNatClampNeg) - 1))) 21 (upd (F 21) ((((10 : Int32) * (I 5)) - 10) + x3 : Int32).toNatClampNeg ((F 20) (((16 : Int32) * x2) + (upd (F 19) x2.toNatClampNeg (((F 19) x2.toNatClampNeg) - 1) x2.toNatClampNeg) : Int32).toNatClampNeg))) H locs ls (lv_sub hl [1, 2, 0] rfl) hP hS hw
  suffices hM : ∀ (H : Heap) (locs : List Loc), va_P D vwCl (mw a cI cZ I F) H → va_S (xA 26 a s.heap.size) s.heap H locs → W p l e (headSpec (Cond.code y_MM_into b_MM_into 4 none :: TB) { frames := 1, cells := 0, slots := 0, locals := 22 }).room s m ([.ref (a 0), .int p1]).toArray below meth c H locs 0 0 (Q) (F0 m 0 ls []) from hM s.heap [] hP va_S.rf
  clear hP
  intro H locs hP hS
  dsimp only [wp_MM_into] at hw
  refine lv_aload_n hx hb dMM_into_0 rfl (lv_at hl 0 rfl) ?_
  refine lv_iload_n hx hb dMM_into_1 rfl (lv_at hl 1 rfl) ?_
  obtain ⟨P1, hc1, hw⟩ := hw
  refine mc_v (va_runV (As := [.int p1]) (rest := []) ⟨hx, hb, hml, hown, hts⟩ (c_MM_open l D a cI cZ hJ I F p1 H.size P1 hc1) (cwV 1 hts (tb_V (C := "CodeJudgeModel") wc_MM_open tw_5_31 tw_5_33 tw_0_34 tw_1_9) rfl rfl rfl (by decide +kernel) ⟨Nat.le_of_ble_eq_true rfl, Nat.le_of_ble_eq_true rfl⟩) ⟨mP_bl, va_recv hK hP rfl mw_0, mP_at hP hK⟩ rfl rfl hl.1 rfl (lv_room (Nat.le_of_ble_eq_true rfl)) dMM_into_2 ⟨Nat.le_of_ble_eq_true rfl, Nat.le_of_ble_eq_true rfl⟩) hS (fun I1 F1 H locs hP hp1 hS => ?_)
  have hw := hw I1 F1 hp1
  refine lv_aload_n hx hb dMM_into_5 rfl (lv_at hl 0 rfl) ?_
  refine va_get (D := D) (v := .int (I1 5)) (ci := 8) (C := "CodeJudgeModel") (T := T_MM) (N := 37) hx hb hts in_MM hown hK hP 0 mw_0 rfl 21 (by decide) (hts (.fieldLink "CodeJudgeModel" 154 "CodeJudgeModel" "frames" "I") tw_4_86) (fun _ h9 => h9) rfl dMM_into_6 ?_
  refine lv_iconst (v := 2) hx hb dMM_into_9 (by decide) ?_
  refine lv_isub hx hb dMM_into_10 ?_
  refine lv_topi (fun x2 e_x2 => ?_)
  have hw := hw x2 e_x2
  refine lv_istore_n (lv' := [(2, .int x2), (0, .ref (a 0)), (1, .int p1)]) hx hb dMM_into_11 rfl hl (by decide) rfl (fun ls hl => ?_)
  refine lv_aload_n hx hb dMM_into_12 rfl (lv_at hl 1 rfl) ?_
  refine va_get (D := D) (v := .ref (a 2)) (ci := 8) (C := "CodeJudgeModel") (T := T_MM) (N := 37) hx hb hts in_MM hown hK hP 0 mw_0 rfl 2 (by decide) (hts (.fieldLink "CodeJudgeModel" 13 "CodeJudgeModel" "parameters" "[I") tw_4_68) (fun _ h9 => h9) rfl dMM_into_13 ?_
  refine lv_iload_n hx hb dMM_into_16 rfl (lv_at hl 2 rfl) ?_
  obtain ⟨h3, hw⟩ := hw
  refine va_iald hx hb hK hP 2 0 mw_2 rfl h3 dMM_into_17 ?_
  refine lv_iconst (v := 1) hx hb dMM_into_18 (by decide) ?_
  refine lv_isub hx hb dMM_into_19 ?_
  refine lv_topi (fun x4 e_x4 => ?_)
  have hw := hw x4 e_x4
  refine lv_istore_n (lv' := [(3, .int x4), (2, .int x2), (0, .ref (a 0)), (1, .int p1)]) hx hb dMM_into_20 rfl hl (by decide) rfl (fun ls hl => ?_)
  obtain ⟨n21, hw⟩ := hw
  exact J21 n21 x2 x4 I1 F1 H locs ls (lv_sub hl [2, 1, 0] rfl) hP hS hw
