def wp_He_read (p1 : Int32) (p2 : Int32) (I : SI) (F : SF) (Post : Int32 → SI → SF → Prop) : Prop := ∃ P1 : Int32 → SI → SF → Prop, wp_He_hasCell p1 p2 I F P1 ∧ ∀ r1 I1 F1, P1 r1 I1 F1 → ((r1 = 0 → (Post 0 I1 F1)) ∧ (¬ r1 = 0 → (vp_in p1 200 ∧ (vp_in (((F1 19) p1.toNatClampNeg) + p2) 2000 ∧ (Post ((F1 21) (((F1 19) p1.toNatClampNeg) + p2 : Int32).toNatClampNeg) I1 F1)))))
set_option maxHeartbeats 4000000 in
set_option maxRecDepth 100000 in
theorem c_He_read (l : Launch) (D : va_G) (a : Nat → Nat) (cI cZ cQ : ClassId) (hJ : xJ 47 a) (I : SI) (F : SF) (p1 : Int32) (p2 : Int32) (sz : Nat) (Post : Int32 → SI → SF → Prop) (hw : wp_He_read p1 p2 I F Post) : Met l y_He_read (Cond.code y_He_read b_He_read 3 (some .int) :: TB) { frames := 3, cells := 0, slots := 0, locals := 64 } (va_Pc [.ref (a 12), .int p1, .int p2] (cP D a cI cZ cQ I F sz)) (va_Qi (fun r (u : SI × SF) => Post r u.1 u.2) (fun u t => va_P D vwCl (cw a cI cZ cQ u.1 u.2) t.heap) (xA 47 a sz)) 0 0 (xA 47 a sz) := by
  refine Met.ofW (cc := b_He_read) (maxL := 3) (ret := (some .int)) (by decide) rfl ?_
  intro p e s m args below meth c s₁ B hml hv
  obtain ⟨rfl, rfl, hP, hK, hN⟩ := hv
  have hx := B.exec
  have hb := B.bytes
  have hr := B.returns
  have hts : ∀ w ∈ TB, w.before _ s = true := fun w h => atoms_spec (ws := Cond.code y_He_read b_He_read 3 (some .int) :: TB) B.pre w (List.mem_cons_of_mem _ h)
  have hown : s.vm.findClass "CodeJudge$Heap" = some m.cls := findClass_of_methodNamed B.named
  have hlocks := B.notSynchronized
  have hl := lv_entry ([.ref (a 12), .int p1, .int p2]) (n := 3) (Nat.le_of_ble_eq_true rfl)
  rw [lg_entry_eq]
  generalize (lg_sl ([.ref (a 12), .int p1, .int p2]) ++ List.replicate (3 - (lg_sl ([.ref (a 12), .int p1, .int p2])).length) Slot.unset).toArray = ls at hl ⊢
  have hl : lv_has ls 3 [(0, .ref (a 12)), (1, .int p1), (2, .int p2)] := hl
  suffices hM : ∀ (H : Heap) (locs : List Loc), va_P D vwCl (cw a cI cZ cQ I F) H → va_S (xA 47 a s.heap.size) s.heap H locs → W p l e (headSpec (Cond.code y_He_read b_He_read 3 (some .int) :: TB) { frames := 3, cells := 0, slots := 0, locals := 64 }).room s m ([.ref (a 12), .int p1, .int p2]).toArray below meth c H locs 0 0 (MQ below (va_Qi (fun r (u : SI × SF) => Post r u.1 u.2) (fun u t => va_P D vwCl (cw a cI cZ cQ u.1 u.2) t.heap) (xA 47 a s.heap.size)) ([.ref (a 12), .int p1, .int p2]).toArray s 0 0 (xA 47 a s.heap.size)) (F0 m 0 ls []) from hM s.heap [] hP va_S.rf
  clear hP
  intro H locs hP hS
  dsimp only [wp_He_read] at hw
  refine lv_aload_n hx hb dHe_read_0 rfl (lv_at hl 0 rfl) ?_
  refine lv_iload_n hx hb dHe_read_1 rfl (lv_at hl 1 rfl) ?_
  refine lv_iload_n hx hb dHe_read_2 rfl (lv_at hl 2 rfl) ?_
  obtain ⟨P1, hc1, hw⟩ := hw
  refine cc_i (va_runV (As := [.int p1, .int p2]) (rest := []) ⟨hx, hb, hml, hown, hts⟩ (c_He_hasCell l D a cI cZ cQ hJ I F p1 p2 H.size P1 hc1) (cwV 2 hts (tb_V (C := "CodeJudge$Heap") wc_He_hasCell tw_3_212 tw_3_162 tw_3_163 tw_1_7) rfl rfl rfl (by decide +kernel) ⟨Nat.le_of_ble_eq_true rfl, Nat.le_of_ble_eq_true rfl⟩) ⟨cP_bl, va_recv hK hP rfl cw_12, cP_at hP hK hN⟩ rfl rfl hl.1 rfl (lv_room (Nat.le_of_ble_eq_true rfl)) dHe_read_3 ⟨Nat.le_of_ble_eq_true rfl, Nat.le_of_ble_eq_true rfl⟩) hS (fun r1 I1 F1 H locs hP hp1 hS => ?_)
  have hw := hw r1 I1 F1 hp1
  refine lv_if_eq (tgt := 25) hx hb dHe_read_6 (by decide) (fun h2 => ?_) (fun h2 => ?_)
  · have hw := hw.1 h2
    refine lv_iconst (v := 0) hx hb dHe_read_25 (by decide) ?_
    exact W.iret (v := 0) hx hb hr (fun t ht hW => ⟨⟨0, (I1, F1), rfl, hw, by subst ht; exact hP⟩, hS.F ht⟩) hS.2.2 dHe_read_26
  · have hw := hw.2 h2
    refine lv_aload_n hx hb dHe_read_9 rfl (lv_at hl 0 rfl) ?_
    refine va_get (D := D) (v := .ref (a 21)) (ci := 1) (C := "CodeJudge$Heap") (T := T_He) (N := 5) hx hb hts in_He hown hK hP 12 cw_12 rfl 4 (by decide) (hts (.fieldLink "CodeJudge$Heap" 18 "CodeJudge$Heap" "cells" "[I") tw_1_175) (fun _ h9 => h9) rfl dHe_read_10 ?_
    refine lv_aload_n hx hb dHe_read_13 rfl (lv_at hl 0 rfl) ?_
    refine va_get (D := D) (v := .ref (a 19)) (ci := 1) (C := "CodeJudge$Heap") (T := T_He) (N := 5) hx hb hts in_He hown hK hP 12 cw_12 rfl 2 (by decide) (hts (.fieldLink "CodeJudge$Heap" 11 "CodeJudge$Heap" "begins" "[I") tw_1_173) (fun _ h9 => h9) rfl dHe_read_14 ?_
    refine lv_iload_n hx hb dHe_read_17 rfl (lv_at hl 1 rfl) ?_
    obtain ⟨h3, hw⟩ := hw
    refine va_iald hx hb hK hP 19 0 cw_19 rfl h3 dHe_read_18 ?_
    refine lv_iload_n hx hb dHe_read_19 rfl (lv_at hl 2 rfl) ?_
    refine lv_iadd hx hb dHe_read_20 ?_
    obtain ⟨h4, hw⟩ := hw
    refine va_iald hx hb hK hP 21 0 cw_21 rfl h4 dHe_read_21 ?_
    refine lv_goto (tgt := 26) hx hb dHe_read_22 (by decide) ?_
    exact W.iret (v := ((F1 21) (((F1 19) p1.toNatClampNeg) + p2 : Int32).toNatClampNeg)) hx hb hr (fun t ht hW => ⟨⟨((F1 21) (((F1 19) p1.toNatClampNeg) + p2 : Int32).toNatClampNeg), (I1, F1), rfl, hw, by subst ht; exact hP⟩, hS.F ht⟩) hS.2.2 dHe_read_26
def wp_He_write (p1 : Int32) (p2 : Int32) (p3 : Int32) (I : SI) (F : SF) (Post : SI → SF → Prop) : Prop := ∃ P1 : Int32 → SI → SF → Prop, wp_He_hasCell p1 p2 I F P1 ∧ ∀ r1 I1 F1, P1 r1 I1 F1 → ((r1 = 0 → (Post I1 F1)) ∧ (¬ r1 = 0 → (vp_in p1 200 ∧ (vp_in (((F1 19) p1.toNatClampNeg) + p2) 2000 ∧ (Post I1 (va_up F1 21 (upd (F1 21) (((F1 19) p1.toNatClampNeg) + p2 : Int32).toNatClampNeg p3)))))))
set_option maxHeartbeats 4000000 in
set_option maxRecDepth 100000 in
theorem c_He_write (l : Launch) (D : va_G) (a : Nat → Nat) (cI cZ cQ : ClassId) (hJ : xJ 47 a) (I : SI) (F : SF) (p1 : Int32) (p2 : Int32) (p3 : Int32) (sz : Nat) (Post : SI → SF → Prop) (hw : wp_He_write p1 p2 p3 I F Post) : Met l y_He_write (Cond.code y_He_write b_He_write 4 none :: TB) { frames := 3, cells := 0, slots := 0, locals := 64 } (va_Pc [.ref (a 12), .int p1, .int p2, .int p3] (cP D a cI cZ cQ I F sz)) (va_Qv (fun (u : SI × SF) => Post u.1 u.2) (fun u t => va_P D vwCl (cw a cI cZ cQ u.1 u.2) t.heap) (xA 47 a sz)) 0 0 (xA 47 a sz) := by
  refine Met.ofW (cc := b_He_write) (maxL := 4) (ret := none) (by decide) rfl ?_
  intro p e s m args below meth c s₁ B hml hv
  obtain ⟨rfl, rfl, hP, hK, hN⟩ := hv
  have hx := B.exec
  have hb := B.bytes
  have hr := B.returns
  have hts : ∀ w ∈ TB, w.before _ s = true := fun w h => atoms_spec (ws := Cond.code y_He_write b_He_write 4 none :: TB) B.pre w (List.mem_cons_of_mem _ h)
  have hown : s.vm.findClass "CodeJudge$Heap" = some m.cls := findClass_of_methodNamed B.named
  have hlocks := B.notSynchronized
  have hl := lv_entry ([.ref (a 12), .int p1, .int p2, .int p3]) (n := 4) (Nat.le_of_ble_eq_true rfl)
  rw [lg_entry_eq]
  generalize (lg_sl ([.ref (a 12), .int p1, .int p2, .int p3]) ++ List.replicate (4 - (lg_sl ([.ref (a 12), .int p1, .int p2, .int p3])).length) Slot.unset).toArray = ls at hl ⊢
  have hl : lv_has ls 4 [(0, .ref (a 12)), (1, .int p1), (2, .int p2), (3, .int p3)] := hl
  suffices hM : ∀ (H : Heap) (locs : List Loc), va_P D vwCl (cw a cI cZ cQ I F) H → va_S (xA 47 a s.heap.size) s.heap H locs → W p l e (headSpec (Cond.code y_He_write b_He_write 4 none :: TB) { frames := 3, cells := 0, slots := 0, locals := 64 }).room s m ([.ref (a 12), .int p1, .int p2, .int p3]).toArray below meth c H locs 0 0 (MQ below (va_Qv (fun (u : SI × SF) => Post u.1 u.2) (fun u t => va_P D vwCl (cw a cI cZ cQ u.1 u.2) t.heap) (xA 47 a s.heap.size)) ([.ref (a 12), .int p1, .int p2, .int p3]).toArray s 0 0 (xA 47 a s.heap.size)) (F0 m 0 ls []) from hM s.heap [] hP va_S.rf
  clear hP
  intro H locs hP hS
  dsimp only [wp_He_write] at hw
  refine lv_aload_n hx hb dHe_write_0 rfl (lv_at hl 0 rfl) ?_
  refine lv_iload_n hx hb dHe_write_1 rfl (lv_at hl 1 rfl) ?_
  refine lv_iload_n hx hb dHe_write_2 rfl (lv_at hl 2 rfl) ?_
  obtain ⟨P1, hc1, hw⟩ := hw
  refine cc_i (va_runV (As := [.int p1, .int p2]) (rest := []) ⟨hx, hb, hml, hown, hts⟩ (c_He_hasCell l D a cI cZ cQ hJ I F p1 p2 H.size P1 hc1) (cwV 2 hts (tb_V (C := "CodeJudge$Heap") wc_He_hasCell tw_3_212 tw_3_162 tw_3_163 tw_1_7) rfl rfl rfl (by decide +kernel) ⟨Nat.le_of_ble_eq_true rfl, Nat.le_of_ble_eq_true rfl⟩) ⟨cP_bl, va_recv hK hP rfl cw_12, cP_at hP hK hN⟩ rfl rfl hl.1 rfl (lv_room (Nat.le_of_ble_eq_true rfl)) dHe_write_3 ⟨Nat.le_of_ble_eq_true rfl, Nat.le_of_ble_eq_true rfl⟩) hS (fun r1 I1 F1 H locs hP hp1 hS => ?_)
  have hw := hw r1 I1 F1 hp1
  refine lv_if_eq (tgt := 23) hx hb dHe_write_6 (by decide) (fun h2 => ?_) (fun h2 => ?_)
  · have hw := hw.1 h2
    exact W.vret hx hb hr (fun t ht hW => ⟨⟨(I1, F1), rfl, hw, by subst ht; exact hP⟩, hS.F ht⟩) hS.2.2 dHe_write_23
  · have hw := hw.2 h2
    refine lv_aload_n hx hb dHe_write_9 rfl (lv_at hl 0 rfl) ?_
    refine va_get (D := D) (v := .ref (a 21)) (ci := 1) (C := "CodeJudge$Heap") (T := T_He) (N := 5) hx hb hts in_He hown hK hP 12 cw_12 rfl 4 (by decide) (hts (.fieldLink "CodeJudge$Heap" 18 "CodeJudge$Heap" "cells" "[I") tw_1_175) (fun _ h9 => h9) rfl dHe_write_10 ?_
    refine lv_aload_n hx hb dHe_write_13 rfl (lv_at hl 0 rfl) ?_
    refine va_get (D := D) (v := .ref (a 19)) (ci := 1) (C := "CodeJudge$Heap") (T := T_He) (N := 5) hx hb hts in_He hown hK hP 12 cw_12 rfl 2 (by decide) (hts (.fieldLink "CodeJudge$Heap" 11 "CodeJudge$Heap" "begins" "[I") tw_1_173) (fun _ h9 => h9) rfl dHe_write_14 ?_
    refine lv_iload_n hx hb dHe_write_17 rfl (lv_at hl 1 rfl) ?_
    obtain ⟨h3, hw⟩ := hw
    refine va_iald hx hb hK hP 19 0 cw_19 rfl h3 dHe_write_18 ?_
    refine lv_iload_n hx hb dHe_write_19 rfl (lv_at hl 2 rfl) ?_
    refine lv_iadd hx hb dHe_write_20 ?_
    refine lv_iload_n hx hb dHe_write_21 rfl (lv_at hl 3 rfl) ?_
    obtain ⟨h4, hw⟩ := hw
    refine va_iast hx hb hK hP (cD hJ) hS 21 0 cw_21 rfl h4 dHe_write_22 (fun H locs hP _ hS => ?_)
    have hP := cwa_21 hP
    exact W.vret hx hb hr (fun t ht hW => ⟨⟨(I1, (va_up F1 21 (upd (F1 21) (((F1 19) p1.toNatClampNeg) + p2 : Int32).toNatClampNeg p3))), rfl, hw, by subst ht; exact hP⟩, hS.F ht⟩) hS.2.2 dHe_write_23
def wp_Ju_localTypeAt (p1 : Int32) (p2 : Int32) (I : SI) (F : SF) (Post : Int32 → SI → SF → Prop) : Prop := ∃ P1 : Int32 → SI → SF → Prop, wp_Ju_heightAt p1 I F P1 ∧ ∀ r1 I1 F1, P1 r1 I1 F1 → ((¬ r1 = (-1) → (vp_in p1 120 ∧ ((((((F1 6) p1.toNatClampNeg) >>> (p2 &&& 31)) &&& 1) = 0 → (vp_in p1 120 ∧ ((((((F1 7) p1.toNatClampNeg) >>> (p2 &&& 31)) &&& 1) = 0 → (Post 0 I1 F1)) ∧ (¬ ((((F1 7) p1.toNatClampNeg) >>> (p2 &&& 31)) &&& 1) = 0 → (Post 2 I1 F1))))) ∧ (¬ ((((F1 6) p1.toNatClampNeg) >>> (p2 &&& 31)) &&& 1) = 0 → (Post 1 I1 F1))))) ∧ (r1 = (-1) → (Post (-1) I1 F1)))
set_option maxHeartbeats 4000000 in
set_option maxRecDepth 100000 in
theorem c_Ju_localTypeAt (l : Launch) (D : va_G) (a : Nat → Nat) (cI cZ cQ : ClassId) (hJ : xJ 47 a) (I : SI) (F : SF) (p1 : Int32) (p2 : Int32) (sz : Nat) (Post : Int32 → SI → SF → Prop) (hw : wp_Ju_localTypeAt p1 p2 I F Post) : Met l y_Ju_localTypeAt (Cond.code y_Ju_localTypeAt b_Ju_localTypeAt 3 (some .int) :: TB) { frames := 2, cells := 0, slots := 0, locals := 42 } (va_Pc [.ref (a 2), .int p1, .int p2] (cP D a cI cZ cQ I F sz)) (va_Qi (fun r (u : SI × SF) => Post r u.1 u.2) (fun u t => va_P D vwCl (cw a cI cZ cQ u.1 u.2) t.heap) (xA 47 a sz)) 0 0 (xA 47 a sz) := by
  refine Met.ofW (cc := b_Ju_localTypeAt) (maxL := 3) (ret := (some .int)) (by decide) rfl ?_
  intro p e s m args below meth c s₁ B hml hv
  obtain ⟨rfl, rfl, hP, hK, hN⟩ := hv
  have hx := B.exec
  have hb := B.bytes
  have hr := B.returns
  have hts : ∀ w ∈ TB, w.before _ s = true := fun w h => atoms_spec (ws := Cond.code y_Ju_localTypeAt b_Ju_localTypeAt 3 (some .int) :: TB) B.pre w (List.mem_cons_of_mem _ h)
  have hown : s.vm.findClass "CodeJudge$Judge" = some m.cls := findClass_of_methodNamed B.named
  have hlocks := B.notSynchronized
  have hl := lv_entry ([.ref (a 2), .int p1, .int p2]) (n := 3) (Nat.le_of_ble_eq_true rfl)
  rw [lg_entry_eq]
  generalize (lg_sl ([.ref (a 2), .int p1, .int p2]) ++ List.replicate (3 - (lg_sl ([.ref (a 2), .int p1, .int p2])).length) Slot.unset).toArray = ls at hl ⊢
  have hl : lv_has ls 3 [(0, .ref (a 2)), (1, .int p1), (2, .int p2)] := hl
  suffices hM : ∀ (H : Heap) (locs : List Loc), va_P D vwCl (cw a cI cZ cQ I F) H → va_S (xA 47 a s.heap.size) s.heap H locs → W p l e (headSpec (Cond.code y_Ju_localTypeAt b_Ju_localTypeAt 3 (some .int) :: TB) { frames := 2, cells := 0, slots := 0, locals := 42 }).room s m ([.ref (a 2), .int p1, .int p2]).toArray below meth c H locs 0 0 (MQ below (va_Qi (fun r (u : SI × SF) => Post r u.1 u.2) (fun u t => va_P D vwCl (cw a cI cZ cQ u.1 u.2) t.heap) (xA 47 a s.heap.size)) ([.ref (a 2), .int p1, .int p2]).toArray s 0 0 (xA 47 a s.heap.size)) (F0 m 0 ls []) from hM s.heap [] hP va_S.rf
  clear hP
  intro H locs hP hS
  dsimp only [wp_Ju_localTypeAt] at hw
  refine lv_aload_n hx hb dJu_localTypeAt_0 rfl (lv_at hl 0 rfl) ?_
  refine lv_iload_n hx hb dJu_localTypeAt_1 rfl (lv_at hl 1 rfl) ?_
  obtain ⟨P1, hc1, hw⟩ := hw
  refine cc_i (va_runV (As := [.int p1]) (rest := []) ⟨hx, hb, hml, hown, hts⟩ (c_Ju_heightAt l D a cI cZ cQ hJ I F p1 H.size P1 hc1) (cwV 1 hts (tb_V (C := "CodeJudge$Judge") wc_Ju_heightAt tw_3_36 tw_3_22 tw_3_23 tw_1_3) rfl rfl rfl (by decide +kernel) ⟨Nat.le_of_ble_eq_true rfl, Nat.le_of_ble_eq_true rfl⟩) ⟨cP_bl, va_recv hK hP rfl cw_2, cP_at hP hK hN⟩ rfl rfl hl.1 rfl (lv_room (Nat.le_of_ble_eq_true rfl)) dJu_localTypeAt_2 ⟨Nat.le_of_ble_eq_true rfl, Nat.le_of_ble_eq_true rfl⟩) hS (fun r1 I1 F1 H locs hP hp1 hS => ?_)
  have hw := hw r1 I1 F1 hp1
  refine lv_iconst (v := (-1)) hx hb dJu_localTypeAt_5 (by decide) ?_
  refine lv_icmp_ne (tgt := 11) hx hb dJu_localTypeAt_6 (by decide) (fun h2 => ?_) (fun h2 => ?_)
  · have hw := hw.1 h2
    refine lv_aload_n hx hb dJu_localTypeAt_11 rfl (lv_at hl 0 rfl) ?_
    refine va_get (D := D) (v := .ref (a 6)) (ci := 2) (C := "CodeJudge$Judge") (T := T_Ju) (N := 8) hx hb hts in_Ju hown hK hP 2 cw_2 rfl 2 (by decide) (hts (.fieldLink "CodeJudge$Judge" 18 "CodeJudge$Judge" "intLocals" "[I") tw_1_107) (fun _ h9 => h9) rfl dJu_localTypeAt_12 ?_
    refine lv_iload_n hx hb dJu_localTypeAt_15 rfl (lv_at hl 1 rfl) ?_
    obtain ⟨h3, hw⟩ := hw
    refine va_iald hx hb hK hP 6 0 cw_6 rfl h3 dJu_localTypeAt_16 ?_
    refine lv_iload_n hx hb dJu_localTypeAt_17 rfl (lv_at hl 2 rfl) ?_
    refine lv_ishr hx hb dJu_localTypeAt_18 ?_
    refine lv_iconst (v := 1) hx hb dJu_localTypeAt_19 (by decide) ?_
    refine lv_iand hx hb dJu_localTypeAt_20 ?_
    refine lv_if_eq (tgt := 26) hx hb dJu_localTypeAt_21 (by decide) (fun h4 => ?_) (fun h4 => ?_)
    · have hw := hw.1 h4
      refine lv_aload_n hx hb dJu_localTypeAt_26 rfl (lv_at hl 0 rfl) ?_
      refine va_get (D := D) (v := .ref (a 7)) (ci := 2) (C := "CodeJudge$Judge") (T := T_Ju) (N := 8) hx hb hts in_Ju hown hK hP 2 cw_2 rfl 3 (by decide) (hts (.fieldLink "CodeJudge$Judge" 21 "CodeJudge$Judge" "arrayLocals" "[I") tw_1_108) (fun _ h9 => h9) rfl dJu_localTypeAt_27 ?_
      refine lv_iload_n hx hb dJu_localTypeAt_30 rfl (lv_at hl 1 rfl) ?_
      obtain ⟨h5, hw⟩ := hw
      refine va_iald hx hb hK hP 7 0 cw_7 rfl h5 dJu_localTypeAt_31 ?_
      refine lv_iload_n hx hb dJu_localTypeAt_32 rfl (lv_at hl 2 rfl) ?_
      refine lv_ishr hx hb dJu_localTypeAt_33 ?_
      refine lv_iconst (v := 1) hx hb dJu_localTypeAt_34 (by decide) ?_
      refine lv_iand hx hb dJu_localTypeAt_35 ?_
      refine lv_if_eq (tgt := 43) hx hb dJu_localTypeAt_36 (by decide) (fun h6 => ?_) (fun h6 => ?_)
      · have hw := hw.1 h6
        refine lv_iconst (v := 0) hx hb dJu_localTypeAt_43 (by decide) ?_
        exact W.iret (v := 0) hx hb hr (fun t ht hW => ⟨⟨0, (I1, F1), rfl, hw, by subst ht; exact hP⟩, hS.F ht⟩) hS.2.2 dJu_localTypeAt_44
      · have hw := hw.2 h6
        refine lv_iconst (v := 2) hx hb dJu_localTypeAt_39 (by decide) ?_
        refine lv_goto (tgt := 44) hx hb dJu_localTypeAt_40 (by decide) ?_
        exact W.iret (v := 2) hx hb hr (fun t ht hW => ⟨⟨2, (I1, F1), rfl, hw, by subst ht; exact hP⟩, hS.F ht⟩) hS.2.2 dJu_localTypeAt_44
    · have hw := hw.2 h4
      refine lv_iconst (v := 1) hx hb dJu_localTypeAt_24 (by decide) ?_
      exact W.iret (v := 1) hx hb hr (fun t ht hW => ⟨⟨1, (I1, F1), rfl, hw, by subst ht; exact hP⟩, hS.F ht⟩) hS.2.2 dJu_localTypeAt_25
  · have hw := hw.2 h2
    refine lv_iconst (v := (-1)) hx hb dJu_localTypeAt_9 (by decide) ?_
    exact W.iret (v := (-1)) hx hb hr (fun t ht hW => ⟨⟨(-1), (I1, F1), rfl, hw, by subst ht; exact hP⟩, hS.F ht⟩) hS.2.2 dJu_localTypeAt_10
def wp_Ju_stackTypeAt (p1 : Int32) (p2 : Int32) (I : SI) (F : SF) (Post : Int32 → SI → SF → Prop) : Prop := ∃ P1 : Int32 → SI → SF → Prop, wp_Ju_heightAt p1 I F P1 ∧ ∀ r1 I1 F1, P1 r1 I1 F1 → (∃ P2 : Int32 → SI → SF → Prop, wp_CJ_isBelow p2 r1 I1 F1 P2 ∧ ∀ r2 I2 F2, P2 r2 I2 F2 → ((¬ r2 = 0 → (vp_in p1 120 ∧ ((((((F2 5) p1.toNatClampNeg) >>> (p2 &&& 31)) &&& 1) = 0 → (Post 1 I2 F2)) ∧ (¬ ((((F2 5) p1.toNatClampNeg) >>> (p2 &&& 31)) &&& 1) = 0 → (Post 2 I2 F2))))) ∧ (r2 = 0 → (Post (-1) I2 F2))))
set_option maxHeartbeats 4000000 in
set_option maxRecDepth 100000 in
theorem c_Ju_stackTypeAt (l : Launch) (D : va_G) (a : Nat → Nat) (cI cZ cQ : ClassId) (hJ : xJ 47 a) (I : SI) (F : SF) (p1 : Int32) (p2 : Int32) (sz : Nat) (Post : Int32 → SI → SF → Prop) (hw : wp_Ju_stackTypeAt p1 p2 I F Post) : Met l y_Ju_stackTypeAt (Cond.code y_Ju_stackTypeAt b_Ju_stackTypeAt 3 (some .int) :: TB) { frames := 2, cells := 0, slots := 0, locals := 42 } (va_Pc [.ref (a 2), .int p1, .int p2] (cP D a cI cZ cQ I F sz)) (va_Qi (fun r (u : SI × SF) => Post r u.1 u.2) (fun u t => va_P D vwCl (cw a cI cZ cQ u.1 u.2) t.heap) (xA 47 a sz)) 0 0 (xA 47 a sz) := by
  refine Met.ofW (cc := b_Ju_stackTypeAt) (maxL := 3) (ret := (some .int)) (by decide) rfl ?_
  intro p e s m args below meth c s₁ B hml hv
  obtain ⟨rfl, rfl, hP, hK, hN⟩ := hv
  have hx := B.exec
  have hb := B.bytes
  have hr := B.returns
  have hts : ∀ w ∈ TB, w.before _ s = true := fun w h => atoms_spec (ws := Cond.code y_Ju_stackTypeAt b_Ju_stackTypeAt 3 (some .int) :: TB) B.pre w (List.mem_cons_of_mem _ h)
  have hown : s.vm.findClass "CodeJudge$Judge" = some m.cls := findClass_of_methodNamed B.named
  have hlocks := B.notSynchronized
  have hl := lv_entry ([.ref (a 2), .int p1, .int p2]) (n := 3) (Nat.le_of_ble_eq_true rfl)
  rw [lg_entry_eq]
  generalize (lg_sl ([.ref (a 2), .int p1, .int p2]) ++ List.replicate (3 - (lg_sl ([.ref (a 2), .int p1, .int p2])).length) Slot.unset).toArray = ls at hl ⊢
  have hl : lv_has ls 3 [(0, .ref (a 2)), (1, .int p1), (2, .int p2)] := hl
  suffices hM : ∀ (H : Heap) (locs : List Loc), va_P D vwCl (cw a cI cZ cQ I F) H → va_S (xA 47 a s.heap.size) s.heap H locs → W p l e (headSpec (Cond.code y_Ju_stackTypeAt b_Ju_stackTypeAt 3 (some .int) :: TB) { frames := 2, cells := 0, slots := 0, locals := 42 }).room s m ([.ref (a 2), .int p1, .int p2]).toArray below meth c H locs 0 0 (MQ below (va_Qi (fun r (u : SI × SF) => Post r u.1 u.2) (fun u t => va_P D vwCl (cw a cI cZ cQ u.1 u.2) t.heap) (xA 47 a s.heap.size)) ([.ref (a 2), .int p1, .int p2]).toArray s 0 0 (xA 47 a s.heap.size)) (F0 m 0 ls []) from hM s.heap [] hP va_S.rf
  clear hP
  intro H locs hP hS
  dsimp only [wp_Ju_stackTypeAt] at hw
  refine lv_iload_n hx hb dJu_stackTypeAt_0 rfl (lv_at hl 2 rfl) ?_
  refine lv_aload_n hx hb dJu_stackTypeAt_1 rfl (lv_at hl 0 rfl) ?_
  refine lv_iload_n hx hb dJu_stackTypeAt_2 rfl (lv_at hl 1 rfl) ?_
  obtain ⟨P1, hc1, hw⟩ := hw
  refine cc_i (va_runV (As := [.int p1]) (rest := [.int p2]) ⟨hx, hb, hml, hown, hts⟩ (c_Ju_heightAt l D a cI cZ cQ hJ I F p1 H.size P1 hc1) (cwV 1 hts (tb_V (C := "CodeJudge$Judge") wc_Ju_heightAt tw_3_36 tw_3_22 tw_3_23 tw_1_3) rfl rfl rfl (by decide +kernel) ⟨Nat.le_of_ble_eq_true rfl, Nat.le_of_ble_eq_true rfl⟩) ⟨cP_bl, va_recv hK hP rfl cw_2, cP_at hP hK hN⟩ rfl rfl hl.1 rfl (lv_room (Nat.le_of_ble_eq_true rfl)) dJu_stackTypeAt_3 ⟨Nat.le_of_ble_eq_true rfl, Nat.le_of_ble_eq_true rfl⟩) hS (fun r1 I1 F1 H locs hP hp1 hS => ?_)
  have hw := hw r1 I1 F1 hp1
  obtain ⟨P2, hc2, hw⟩ := hw
  refine cc_i (va_runSN (As := [.int p2, .int r1]) (rest := []) ⟨hx, hb, hml, hown, hts⟩ (c_CJ_isBelow l D a cI cZ cQ hJ I1 F1 p2 r1 H.size P2 hc2) (⟨va_cnB 2 hts (tb_self wc_CJ_isBelow) rfl rfl rfl (hN ("CodeJudge$Judge", 101, ⟨"CodeJudge", "isBelow", "(II)Z"⟩, "CodeJudge") (by decide +kernel)) (hts (.initialized "CodeJudge") tw_1_1) (by decide +kernel) ⟨Nat.le_of_ble_eq_true rfl, Nat.le_of_ble_eq_true rfl⟩, hts (.static ⟨"CodeJudge", "isBelow", "(II)Z"⟩) tw_2_7, trivial⟩) ⟨cP_bl, cP_at hP hK hN⟩ rfl rfl hl.1 rfl (lv_room (Nat.le_of_ble_eq_true rfl)) dJu_stackTypeAt_6 ⟨Nat.le_of_ble_eq_true rfl, Nat.le_of_ble_eq_true rfl⟩) hS (fun r2 I2 F2 H locs hP hp2 hS => ?_)
  have hw := hw r2 I2 F2 hp2
  refine lv_if_ne (tgt := 14) hx hb dJu_stackTypeAt_9 (by decide) (fun h3 => ?_) (fun h3 => ?_)
  · have hw := hw.1 h3
    refine lv_aload_n hx hb dJu_stackTypeAt_14 rfl (lv_at hl 0 rfl) ?_
    refine va_get (D := D) (v := .ref (a 5)) (ci := 2) (C := "CodeJudge$Judge") (T := T_Ju) (N := 8) hx hb hts in_Ju hown hK hP 2 cw_2 rfl 1 (by decide) (hts (.fieldLink "CodeJudge$Judge" 15 "CodeJudge$Judge" "stacks" "[I") tw_1_106) (fun _ h9 => h9) rfl dJu_stackTypeAt_15 ?_
    refine lv_iload_n hx hb dJu_stackTypeAt_18 rfl (lv_at hl 1 rfl) ?_
    obtain ⟨h4, hw⟩ := hw
    refine va_iald hx hb hK hP 5 0 cw_5 rfl h4 dJu_stackTypeAt_19 ?_
    refine lv_iload_n hx hb dJu_stackTypeAt_20 rfl (lv_at hl 2 rfl) ?_
    refine lv_ishr hx hb dJu_stackTypeAt_21 ?_
    refine lv_iconst (v := 1) hx hb dJu_stackTypeAt_22 (by decide) ?_
    refine lv_iand hx hb dJu_stackTypeAt_23 ?_
    refine lv_if_eq (tgt := 31) hx hb dJu_stackTypeAt_24 (by decide) (fun h5 => ?_) (fun h5 => ?_)
    · have hw := hw.1 h5
      refine lv_iconst (v := 1) hx hb dJu_stackTypeAt_31 (by decide) ?_
      exact W.iret (v := 1) hx hb hr (fun t ht hW => ⟨⟨1, (I2, F2), rfl, hw, by subst ht; exact hP⟩, hS.F ht⟩) hS.2.2 dJu_stackTypeAt_32
    · have hw := hw.2 h5
      refine lv_iconst (v := 2) hx hb dJu_stackTypeAt_27 (by decide) ?_
      refine lv_goto (tgt := 32) hx hb dJu_stackTypeAt_28 (by decide) ?_
      exact W.iret (v := 2) hx hb hr (fun t ht hW => ⟨⟨2, (I2, F2), rfl, hw, by subst ht; exact hP⟩, hS.F ht⟩) hS.2.2 dJu_stackTypeAt_32
  · have hw := hw.2 h3
    refine lv_iconst (v := (-1)) hx hb dJu_stackTypeAt_12 (by decide) ?_
    exact W.iret (v := (-1)) hx hb hr (fun t ht hW => ⟨⟨(-1), (I2, F2), rfl, hw, by subst ht; exact hP⟩, hS.F ht⟩) hS.2.2 dJu_stackTypeAt_13
def wp_MT_floorMod (p1 : Int32) (p2 : Int32) (I : SI) (F : SF) (Post : Int32 → SI → SF → Prop) : Prop := (¬ p2 = 0) ∧ (∀ x2 : Int32, x2 = p1 - p1 / p2 * p2 → ((0 ≤ (p1 ^^^ p2) → (Post x2 I F)) ∧ (¬ 0 ≤ (p1 ^^^ p2) → ((x2 = 0 → (Post x2 I F)) ∧ (¬ x2 = 0 → (Post (x2 + p2) I F))))))
set_option maxHeartbeats 4000000 in
set_option maxRecDepth 100000 in
theorem c_MT_floorMod (l : Launch) (D : va_G) (a : Nat → Nat) (cI cZ cQ : ClassId) (hJ : xJ 47 a) (I : SI) (F : SF) (p1 : Int32) (p2 : Int32) (sz : Nat) (Post : Int32 → SI → SF → Prop) (hw : wp_MT_floorMod p1 p2 I F Post) : Met l y_MT_floorMod (Cond.code y_MT_floorMod b_MT_floorMod 3 (some .int) :: TB) { frames := 0, cells := 0, slots := 0, locals := 0 } (va_Pc [.int p1, .int p2] (cP D a cI cZ cQ I F sz)) (va_Qi (fun r (u : SI × SF) => Post r u.1 u.2) (fun u t => va_P D vwCl (cw a cI cZ cQ u.1 u.2) t.heap) (xA 47 a sz)) 0 0 (xA 47 a sz) := by
  refine va_MetF (cc := b_MT_floorMod) (maxL := 3) (ret := (some .int)) (by decide +kernel) rfl ?_
  intro p e s m args below meth c s₁ B hml hv
  obtain ⟨rfl, rfl, hP, hK, hN⟩ := hv
  have hx := B.exec
  have hb := B.bytes
  have hr := B.returns
  have hts : ∀ w ∈ TB, w.before _ s = true := fun w h => atoms_spec (ws := Cond.code y_MT_floorMod b_MT_floorMod 3 (some .int) :: TB) B.pre w (List.mem_cons_of_mem _ h)
  have hown : s.vm.findClass "java/lang/Math" = some m.cls := findClass_of_methodNamed B.named
  have hlocks := B.notSynchronized
  have hl := lv_entry ([.int p1, .int p2]) (n := 3) (Nat.le_of_ble_eq_true rfl)
  rw [lg_entry_eq]
  generalize (lg_sl ([.int p1, .int p2]) ++ List.replicate (3 - (lg_sl ([.int p1, .int p2])).length) Slot.unset).toArray = ls at hl ⊢
  have hl : lv_has ls 3 [(0, .int p1), (1, .int p2)] := hl
  suffices hM : ∀ (H : Heap) (locs : List Loc), va_P D vwCl (cw a cI cZ cQ I F) H → va_S (xA 47 a s.heap.size) s.heap H locs → W p l e (headSpec (Cond.code y_MT_floorMod b_MT_floorMod 3 (some .int) :: TB) { frames := 0, cells := 0, slots := 0, locals := 0 }).room s m ([.int p1, .int p2]).toArray below meth c H locs 0 0 (MQ below (va_Qi (fun r (u : SI × SF) => Post r u.1 u.2) (fun u t => va_P D vwCl (cw a cI cZ cQ u.1 u.2) t.heap) (xA 47 a s.heap.size)) ([.int p1, .int p2]).toArray s 0 0 (xA 47 a s.heap.size)) (F0 m 0 ls []) from hM s.heap [] hP va_S.rf
  clear hP
  intro H locs hP hS
  dsimp only [wp_MT_floorMod] at hw
  refine lv_iload_n hx hb dMT_floorMod_0 rfl (lv_at hl 0 rfl) ?_
  refine lv_iload_n hx hb dMT_floorMod_1 rfl (lv_at hl 1 rfl) ?_
  obtain ⟨h1, hw⟩ := hw
  refine lv_irem hx hb dMT_floorMod_2 h1 ?_
  refine lv_topi (fun x2 e_x2 => ?_)
  have hw := hw x2 e_x2
  refine lv_istore_n (lv' := [(2, .int x2), (0, .int p1), (1, .int p2)]) hx hb dMT_floorMod_3 rfl hl (by decide) rfl (fun ls hl => ?_)
  refine lv_iload_n hx hb dMT_floorMod_4 rfl (lv_at hl 1 rfl) ?_
  refine lv_iload_n hx hb dMT_floorMod_5 rfl (lv_at hl 2 rfl) ?_
  refine lv_ixor hx hb dMT_floorMod_6 ?_
  refine lv_if_ge (tgt := 18) hx hb dMT_floorMod_7 (by decide) (fun h3 => ?_) (fun h3 => ?_)
  · have hw := hw.1 h3
    refine lv_iload_n hx hb dMT_floorMod_18 rfl (lv_at hl 0 rfl) ?_
    exact W.iret (v := x2) hx hb hr (fun t ht hW => ⟨⟨x2, (I, F), rfl, hw, by subst ht; exact hP⟩, hS.F ht⟩) hS.2.2 dMT_floorMod_19
  · have hw := hw.2 h3
    refine lv_iload_n hx hb dMT_floorMod_10 rfl (lv_at hl 0 rfl) ?_
    refine lv_if_eq (tgt := 18) hx hb dMT_floorMod_11 (by decide) (fun h4 => ?_) (fun h4 => ?_)
    · have hw := hw.1 h4
      refine lv_iload_n hx hb dMT_floorMod_18 rfl (lv_at hl 0 rfl) ?_
      exact W.iret (v := x2) hx hb hr (fun t ht hW => ⟨⟨x2, (I, F), rfl, hw, by subst ht; exact hP⟩, hS.F ht⟩) hS.2.2 dMT_floorMod_19
    · have hw := hw.2 h4
      refine lv_iload_n hx hb dMT_floorMod_14 rfl (lv_at hl 0 rfl) ?_
      refine lv_iload_n hx hb dMT_floorMod_15 rfl (lv_at hl 2 rfl) ?_
      refine lv_iadd hx hb dMT_floorMod_16 ?_
      exact W.iret (v := (x2 + p2)) hx hb hr (fun t ht hW => ⟨⟨(x2 + p2), (I, F), rfl, hw, by subst ht; exact hP⟩, hS.F ht⟩) hS.2.2 dMT_floorMod_17
def wp_Ma_troubleWithLength (p1 : Int32) (I : SI) (F : SF) (Post : Int32 → SI → SF → Prop) : Prop := (0 ≤ p1 → (∃ P2 : Int32 → SI → SF → Prop, wp_He_hasRoom p1 I F P2 ∧ ∀ r2 I2 F2, P2 r2 I2 F2 → ((r2 = 0 → (Post 6 I2 F2)) ∧ (¬ r2 = 0 → (Post 0 I2 F2))))) ∧ (¬ 0 ≤ p1 → (Post 5 I F))
set_option maxHeartbeats 4000000 in
set_option maxRecDepth 100000 in
theorem c_Ma_troubleWithLength (l : Launch) (D : va_G) (a : Nat → Nat) (cI cZ cQ : ClassId) (hJ : xJ 47 a) (I : SI) (F : SF) (p1 : Int32) (sz : Nat) (Post : Int32 → SI → SF → Prop) (hw : wp_Ma_troubleWithLength p1 I F Post) : Met l y_Ma_troubleWithLength (Cond.code y_Ma_troubleWithLength b_Ma_troubleWithLength 2 (some .int) :: TB) { frames := 1, cells := 0, slots := 0, locals := 21 } (va_Pc [.ref (a 3), .int p1] (cP D a cI cZ cQ I F sz)) (va_Qi (fun r (u : SI × SF) => Post r u.1 u.2) (fun u t => va_P D vwCl (cw a cI cZ cQ u.1 u.2) t.heap) (xA 47 a sz)) 0 0 (xA 47 a sz) := by
  refine Met.ofW (cc := b_Ma_troubleWithLength) (maxL := 2) (ret := (some .int)) (by decide) rfl ?_
  intro p e s m args below meth c s₁ B hml hv
  obtain ⟨rfl, rfl, hP, hK, hN⟩ := hv
  have hx := B.exec
  have hb := B.bytes
  have hr := B.returns
  have hts : ∀ w ∈ TB, w.before _ s = true := fun w h => atoms_spec (ws := Cond.code y_Ma_troubleWithLength b_Ma_troubleWithLength 2 (some .int) :: TB) B.pre w (List.mem_cons_of_mem _ h)
  have hown : s.vm.findClass "CodeJudge$Machine" = some m.cls := findClass_of_methodNamed B.named
  have hlocks := B.notSynchronized
  have hl := lv_entry ([.ref (a 3), .int p1]) (n := 2) (Nat.le_of_ble_eq_true rfl)
  rw [lg_entry_eq]
  generalize (lg_sl ([.ref (a 3), .int p1]) ++ List.replicate (2 - (lg_sl ([.ref (a 3), .int p1])).length) Slot.unset).toArray = ls at hl ⊢
  have hl : lv_has ls 2 [(0, .ref (a 3)), (1, .int p1)] := hl
  suffices hM : ∀ (H : Heap) (locs : List Loc), va_P D vwCl (cw a cI cZ cQ I F) H → va_S (xA 47 a s.heap.size) s.heap H locs → W p l e (headSpec (Cond.code y_Ma_troubleWithLength b_Ma_troubleWithLength 2 (some .int) :: TB) { frames := 1, cells := 0, slots := 0, locals := 21 }).room s m ([.ref (a 3), .int p1]).toArray below meth c H locs 0 0 (MQ below (va_Qi (fun r (u : SI × SF) => Post r u.1 u.2) (fun u t => va_P D vwCl (cw a cI cZ cQ u.1 u.2) t.heap) (xA 47 a s.heap.size)) ([.ref (a 3), .int p1]).toArray s 0 0 (xA 47 a s.heap.size)) (F0 m 0 ls []) from hM s.heap [] hP va_S.rf
  clear hP
  intro H locs hP hS
  dsimp only [wp_Ma_troubleWithLength] at hw
  refine lv_iload_n hx hb dMa_troubleWithLength_0 rfl (lv_at hl 1 rfl) ?_
  refine lv_if_ge (tgt := 6) hx hb dMa_troubleWithLength_1 (by decide) (fun h1 => ?_) (fun h1 => ?_)
  · have hw := hw.1 h1
    refine lv_aload_n hx hb dMa_troubleWithLength_6 rfl (lv_at hl 0 rfl) ?_
    refine va_get (D := D) (v := .ref (a 12)) (ci := 3) (C := "CodeJudge$Machine") (T := T_Ma) (N := 7) hx hb hts in_Ma hown hK hP 3 cw_3 rfl 2 (by decide) (hts (.fieldLink "CodeJudge$Machine" 21 "CodeJudge$Machine" "heap" "LCodeJudge$Heap;") tw_1_205) (fun _ h9 => h9) rfl dMa_troubleWithLength_7 ?_
    refine lv_iload_n hx hb dMa_troubleWithLength_10 rfl (lv_at hl 1 rfl) ?_
    obtain ⟨P2, hc2, hw⟩ := hw
    refine cc_i (va_runV (As := [.int p1]) (rest := []) ⟨hx, hb, hml, hown, hts⟩ (c_He_hasRoom l D a cI cZ cQ hJ I F p1 H.size P2 hc2) (cwV 1 hts (tb_V (C := "CodeJudge$Heap") wc_He_hasRoom tw_3_151 tw_3_93 tw_3_94 tw_1_7) rfl rfl rfl (by decide +kernel) ⟨Nat.le_of_ble_eq_true rfl, Nat.le_of_ble_eq_true rfl⟩) ⟨cP_bl, va_recv hK hP rfl cw_12, cP_at hP hK hN⟩ rfl rfl hl.1 rfl (lv_room (Nat.le_of_ble_eq_true rfl)) dMa_troubleWithLength_11 ⟨Nat.le_of_ble_eq_true rfl, Nat.le_of_ble_eq_true rfl⟩) hS (fun r2 I2 F2 H locs hP hp2 hS => ?_)
    have hw := hw r2 I2 F2 hp2
    refine lv_if_eq (tgt := 21) hx hb dMa_troubleWithLength_14 (by decide) (fun h3 => ?_) (fun h3 => ?_)
    · have hw := hw.1 h3
      refine lv_bipush (v := 6) hx hb dMa_troubleWithLength_21 (by decide) ?_
      exact W.iret (v := 6) hx hb hr (fun t ht hW => ⟨⟨6, (I2, F2), rfl, hw, by subst ht; exact hP⟩, hS.F ht⟩) hS.2.2 dMa_troubleWithLength_23
    · have hw := hw.2 h3
      refine lv_iconst (v := 0) hx hb dMa_troubleWithLength_17 (by decide) ?_
      refine lv_goto (tgt := 23) hx hb dMa_troubleWithLength_18 (by decide) ?_
      exact W.iret (v := 0) hx hb hr (fun t ht hW => ⟨⟨0, (I2, F2), rfl, hw, by subst ht; exact hP⟩, hS.F ht⟩) hS.2.2 dMa_troubleWithLength_23
  · have hw := hw.2 h1
    refine lv_iconst (v := 5) hx hb dMa_troubleWithLength_4 (by decide) ?_
    exact W.iret (v := 5) hx hb hr (fun t ht hW => ⟨⟨5, (I, F), rfl, hw, by subst ht; exact hP⟩, hS.F ht⟩) hS.2.2 dMa_troubleWithLength_5
def wp_Ma_troubleWithCell (p1 : Int32) (p2 : Int32) (I : SI) (F : SF) (Post : Int32 → SI → SF → Prop) : Prop := ∃ P1 : Int32 → SI → SF → Prop, wp_He_has p1 I F P1 ∧ ∀ r1 I1 F1, P1 r1 I1 F1 → ((¬ r1 = 0 → (∃ P3 : Int32 → SI → SF → Prop, wp_He_hasCell p1 p2 I1 F1 P3 ∧ ∀ r3 I3 F3, P3 r3 I3 F3 → ((r3 = 0 → (Post 4 I3 F3)) ∧ (¬ r3 = 0 → (Post 0 I3 F3))))) ∧ (r1 = 0 → (Post 3 I1 F1)))
set_option maxHeartbeats 4000000 in
set_option maxRecDepth 100000 in
theorem c_Ma_troubleWithCell (l : Launch) (D : va_G) (a : Nat → Nat) (cI cZ cQ : ClassId) (hJ : xJ 47 a) (I : SI) (F : SF) (p1 : Int32) (p2 : Int32) (sz : Nat) (Post : Int32 → SI → SF → Prop) (hw : wp_Ma_troubleWithCell p1 p2 I F Post) : Met l y_Ma_troubleWithCell (Cond.code y_Ma_troubleWithCell b_Ma_troubleWithCell 3 (some .int) :: TB) { frames := 3, cells := 0, slots := 0, locals := 64 } (va_Pc [.ref (a 3), .int p1, .int p2] (cP D a cI cZ cQ I F sz)) (va_Qi (fun r (u : SI × SF) => Post r u.1 u.2) (fun u t => va_P D vwCl (cw a cI cZ cQ u.1 u.2) t.heap) (xA 47 a sz)) 0 0 (xA 47 a sz) := by
  refine Met.ofW (cc := b_Ma_troubleWithCell) (maxL := 3) (ret := (some .int)) (by decide) rfl ?_
  intro p e s m args below meth c s₁ B hml hv
  obtain ⟨rfl, rfl, hP, hK, hN⟩ := hv
  have hx := B.exec
  have hb := B.bytes
  have hr := B.returns
  have hts : ∀ w ∈ TB, w.before _ s = true := fun w h => atoms_spec (ws := Cond.code y_Ma_troubleWithCell b_Ma_troubleWithCell 3 (some .int) :: TB) B.pre w (List.mem_cons_of_mem _ h)
  have hown : s.vm.findClass "CodeJudge$Machine" = some m.cls := findClass_of_methodNamed B.named
  have hlocks := B.notSynchronized
  have hl := lv_entry ([.ref (a 3), .int p1, .int p2]) (n := 3) (Nat.le_of_ble_eq_true rfl)
  rw [lg_entry_eq]
  generalize (lg_sl ([.ref (a 3), .int p1, .int p2]) ++ List.replicate (3 - (lg_sl ([.ref (a 3), .int p1, .int p2])).length) Slot.unset).toArray = ls at hl ⊢
  have hl : lv_has ls 3 [(0, .ref (a 3)), (1, .int p1), (2, .int p2)] := hl
  suffices hM : ∀ (H : Heap) (locs : List Loc), va_P D vwCl (cw a cI cZ cQ I F) H → va_S (xA 47 a s.heap.size) s.heap H locs → W p l e (headSpec (Cond.code y_Ma_troubleWithCell b_Ma_troubleWithCell 3 (some .int) :: TB) { frames := 3, cells := 0, slots := 0, locals := 64 }).room s m ([.ref (a 3), .int p1, .int p2]).toArray below meth c H locs 0 0 (MQ below (va_Qi (fun r (u : SI × SF) => Post r u.1 u.2) (fun u t => va_P D vwCl (cw a cI cZ cQ u.1 u.2) t.heap) (xA 47 a s.heap.size)) ([.ref (a 3), .int p1, .int p2]).toArray s 0 0 (xA 47 a s.heap.size)) (F0 m 0 ls []) from hM s.heap [] hP va_S.rf
  clear hP
  intro H locs hP hS
  dsimp only [wp_Ma_troubleWithCell] at hw
  refine lv_aload_n hx hb dMa_troubleWithCell_0 rfl (lv_at hl 0 rfl) ?_
  refine va_get (D := D) (v := .ref (a 12)) (ci := 3) (C := "CodeJudge$Machine") (T := T_Ma) (N := 7) hx hb hts in_Ma hown hK hP 3 cw_3 rfl 2 (by decide) (hts (.fieldLink "CodeJudge$Machine" 21 "CodeJudge$Machine" "heap" "LCodeJudge$Heap;") tw_1_205) (fun _ h9 => h9) rfl dMa_troubleWithCell_1 ?_
  refine lv_iload_n hx hb dMa_troubleWithCell_4 rfl (lv_at hl 1 rfl) ?_
  obtain ⟨P1, hc1, hw⟩ := hw
  refine cc_i (va_runV (As := [.int p1]) (rest := []) ⟨hx, hb, hml, hown, hts⟩ (c_He_has l D a cI cZ cQ hJ I F p1 H.size P1 hc1) (cwV 1 hts (tb_V (C := "CodeJudge$Heap") wc_He_has tw_3_152 tw_3_153 tw_3_154 tw_1_7) rfl rfl rfl (by decide +kernel) ⟨Nat.le_of_ble_eq_true rfl, Nat.le_of_ble_eq_true rfl⟩) ⟨cP_bl, va_recv hK hP rfl cw_12, cP_at hP hK hN⟩ rfl rfl hl.1 rfl (lv_room (Nat.le_of_ble_eq_true rfl)) dMa_troubleWithCell_5 ⟨Nat.le_of_ble_eq_true rfl, Nat.le_of_ble_eq_true rfl⟩) hS (fun r1 I1 F1 H locs hP hp1 hS => ?_)
  have hw := hw r1 I1 F1 hp1
  refine lv_if_ne (tgt := 13) hx hb dMa_troubleWithCell_8 (by decide) (fun h2 => ?_) (fun h2 => ?_)
  · have hw := hw.1 h2
    refine lv_aload_n hx hb dMa_troubleWithCell_13 rfl (lv_at hl 0 rfl) ?_
    refine va_get (D := D) (v := .ref (a 12)) (ci := 3) (C := "CodeJudge$Machine") (T := T_Ma) (N := 7) hx hb hts in_Ma hown hK hP 3 cw_3 rfl 2 (by decide) (hts (.fieldLink "CodeJudge$Machine" 21 "CodeJudge$Machine" "heap" "LCodeJudge$Heap;") tw_1_205) (fun _ h9 => h9) rfl dMa_troubleWithCell_14 ?_
    refine lv_iload_n hx hb dMa_troubleWithCell_17 rfl (lv_at hl 1 rfl) ?_
    refine lv_iload_n hx hb dMa_troubleWithCell_18 rfl (lv_at hl 2 rfl) ?_
    obtain ⟨P3, hc3, hw⟩ := hw
    refine cc_i (va_runV (As := [.int p1, .int p2]) (rest := []) ⟨hx, hb, hml, hown, hts⟩ (c_He_hasCell l D a cI cZ cQ hJ I1 F1 p1 p2 H.size P3 hc3) (cwV 2 hts (tb_V (C := "CodeJudge$Heap") wc_He_hasCell tw_3_161 tw_3_162 tw_3_163 tw_1_7) rfl rfl rfl (by decide +kernel) ⟨Nat.le_of_ble_eq_true rfl, Nat.le_of_ble_eq_true rfl⟩) ⟨cP_bl, va_recv hK hP rfl cw_12, cP_at hP hK hN⟩ rfl rfl hl.1 rfl (lv_room (Nat.le_of_ble_eq_true rfl)) dMa_troubleWithCell_19 ⟨Nat.le_of_ble_eq_true rfl, Nat.le_of_ble_eq_true rfl⟩) hS (fun r3 I3 F3 H locs hP hp3 hS => ?_)
    have hw := hw r3 I3 F3 hp3
    refine lv_if_eq (tgt := 29) hx hb dMa_troubleWithCell_22 (by decide) (fun h4 => ?_) (fun h4 => ?_)
    · have hw := hw.1 h4
      refine lv_iconst (v := 4) hx hb dMa_troubleWithCell_29 (by decide) ?_
      exact W.iret (v := 4) hx hb hr (fun t ht hW => ⟨⟨4, (I3, F3), rfl, hw, by subst ht; exact hP⟩, hS.F ht⟩) hS.2.2 dMa_troubleWithCell_30
    · have hw := hw.2 h4
      refine lv_iconst (v := 0) hx hb dMa_troubleWithCell_25 (by decide) ?_
      refine lv_goto (tgt := 30) hx hb dMa_troubleWithCell_26 (by decide) ?_
      exact W.iret (v := 0) hx hb hr (fun t ht hW => ⟨⟨0, (I3, F3), rfl, hw, by subst ht; exact hP⟩, hS.F ht⟩) hS.2.2 dMa_troubleWithCell_30
  · have hw := hw.2 h2
    refine lv_iconst (v := 3) hx hb dMa_troubleWithCell_11 (by decide) ?_
    exact W.iret (v := 3) hx hb hr (fun t ht hW => ⟨⟨3, (I1, F1), rfl, hw, by subst ht; exact hP⟩, hS.F ht⟩) hS.2.2 dMa_troubleWithCell_12
def wp_Ma_troubleWith (p1 : Int32) (I : SI) (F : SF) (Post : Int32 → SI → SF → Prop) : Prop := (p1 = 8 → (∃ P2 : Int32 → SI → SF → Prop, wp_Fr_fromTop 0 I F P2 ∧ ∀ r2 I2 F2, P2 r2 I2 F2 → ((¬ r2 = 0 → (Post 0 I2 F2)) ∧ (r2 = 0 → (Post 2 I2 F2))))) ∧ (p1 = 9 → (∃ P4 : Int32 → SI → SF → Prop, wp_Fr_fromTop 0 I F P4 ∧ ∀ r4 I4 F4, P4 r4 I4 F4 → ((¬ r4 = 0 → (Post 0 I4 F4)) ∧ (r4 = 0 → (Post 2 I4 F4))))) ∧ (p1 = 10 → (∃ P6 : Int32 → SI → SF → Prop, wp_Fr_fromTop 0 I F P6 ∧ ∀ r6 I6 F6, P6 r6 I6 F6 → (∃ P7 : Int32 → SI → SF → Prop, wp_Ma_troubleWithLength r6 I6 F6 P7 ∧ ∀ r7 I7 F7, P7 r7 I7 F7 → (Post r7 I7 F7)))) ∧ (p1 = 11 → (∃ P8 : Int32 → SI → SF → Prop, wp_Fr_fromTop 0 I F P8 ∧ ∀ r8 I8 F8, P8 r8 I8 F8 → (∃ P9 : Int32 → SI → SF → Prop, wp_He_has r8 I8 F8 P9 ∧ ∀ r9 I9 F9, P9 r9 I9 F9 → ((r9 = 0 → (Post 3 I9 F9)) ∧ (¬ r9 = 0 → (Post 0 I9 F9)))))) ∧ (p1 = 12 → (∃ P11 : Int32 → SI → SF → Prop, wp_Fr_fromTop 1 I F P11 ∧ ∀ r11 I11 F11, P11 r11 I11 F11 → (∃ P12 : Int32 → SI → SF → Prop, wp_Fr_fromTop 0 I11 F11 P12 ∧ ∀ r12 I12 F12, P12 r12 I12 F12 → (∃ P13 : Int32 → SI → SF → Prop, wp_Ma_troubleWithCell r11 r12 I12 F12 P13 ∧ ∀ r13 I13 F13, P13 r13 I13 F13 → (Post r13 I13 F13))))) ∧ (p1 = 13 → (∃ P14 : Int32 → SI → SF → Prop, wp_Fr_fromTop 2 I F P14 ∧ ∀ r14 I14 F14, P14 r14 I14 F14 → (∃ P15 : Int32 → SI → SF → Prop, wp_Fr_fromTop 1 I14 F14 P15 ∧ ∀ r15 I15 F15, P15 r15 I15 F15 → (∃ P16 : Int32 → SI → SF → Prop, wp_Ma_troubleWithCell r14 r15 I15 F15 P16 ∧ ∀ r16 I16 F16, P16 r16 I16 F16 → (Post r16 I16 F16))))) ∧ (p1 = 23 → (((I 9) < 50 → (Post 0 I F)) ∧ (¬ (I 9) < 50 → (Post 7 I F)))) ∧ ((¬ p1 = 8 ∧ ¬ p1 = 9 ∧ ¬ p1 = 10 ∧ ¬ p1 = 11 ∧ ¬ p1 = 12 ∧ ¬ p1 = 13 ∧ ¬ p1 = 23) → (Post 0 I F))
set_option maxHeartbeats 4000000 in
set_option maxRecDepth 100000 in
theorem c_Ma_troubleWith (l : Launch) (D : va_G) (a : Nat → Nat) (cI cZ cQ : ClassId) (hJ : xJ 47 a) (I : SI) (F : SF) (p1 : Int32) (sz : Nat) (Post : Int32 → SI → SF → Prop) (hw : wp_Ma_troubleWith p1 I F Post) : Met l y_Ma_troubleWith (Cond.code y_Ma_troubleWith b_Ma_troubleWith 2 (some .int) :: TB) { frames := 4, cells := 0, slots := 0, locals := 86 } (va_Pc [.ref (a 3), .int p1] (cP D a cI cZ cQ I F sz)) (va_Qi (fun r (u : SI × SF) => Post r u.1 u.2) (fun u t => va_P D vwCl (cw a cI cZ cQ u.1 u.2) t.heap) (xA 47 a sz)) 0 0 (xA 47 a sz) := by
  refine Met.ofW (cc := b_Ma_troubleWith) (maxL := 2) (ret := (some .int)) (by decide) rfl ?_
  intro p e s m args below meth c s₁ B hml hv
  obtain ⟨rfl, rfl, hP, hK, hN⟩ := hv
  have hx := B.exec
  have hb := B.bytes
  have hr := B.returns
  have hts : ∀ w ∈ TB, w.before _ s = true := fun w h => atoms_spec (ws := Cond.code y_Ma_troubleWith b_Ma_troubleWith 2 (some .int) :: TB) B.pre w (List.mem_cons_of_mem _ h)
  have hown : s.vm.findClass "CodeJudge$Machine" = some m.cls := findClass_of_methodNamed B.named
  have hlocks := B.notSynchronized
  have hl := lv_entry ([.ref (a 3), .int p1]) (n := 2) (Nat.le_of_ble_eq_true rfl)
  rw [lg_entry_eq]
  generalize (lg_sl ([.ref (a 3), .int p1]) ++ List.replicate (2 - (lg_sl ([.ref (a 3), .int p1])).length) Slot.unset).toArray = ls at hl ⊢
  have hl : lv_has ls 2 [(0, .ref (a 3)), (1, .int p1)] := hl
  suffices hM : ∀ (H : Heap) (locs : List Loc), va_P D vwCl (cw a cI cZ cQ I F) H → va_S (xA 47 a s.heap.size) s.heap H locs → W p l e (headSpec (Cond.code y_Ma_troubleWith b_Ma_troubleWith 2 (some .int) :: TB) { frames := 4, cells := 0, slots := 0, locals := 86 }).room s m ([.ref (a 3), .int p1]).toArray below meth c H locs 0 0 (MQ below (va_Qi (fun r (u : SI × SF) => Post r u.1 u.2) (fun u t => va_P D vwCl (cw a cI cZ cQ u.1 u.2) t.heap) (xA 47 a s.heap.size)) ([.ref (a 3), .int p1]).toArray s 0 0 (xA 47 a s.heap.size)) (F0 m 0 ls []) from hM s.heap [] hP va_S.rf
  clear hP
  intro H locs hP hS
  dsimp only [wp_Ma_troubleWith] at hw
  refine lv_iload_n hx hb dMa_troubleWith_0 rfl (lv_at hl 1 rfl) ?_
  refine sw_Ma_troubleWith_1 hx hb (fun h1 => ?_) (fun h1 => ?_) (fun h1 => ?_) (fun h1 => ?_) (fun h1 => ?_) (fun h1 => ?_) (fun h1 => ?_) (fun h1 => ?_)
  · have hw := hw.1 h1
    refine lv_aload_n hx hb dMa_troubleWith_80 rfl (lv_at hl 0 rfl) ?_
    refine va_get (D := D) (v := .ref (a 11)) (ci := 3) (C := "CodeJudge$Machine") (T := T_Ma) (N := 7) hx hb hts in_Ma hown hK hP 3 cw_3 rfl 1 (by decide) (hts (.fieldLink "CodeJudge$Machine" 12 "CodeJudge$Machine" "frames" "LCodeJudge$Frames;") tw_1_203) (fun _ h9 => h9) rfl dMa_troubleWith_81 ?_
    refine lv_iconst (v := 0) hx hb dMa_troubleWith_84 (by decide) ?_
    obtain ⟨P2, hc2, hw⟩ := hw
    refine cc_i (va_runV (As := [.int 0]) (rest := []) ⟨hx, hb, hml, hown, hts⟩ (c_Fr_fromTop l D a cI cZ cQ hJ I F 0 H.size P2 hc2) (cwV 1 hts (tb_V (C := "CodeJudge$Frames") wc_Fr_fromTop tw_3_135 tw_3_136 tw_3_137 tw_1_6) rfl rfl rfl (by decide +kernel) ⟨Nat.le_of_ble_eq_true rfl, Nat.le_of_ble_eq_true rfl⟩) ⟨cP_bl, va_recv hK hP rfl cw_11, cP_at hP hK hN⟩ rfl rfl hl.1 rfl (lv_room (Nat.le_of_ble_eq_true rfl)) dMa_troubleWith_85 ⟨Nat.le_of_ble_eq_true rfl, Nat.le_of_ble_eq_true rfl⟩) hS (fun r2 I2 F2 H locs hP hp2 hS => ?_)
    have hw := hw r2 I2 F2 hp2
    refine lv_if_ne (tgt := 95) hx hb dMa_troubleWith_88 (by decide) (fun h3 => ?_) (fun h3 => ?_)
    · have hw := hw.1 h3
      refine lv_iconst (v := 0) hx hb dMa_troubleWith_95 (by decide) ?_
      exact W.iret (v := 0) hx hb hr (fun t ht hW => ⟨⟨0, (I2, F2), rfl, hw, by subst ht; exact hP⟩, hS.F ht⟩) hS.2.2 dMa_troubleWith_96
    · have hw := hw.2 h3
      refine lv_iconst (v := 2) hx hb dMa_troubleWith_91 (by decide) ?_
      refine lv_goto (tgt := 96) hx hb dMa_troubleWith_92 (by decide) ?_
      exact W.iret (v := 2) hx hb hr (fun t ht hW => ⟨⟨2, (I2, F2), rfl, hw, by subst ht; exact hP⟩, hS.F ht⟩) hS.2.2 dMa_troubleWith_96
  · have hw := hw.2.1 h1
    refine lv_aload_n hx hb dMa_troubleWith_80 rfl (lv_at hl 0 rfl) ?_
    refine va_get (D := D) (v := .ref (a 11)) (ci := 3) (C := "CodeJudge$Machine") (T := T_Ma) (N := 7) hx hb hts in_Ma hown hK hP 3 cw_3 rfl 1 (by decide) (hts (.fieldLink "CodeJudge$Machine" 12 "CodeJudge$Machine" "frames" "LCodeJudge$Frames;") tw_1_203) (fun _ h9 => h9) rfl dMa_troubleWith_81 ?_
    refine lv_iconst (v := 0) hx hb dMa_troubleWith_84 (by decide) ?_
    obtain ⟨P4, hc4, hw⟩ := hw
    refine cc_i (va_runV (As := [.int 0]) (rest := []) ⟨hx, hb, hml, hown, hts⟩ (c_Fr_fromTop l D a cI cZ cQ hJ I F 0 H.size P4 hc4) (cwV 1 hts (tb_V (C := "CodeJudge$Frames") wc_Fr_fromTop tw_3_135 tw_3_136 tw_3_137 tw_1_6) rfl rfl rfl (by decide +kernel) ⟨Nat.le_of_ble_eq_true rfl, Nat.le_of_ble_eq_true rfl⟩) ⟨cP_bl, va_recv hK hP rfl cw_11, cP_at hP hK hN⟩ rfl rfl hl.1 rfl (lv_room (Nat.le_of_ble_eq_true rfl)) dMa_troubleWith_85 ⟨Nat.le_of_ble_eq_true rfl, Nat.le_of_ble_eq_true rfl⟩) hS (fun r4 I4 F4 H locs hP hp4 hS => ?_)
    have hw := hw r4 I4 F4 hp4
    refine lv_if_ne (tgt := 95) hx hb dMa_troubleWith_88 (by decide) (fun h5 => ?_) (fun h5 => ?_)
    · have hw := hw.1 h5
      refine lv_iconst (v := 0) hx hb dMa_troubleWith_95 (by decide) ?_
      exact W.iret (v := 0) hx hb hr (fun t ht hW => ⟨⟨0, (I4, F4), rfl, hw, by subst ht; exact hP⟩, hS.F ht⟩) hS.2.2 dMa_troubleWith_96
    · have hw := hw.2 h5
      refine lv_iconst (v := 2) hx hb dMa_troubleWith_91 (by decide) ?_
      refine lv_goto (tgt := 96) hx hb dMa_troubleWith_92 (by decide) ?_
      exact W.iret (v := 2) hx hb hr (fun t ht hW => ⟨⟨2, (I4, F4), rfl, hw, by subst ht; exact hP⟩, hS.F ht⟩) hS.2.2 dMa_troubleWith_96
  · have hw := hw.2.2.1 h1
    refine lv_aload_n hx hb dMa_troubleWith_97 rfl (lv_at hl 0 rfl) ?_
    refine lv_aload_n hx hb dMa_troubleWith_98 rfl (lv_at hl 0 rfl) ?_
    refine va_get (D := D) (v := .ref (a 11)) (ci := 3) (C := "CodeJudge$Machine") (T := T_Ma) (N := 7) hx hb hts in_Ma hown hK hP 3 cw_3 rfl 1 (by decide) (hts (.fieldLink "CodeJudge$Machine" 12 "CodeJudge$Machine" "frames" "LCodeJudge$Frames;") tw_1_203) (fun _ h9 => h9) rfl dMa_troubleWith_99 ?_
    refine lv_iconst (v := 0) hx hb dMa_troubleWith_102 (by decide) ?_
    obtain ⟨P6, hc6, hw⟩ := hw
    refine cc_i (va_runV (As := [.int 0]) (rest := [.ref (a 3)]) ⟨hx, hb, hml, hown, hts⟩ (c_Fr_fromTop l D a cI cZ cQ hJ I F 0 H.size P6 hc6) (cwV 1 hts (tb_V (C := "CodeJudge$Frames") wc_Fr_fromTop tw_3_135 tw_3_136 tw_3_137 tw_1_6) rfl rfl rfl (by decide +kernel) ⟨Nat.le_of_ble_eq_true rfl, Nat.le_of_ble_eq_true rfl⟩) ⟨cP_bl, va_recv hK hP rfl cw_11, cP_at hP hK hN⟩ rfl rfl hl.1 rfl (lv_room (Nat.le_of_ble_eq_true rfl)) dMa_troubleWith_103 ⟨Nat.le_of_ble_eq_true rfl, Nat.le_of_ble_eq_true rfl⟩) hS (fun r6 I6 F6 H locs hP hp6 hS => ?_)
    have hw := hw r6 I6 F6 hp6
    obtain ⟨P7, hc7, hw⟩ := hw
    refine cc_i (va_runV (As := [.int r6]) (rest := []) ⟨hx, hb, hml, hown, hts⟩ (c_Ma_troubleWithLength l D a cI cZ cQ hJ I6 F6 r6 H.size P7 hc7) (cwV 1 hts (tb_V (C := "CodeJudge$Machine") wc_Ma_troubleWithLength tw_3_147 tw_3_149 tw_0_13 tw_1_5) rfl rfl rfl (by decide +kernel) ⟨Nat.le_of_ble_eq_true rfl, Nat.le_of_ble_eq_true rfl⟩) ⟨cP_bl, va_recv hK hP rfl cw_3, cP_at hP hK hN⟩ rfl rfl hl.1 rfl (lv_room (Nat.le_of_ble_eq_true rfl)) dMa_troubleWith_106 ⟨Nat.le_of_ble_eq_true rfl, Nat.le_of_ble_eq_true rfl⟩) hS (fun r7 I7 F7 H locs hP hp7 hS => ?_)
    have hw := hw r7 I7 F7 hp7
    exact W.iret (v := r7) hx hb hr (fun t ht hW => ⟨⟨r7, (I7, F7), rfl, hw, by subst ht; exact hP⟩, hS.F ht⟩) hS.2.2 dMa_troubleWith_109
  · have hw := hw.2.2.2.1 h1
    refine lv_aload_n hx hb dMa_troubleWith_110 rfl (lv_at hl 0 rfl) ?_
    refine va_get (D := D) (v := .ref (a 12)) (ci := 3) (C := "CodeJudge$Machine") (T := T_Ma) (N := 7) hx hb hts in_Ma hown hK hP 3 cw_3 rfl 2 (by decide) (hts (.fieldLink "CodeJudge$Machine" 21 "CodeJudge$Machine" "heap" "LCodeJudge$Heap;") tw_1_205) (fun _ h9 => h9) rfl dMa_troubleWith_111 ?_
    refine lv_aload_n hx hb dMa_troubleWith_114 rfl (lv_at hl 0 rfl) ?_
    refine va_get (D := D) (v := .ref (a 11)) (ci := 3) (C := "CodeJudge$Machine") (T := T_Ma) (N := 7) hx hb hts in_Ma hown hK hP 3 cw_3 rfl 1 (by decide) (hts (.fieldLink "CodeJudge$Machine" 12 "CodeJudge$Machine" "frames" "LCodeJudge$Frames;") tw_1_203) (fun _ h9 => h9) rfl dMa_troubleWith_115 ?_
    refine lv_iconst (v := 0) hx hb dMa_troubleWith_118 (by decide) ?_
    obtain ⟨P8, hc8, hw⟩ := hw
    refine cc_i (va_runV (As := [.int 0]) (rest := [.ref (a 12)]) ⟨hx, hb, hml, hown, hts⟩ (c_Fr_fromTop l D a cI cZ cQ hJ I F 0 H.size P8 hc8) (cwV 1 hts (tb_V (C := "CodeJudge$Frames") wc_Fr_fromTop tw_3_135 tw_3_136 tw_3_137 tw_1_6) rfl rfl rfl (by decide +kernel) ⟨Nat.le_of_ble_eq_true rfl, Nat.le_of_ble_eq_true rfl⟩) ⟨cP_bl, va_recv hK hP rfl cw_11, cP_at hP hK hN⟩ rfl rfl hl.1 rfl (lv_room (Nat.le_of_ble_eq_true rfl)) dMa_troubleWith_119 ⟨Nat.le_of_ble_eq_true rfl, Nat.le_of_ble_eq_true rfl⟩) hS (fun r8 I8 F8 H locs hP hp8 hS => ?_)
    have hw := hw r8 I8 F8 hp8
    obtain ⟨P9, hc9, hw⟩ := hw
    refine cc_i (va_runV (As := [.int r8]) (rest := []) ⟨hx, hb, hml, hown, hts⟩ (c_He_has l D a cI cZ cQ hJ I8 F8 r8 H.size P9 hc9) (cwV 1 hts (tb_V (C := "CodeJudge$Heap") wc_He_has tw_3_152 tw_3_153 tw_3_154 tw_1_7) rfl rfl rfl (by decide +kernel) ⟨Nat.le_of_ble_eq_true rfl, Nat.le_of_ble_eq_true rfl⟩) ⟨cP_bl, va_recv hK hP rfl cw_12, cP_at hP hK hN⟩ rfl rfl hl.1 rfl (lv_room (Nat.le_of_ble_eq_true rfl)) dMa_troubleWith_122 ⟨Nat.le_of_ble_eq_true rfl, Nat.le_of_ble_eq_true rfl⟩) hS (fun r9 I9 F9 H locs hP hp9 hS => ?_)
    have hw := hw r9 I9 F9 hp9
    refine lv_if_eq (tgt := 132) hx hb dMa_troubleWith_125 (by decide) (fun h10 => ?_) (fun h10 => ?_)
    · have hw := hw.1 h10
      refine lv_iconst (v := 3) hx hb dMa_troubleWith_132 (by decide) ?_
      exact W.iret (v := 3) hx hb hr (fun t ht hW => ⟨⟨3, (I9, F9), rfl, hw, by subst ht; exact hP⟩, hS.F ht⟩) hS.2.2 dMa_troubleWith_133
    · have hw := hw.2 h10
      refine lv_iconst (v := 0) hx hb dMa_troubleWith_128 (by decide) ?_
      refine lv_goto (tgt := 133) hx hb dMa_troubleWith_129 (by decide) ?_
      exact W.iret (v := 0) hx hb hr (fun t ht hW => ⟨⟨0, (I9, F9), rfl, hw, by subst ht; exact hP⟩, hS.F ht⟩) hS.2.2 dMa_troubleWith_133
  · have hw := hw.2.2.2.2.1 h1
    refine lv_aload_n hx hb dMa_troubleWith_134 rfl (lv_at hl 0 rfl) ?_
    refine lv_aload_n hx hb dMa_troubleWith_135 rfl (lv_at hl 0 rfl) ?_
    refine va_get (D := D) (v := .ref (a 11)) (ci := 3) (C := "CodeJudge$Machine") (T := T_Ma) (N := 7) hx hb hts in_Ma hown hK hP 3 cw_3 rfl 1 (by decide) (hts (.fieldLink "CodeJudge$Machine" 12 "CodeJudge$Machine" "frames" "LCodeJudge$Frames;") tw_1_203) (fun _ h9 => h9) rfl dMa_troubleWith_136 ?_
    refine lv_iconst (v := 1) hx hb dMa_troubleWith_139 (by decide) ?_
    obtain ⟨P11, hc11, hw⟩ := hw
    refine cc_i (va_runV (As := [.int 1]) (rest := [.ref (a 3)]) ⟨hx, hb, hml, hown, hts⟩ (c_Fr_fromTop l D a cI cZ cQ hJ I F 1 H.size P11 hc11) (cwV 1 hts (tb_V (C := "CodeJudge$Frames") wc_Fr_fromTop tw_3_135 tw_3_136 tw_3_137 tw_1_6) rfl rfl rfl (by decide +kernel) ⟨Nat.le_of_ble_eq_true rfl, Nat.le_of_ble_eq_true rfl⟩) ⟨cP_bl, va_recv hK hP rfl cw_11, cP_at hP hK hN⟩ rfl rfl hl.1 rfl (lv_room (Nat.le_of_ble_eq_true rfl)) dMa_troubleWith_140 ⟨Nat.le_of_ble_eq_true rfl, Nat.le_of_ble_eq_true rfl⟩) hS (fun r11 I11 F11 H locs hP hp11 hS => ?_)
    have hw := hw r11 I11 F11 hp11
    refine lv_aload_n hx hb dMa_troubleWith_143 rfl (lv_at hl 0 rfl) ?_
    refine va_get (D := D) (v := .ref (a 11)) (ci := 3) (C := "CodeJudge$Machine") (T := T_Ma) (N := 7) hx hb hts in_Ma hown hK hP 3 cw_3 rfl 1 (by decide) (hts (.fieldLink "CodeJudge$Machine" 12 "CodeJudge$Machine" "frames" "LCodeJudge$Frames;") tw_1_203) (fun _ h9 => h9) rfl dMa_troubleWith_144 ?_
    refine lv_iconst (v := 0) hx hb dMa_troubleWith_147 (by decide) ?_
    obtain ⟨P12, hc12, hw⟩ := hw
    refine cc_i (va_runV (As := [.int 0]) (rest := [.int r11, .ref (a 3)]) ⟨hx, hb, hml, hown, hts⟩ (c_Fr_fromTop l D a cI cZ cQ hJ I11 F11 0 H.size P12 hc12) (cwV 1 hts (tb_V (C := "CodeJudge$Frames") wc_Fr_fromTop tw_3_135 tw_3_136 tw_3_137 tw_1_6) rfl rfl rfl (by decide +kernel) ⟨Nat.le_of_ble_eq_true rfl, Nat.le_of_ble_eq_true rfl⟩) ⟨cP_bl, va_recv hK hP rfl cw_11, cP_at hP hK hN⟩ rfl rfl hl.1 rfl (lv_room (Nat.le_of_ble_eq_true rfl)) dMa_troubleWith_148 ⟨Nat.le_of_ble_eq_true rfl, Nat.le_of_ble_eq_true rfl⟩) hS (fun r12 I12 F12 H locs hP hp12 hS => ?_)
    have hw := hw r12 I12 F12 hp12
    obtain ⟨P13, hc13, hw⟩ := hw
    refine cc_i (va_runV (As := [.int r11, .int r12]) (rest := []) ⟨hx, hb, hml, hown, hts⟩ (c_Ma_troubleWithCell l D a cI cZ cQ hJ I12 F12 r11 r12 H.size P13 hc13) (cwV 2 hts (tb_V (C := "CodeJudge$Machine") wc_Ma_troubleWithCell tw_3_157 tw_3_159 tw_0_14 tw_1_5) rfl rfl rfl (by decide +kernel) ⟨Nat.le_of_ble_eq_true rfl, Nat.le_of_ble_eq_true rfl⟩) ⟨cP_bl, va_recv hK hP rfl cw_3, cP_at hP hK hN⟩ rfl rfl hl.1 rfl (lv_room (Nat.le_of_ble_eq_true rfl)) dMa_troubleWith_151 ⟨Nat.le_of_ble_eq_true rfl, Nat.le_of_ble_eq_true rfl⟩) hS (fun r13 I13 F13 H locs hP hp13 hS => ?_)
    have hw := hw r13 I13 F13 hp13
    exact W.iret (v := r13) hx hb hr (fun t ht hW => ⟨⟨r13, (I13, F13), rfl, hw, by subst ht; exact hP⟩, hS.F ht⟩) hS.2.2 dMa_troubleWith_154
  · have hw := hw.2.2.2.2.2.1 h1
    refine lv_aload_n hx hb dMa_troubleWith_155 rfl (lv_at hl 0 rfl) ?_
    refine lv_aload_n hx hb dMa_troubleWith_156 rfl (lv_at hl 0 rfl) ?_
    refine va_get (D := D) (v := .ref (a 11)) (ci := 3) (C := "CodeJudge$Machine") (T := T_Ma) (N := 7) hx hb hts in_Ma hown hK hP 3 cw_3 rfl 1 (by decide) (hts (.fieldLink "CodeJudge$Machine" 12 "CodeJudge$Machine" "frames" "LCodeJudge$Frames;") tw_1_203) (fun _ h9 => h9) rfl dMa_troubleWith_157 ?_
    refine lv_iconst (v := 2) hx hb dMa_troubleWith_160 (by decide) ?_
    obtain ⟨P14, hc14, hw⟩ := hw
    refine cc_i (va_runV (As := [.int 2]) (rest := [.ref (a 3)]) ⟨hx, hb, hml, hown, hts⟩ (c_Fr_fromTop l D a cI cZ cQ hJ I F 2 H.size P14 hc14) (cwV 1 hts (tb_V (C := "CodeJudge$Frames") wc_Fr_fromTop tw_3_135 tw_3_136 tw_3_137 tw_1_6) rfl rfl rfl (by decide +kernel) ⟨Nat.le_of_ble_eq_true rfl, Nat.le_of_ble_eq_true rfl⟩) ⟨cP_bl, va_recv hK hP rfl cw_11, cP_at hP hK hN⟩ rfl rfl hl.1 rfl (lv_room (Nat.le_of_ble_eq_true rfl)) dMa_troubleWith_161 ⟨Nat.le_of_ble_eq_true rfl, Nat.le_of_ble_eq_true rfl⟩) hS (fun r14 I14 F14 H locs hP hp14 hS => ?_)
    have hw := hw r14 I14 F14 hp14
    refine lv_aload_n hx hb dMa_troubleWith_164 rfl (lv_at hl 0 rfl) ?_
    refine va_get (D := D) (v := .ref (a 11)) (ci := 3) (C := "CodeJudge$Machine") (T := T_Ma) (N := 7) hx hb hts in_Ma hown hK hP 3 cw_3 rfl 1 (by decide) (hts (.fieldLink "CodeJudge$Machine" 12 "CodeJudge$Machine" "frames" "LCodeJudge$Frames;") tw_1_203) (fun _ h9 => h9) rfl dMa_troubleWith_165 ?_
    refine lv_iconst (v := 1) hx hb dMa_troubleWith_168 (by decide) ?_
    obtain ⟨P15, hc15, hw⟩ := hw
    refine cc_i (va_runV (As := [.int 1]) (rest := [.int r14, .ref (a 3)]) ⟨hx, hb, hml, hown, hts⟩ (c_Fr_fromTop l D a cI cZ cQ hJ I14 F14 1 H.size P15 hc15) (cwV 1 hts (tb_V (C := "CodeJudge$Frames") wc_Fr_fromTop tw_3_135 tw_3_136 tw_3_137 tw_1_6) rfl rfl rfl (by decide +kernel) ⟨Nat.le_of_ble_eq_true rfl, Nat.le_of_ble_eq_true rfl⟩) ⟨cP_bl, va_recv hK hP rfl cw_11, cP_at hP hK hN⟩ rfl rfl hl.1 rfl (lv_room (Nat.le_of_ble_eq_true rfl)) dMa_troubleWith_169 ⟨Nat.le_of_ble_eq_true rfl, Nat.le_of_ble_eq_true rfl⟩) hS (fun r15 I15 F15 H locs hP hp15 hS => ?_)
    have hw := hw r15 I15 F15 hp15
    obtain ⟨P16, hc16, hw⟩ := hw
    refine cc_i (va_runV (As := [.int r14, .int r15]) (rest := []) ⟨hx, hb, hml, hown, hts⟩ (c_Ma_troubleWithCell l D a cI cZ cQ hJ I15 F15 r14 r15 H.size P16 hc16) (cwV 2 hts (tb_V (C := "CodeJudge$Machine") wc_Ma_troubleWithCell tw_3_157 tw_3_159 tw_0_14 tw_1_5) rfl rfl rfl (by decide +kernel) ⟨Nat.le_of_ble_eq_true rfl, Nat.le_of_ble_eq_true rfl⟩) ⟨cP_bl, va_recv hK hP rfl cw_3, cP_at hP hK hN⟩ rfl rfl hl.1 rfl (lv_room (Nat.le_of_ble_eq_true rfl)) dMa_troubleWith_172 ⟨Nat.le_of_ble_eq_true rfl, Nat.le_of_ble_eq_true rfl⟩) hS (fun r16 I16 F16 H locs hP hp16 hS => ?_)
    have hw := hw r16 I16 F16 hp16
    exact W.iret (v := r16) hx hb hr (fun t ht hW => ⟨⟨r16, (I16, F16), rfl, hw, by subst ht; exact hP⟩, hS.F ht⟩) hS.2.2 dMa_troubleWith_175
  · have hw := hw.2.2.2.2.2.2.1 h1
    refine lv_aload_n hx hb dMa_troubleWith_176 rfl (lv_at hl 0 rfl) ?_
    refine va_get (D := D) (v := .ref (a 11)) (ci := 3) (C := "CodeJudge$Machine") (T := T_Ma) (N := 7) hx hb hts in_Ma hown hK hP 3 cw_3 rfl 1 (by decide) (hts (.fieldLink "CodeJudge$Machine" 12 "CodeJudge$Machine" "frames" "LCodeJudge$Frames;") tw_1_203) (fun _ h9 => h9) rfl dMa_troubleWith_177 ?_
    refine va_get (D := D) (v := .int (I 9)) (ci := 0) (C := "CodeJudge$Frames") (T := T_Fr) (N := 6) hx hb hts in_Fr hown hK hP 11 cw_11 rfl 0 (by decide) (hts (.fieldLink "CodeJudge$Machine" 50 "CodeJudge$Frames" "open" "I") tw_1_143) (fun _ h9 => h9) rfl dMa_troubleWith_180 ?_
    refine lv_bipush (v := 50) hx hb dMa_troubleWith_183 (by decide) ?_
    refine lv_icmp_lt (tgt := 193) hx hb dMa_troubleWith_185 (by decide) (fun h17 => ?_) (fun h17 => ?_)
    · have hw := hw.1 h17
      refine lv_iconst (v := 0) hx hb dMa_troubleWith_193 (by decide) ?_
      exact W.iret (v := 0) hx hb hr (fun t ht hW => ⟨⟨0, (I, F), rfl, hw, by subst ht; exact hP⟩, hS.F ht⟩) hS.2.2 dMa_troubleWith_194
    · have hw := hw.2 h17
      refine lv_bipush (v := 7) hx hb dMa_troubleWith_188 (by decide) ?_
      refine lv_goto (tgt := 194) hx hb dMa_troubleWith_190 (by decide) ?_
      exact W.iret (v := 7) hx hb hr (fun t ht hW => ⟨⟨7, (I, F), rfl, hw, by subst ht; exact hP⟩, hS.F ht⟩) hS.2.2 dMa_troubleWith_194
  · have hw := hw.2.2.2.2.2.2.2 h1
    refine lv_iconst (v := 0) hx hb dMa_troubleWith_195 (by decide) ?_
    exact W.iret (v := 0) hx hb hr (fun t ht hW => ⟨⟨0, (I, F), rfl, hw, by subst ht; exact hP⟩, hS.F ht⟩) hS.2.2 dMa_troubleWith_196
def wp_Ma_giveBack_15 (Post : SI → SF → Prop) (x1 : Int32) (s0 : Int32) (I : SI) (F : SF) : Prop := ∃ P3 : SI → SF → Prop, wp_Fr_leave I F P3 ∧ ∀ I3 F3, P3 I3 F3 → ((¬ (I3 9) = 0 → ((x1 = 0 → (Post I3 F3)) ∧ (¬ x1 = 0 → (∃ P6 : SI → SF → Prop, wp_Fr_push s0 I3 F3 P6 ∧ ∀ I6 F6, P6 I6 F6 → (Post I6 F6))))) ∧ ((I3 9) = 0 → (Post (va_up (va_up I3 2 1) 4 s0) F3)))
def wp_Ma_giveBack (p1 : Int32) (I : SI) (F : SF) (Post : SI → SF → Prop) : Prop := (¬ p1 = 0 → (∃ P2 : Int32 → SI → SF → Prop, wp_Fr_pop I F P2 ∧ ∀ r2 I2 F2, P2 r2 I2 F2 → (wp_Ma_giveBack_15 Post p1 r2 I2 F2))) ∧ (p1 = 0 → (wp_Ma_giveBack_15 Post p1 0 I F))
set_option maxHeartbeats 4000000 in
set_option maxRecDepth 100000 in
theorem c_Ma_giveBack (l : Launch) (D : va_G) (a : Nat → Nat) (cI cZ cQ : ClassId) (hJ : xJ 47 a) (I : SI) (F : SF) (p1 : Int32) (sz : Nat) (Post : SI → SF → Prop) (hw : wp_Ma_giveBack p1 I F Post) : Met l y_Ma_giveBack (Cond.code y_Ma_giveBack b_Ma_giveBack 3 none :: TB) { frames := 2, cells := 0, slots := 0, locals := 42 } (va_Pc [.ref (a 3), .int p1] (cP D a cI cZ cQ I F sz)) (va_Qv (fun (u : SI × SF) => Post u.1 u.2) (fun u t => va_P D vwCl (cw a cI cZ cQ u.1 u.2) t.heap) (xA 47 a sz)) 0 0 (xA 47 a sz) := by
  refine Met.ofW (cc := b_Ma_giveBack) (maxL := 3) (ret := none) (by decide) rfl ?_
  intro p e s m args below meth c s₁ B hml hv
  obtain ⟨rfl, rfl, hP, hK, hN⟩ := hv
  have hx := B.exec
  have hb := B.bytes
  have hr := B.returns
  have hts : ∀ w ∈ TB, w.before _ s = true := fun w h => atoms_spec (ws := Cond.code y_Ma_giveBack b_Ma_giveBack 3 none :: TB) B.pre w (List.mem_cons_of_mem _ h)
  have hown : s.vm.findClass "CodeJudge$Machine" = some m.cls := findClass_of_methodNamed B.named
  have hlocks := B.notSynchronized
  have hl := lv_entry ([.ref (a 3), .int p1]) (n := 3) (Nat.le_of_ble_eq_true rfl)
  rw [lg_entry_eq]
  generalize (lg_sl ([.ref (a 3), .int p1]) ++ List.replicate (3 - (lg_sl ([.ref (a 3), .int p1])).length) Slot.unset).toArray = ls at hl ⊢
  have hl : lv_has ls 3 [(0, .ref (a 3)), (1, .int p1)] := hl
  obtain ⟨Q, hQ⟩ : ∃ Q, Q = MQ below (va_Qv (fun (u : SI × SF) => Post u.1 u.2) (fun u t => va_P D vwCl (cw a cI cZ cQ u.1 u.2) t.heap) (xA 47 a s.heap.size)) ([.ref (a 3), .int p1]).toArray s 0 0 (xA 47 a s.heap.size) := ⟨_, rfl⟩
  rw [← hQ]
  have J15 : ∀ (x1 : Int32) (s0 : Int32) (I : SI) (F : SF) (H : Heap) (locs : List Loc) (ls : Array Slot), lv_has ls 3 [(0, .ref (a 3)), (1, .int x1)] → va_P D vwCl (cw a cI cZ cQ I F) H → va_S (xA 47 a s.heap.size) s.heap H locs → wp_Ma_giveBack_15 Post x1 s0 I F → W p l e (headSpec (Cond.code y_Ma_giveBack b_Ma_giveBack 3 none :: TB) { frames := 2, cells := 0, slots := 0, locals := 42 }).room s m ([.ref (a 3), .int p1]).toArray below meth c H locs 0 0 Q (F0 m 15 ls [.int s0]) := by
    intro x1 s0 I F H locs ls hl hP hS hw
    dsimp only [wp_Ma_giveBack_15] at hw
    refine lv_istore_n (lv' := [(2, .int s0), (0, .ref (a 3)), (1, .int x1)]) hx hb dMa_giveBack_15 rfl hl (by decide) rfl (fun ls hl => ?_)
    refine lv_aload_n hx hb dMa_giveBack_16 rfl (lv_at hl 1 rfl) ?_
    refine va_get (D := D) (v := .ref (a 11)) (ci := 3) (C := "CodeJudge$Machine") (T := T_Ma) (N := 7) hx hb hts in_Ma hown hK hP 3 cw_3 rfl 1 (by decide) (hts (.fieldLink "CodeJudge$Machine" 12 "CodeJudge$Machine" "frames" "LCodeJudge$Frames;") tw_1_203) (fun _ h9 => h9) rfl dMa_giveBack_17 ?_
    obtain ⟨P3, hc3, hw⟩ := hw
    refine cc_v (va_runV (As := []) (rest := []) ⟨hx, hb, hml, hown, hts⟩ (c_Fr_leave l D a cI cZ cQ hJ I F H.size P3 hc3) (cwV 0 hts (tb_V (C := "CodeJudge$Frames") wc_Fr_leave tw_3_178 tw_3_179 tw_3_180 tw_1_6) rfl rfl rfl (by decide +kernel) ⟨Nat.le_of_ble_eq_true rfl, Nat.le_of_ble_eq_true rfl⟩) ⟨cP_bl, va_recv hK hP rfl cw_11, cP_at hP hK hN⟩ rfl rfl hl.1 rfl (lv_room (Nat.le_of_ble_eq_true rfl)) dMa_giveBack_20 ⟨Nat.le_of_ble_eq_true rfl, Nat.le_of_ble_eq_true rfl⟩) hS (fun I3 F3 H locs hP hp3 hS => ?_)
    have hw := hw I3 F3 hp3
    refine lv_aload_n hx hb dMa_giveBack_23 rfl (lv_at hl 1 rfl) ?_
    refine va_get (D := D) (v := .ref (a 11)) (ci := 3) (C := "CodeJudge$Machine") (T := T_Ma) (N := 7) hx hb hts in_Ma hown hK hP 3 cw_3 rfl 1 (by decide) (hts (.fieldLink "CodeJudge$Machine" 12 "CodeJudge$Machine" "frames" "LCodeJudge$Frames;") tw_1_203) (fun _ h9 => h9) rfl dMa_giveBack_24 ?_
    refine va_get (D := D) (v := .int (I3 9)) (ci := 0) (C := "CodeJudge$Frames") (T := T_Fr) (N := 6) hx hb hts in_Fr hown hK hP 11 cw_11 rfl 0 (by decide) (hts (.fieldLink "CodeJudge$Machine" 50 "CodeJudge$Frames" "open" "I") tw_1_143) (fun _ h9 => h9) rfl dMa_giveBack_27 ?_
    refine lv_if_ne (tgt := 46) hx hb dMa_giveBack_30 (by decide) (fun h4 => ?_) (fun h4 => ?_)
    · have hw := hw.1 h4
      refine lv_iload_n hx hb dMa_giveBack_46 rfl (lv_at hl 2 rfl) ?_
      refine lv_if_eq (tgt := 58) hx hb dMa_giveBack_47 (by decide) (fun h5 => ?_) (fun h5 => ?_)
      · have hw := hw.1 h5
        rw [hQ]
        exact W.vret hx hb hr (fun t ht hW => ⟨⟨(I3, F3), rfl, hw, by subst ht; exact hP⟩, hS.F ht⟩) hS.2.2 dMa_giveBack_58
      · have hw := hw.2 h5
        refine lv_aload_n hx hb dMa_giveBack_50 rfl (lv_at hl 1 rfl) ?_
        refine va_get (D := D) (v := .ref (a 11)) (ci := 3) (C := "CodeJudge$Machine") (T := T_Ma) (N := 7) hx hb hts in_Ma hown hK hP 3 cw_3 rfl 1 (by decide) (hts (.fieldLink "CodeJudge$Machine" 12 "CodeJudge$Machine" "frames" "LCodeJudge$Frames;") tw_1_203) (fun _ h9 => h9) rfl dMa_giveBack_51 ?_
        refine lv_iload_n hx hb dMa_giveBack_54 rfl (lv_at hl 0 rfl) ?_
        obtain ⟨P6, hc6, hw⟩ := hw
        refine cc_v (va_runV (As := [.int s0]) (rest := []) ⟨hx, hb, hml, hown, hts⟩ (c_Fr_push l D a cI cZ cQ hJ I3 F3 s0 H.size P6 hc6) (cwV 1 hts (tb_V (C := "CodeJudge$Frames") wc_Fr_push tw_3_182 tw_3_183 tw_3_184 tw_1_6) rfl rfl rfl (by decide +kernel) ⟨Nat.le_of_ble_eq_true rfl, Nat.le_of_ble_eq_true rfl⟩) ⟨cP_bl, va_recv hK hP rfl cw_11, cP_at hP hK hN⟩ rfl rfl hl.1 rfl (lv_room (Nat.le_of_ble_eq_true rfl)) dMa_giveBack_55 ⟨Nat.le_of_ble_eq_true rfl, Nat.le_of_ble_eq_true rfl⟩) hS (fun I6 F6 H locs hP hp6 hS => ?_)
        have hw := hw I6 F6 hp6
        rw [hQ]
        exact W.vret hx hb hr (fun t ht hW => ⟨⟨(I6, F6), rfl, hw, by subst ht; exact hP⟩, hS.F ht⟩) hS.2.2 dMa_giveBack_58
    · have hw := hw.2 h4
      refine lv_aload_n hx hb dMa_giveBack_33 rfl (lv_at hl 1 rfl) ?_
      refine lv_iconst (v := 1) hx hb dMa_giveBack_34 (by decide) ?_
      refine va_put (D := D) (ci := 3) (v := .int 1) (ty := .int) (C := "CodeJudge$Machine") (T := T_Ma) (N := 7) hx hb hts in_Ma ty_Ma ok_Ma nm_Ma hown hK hP (cD hJ) hS 3 cw_3 rfl 4 (by decide) (hts (.fieldLink "CodeJudge$Machine" 36 "CodeJudge$Machine" "outcome" "I") tw_1_209) (fun _ h9 => h9) rfl (by decide +kernel) rfl rfl (Nat.le_of_ble_eq_true rfl) dMa_giveBack_35 (fun H locs hP _ hS => ?_)
      have hP := cwp_2 hP
      refine lv_aload_n hx hb dMa_giveBack_38 rfl (lv_at hl 1 rfl) ?_
      refine lv_iload_n hx hb dMa_giveBack_39 rfl (lv_at hl 0 rfl) ?_
      refine va_put (D := D) (ci := 3) (v := .int s0) (ty := .int) (C := "CodeJudge$Machine") (T := T_Ma) (N := 7) hx hb hts in_Ma ty_Ma ok_Ma nm_Ma hown hK hP (cD hJ) hS 3 cw_3 rfl 6 (by decide) (hts (.fieldLink "CodeJudge$Machine" 43 "CodeJudge$Machine" "returned" "I") tw_1_211) (fun _ h9 => h9) rfl (by decide +kernel) rfl rfl (Nat.le_of_ble_eq_true rfl) dMa_giveBack_40 (fun H locs hP _ hS => ?_)
      have hP := cwp_4 hP
      refine lv_goto (tgt := 58) hx hb dMa_giveBack_43 (by decide) ?_
      rw [hQ]
      exact W.vret hx hb hr (fun t ht hW => ⟨⟨((va_up (va_up I3 2 1) 4 s0), F3), rfl, hw, by subst ht; exact hP⟩, hS.F ht⟩) hS.2.2 dMa_giveBack_58
  suffices hM : ∀ (H : Heap) (locs : List Loc), va_P D vwCl (cw a cI cZ cQ I F) H → va_S (xA 47 a s.heap.size) s.heap H locs → W p l e (headSpec (Cond.code y_Ma_giveBack b_Ma_giveBack 3 none :: TB) { frames := 2, cells := 0, slots := 0, locals := 42 }).room s m ([.ref (a 3), .int p1]).toArray below meth c H locs 0 0 (Q) (F0 m 0 ls []) from hM s.heap [] hP va_S.rf
  clear hP
  intro H locs hP hS
  dsimp only [wp_Ma_giveBack] at hw
  refine lv_iload_n hx hb dMa_giveBack_0 rfl (lv_at hl 1 rfl) ?_
  refine lv_if_ne (tgt := 8) hx hb dMa_giveBack_1 (by decide) (fun h1 => ?_) (fun h1 => ?_)
  · have hw := hw.1 h1
    refine lv_aload_n hx hb dMa_giveBack_8 rfl (lv_at hl 0 rfl) ?_
    refine va_get (D := D) (v := .ref (a 11)) (ci := 3) (C := "CodeJudge$Machine") (T := T_Ma) (N := 7) hx hb hts in_Ma hown hK hP 3 cw_3 rfl 1 (by decide) (hts (.fieldLink "CodeJudge$Machine" 12 "CodeJudge$Machine" "frames" "LCodeJudge$Frames;") tw_1_203) (fun _ h9 => h9) rfl dMa_giveBack_9 ?_
    obtain ⟨P2, hc2, hw⟩ := hw
    refine cc_i (va_runV (As := []) (rest := []) ⟨hx, hb, hml, hown, hts⟩ (c_Fr_pop l D a cI cZ cQ hJ I F H.size P2 hc2) (cwV 0 hts (tb_V (C := "CodeJudge$Frames") wc_Fr_pop tw_3_174 tw_3_175 tw_3_176 tw_1_6) rfl rfl rfl (by decide +kernel) ⟨Nat.le_of_ble_eq_true rfl, Nat.le_of_ble_eq_true rfl⟩) ⟨cP_bl, va_recv hK hP rfl cw_11, cP_at hP hK hN⟩ rfl rfl hl.1 rfl (lv_room (Nat.le_of_ble_eq_true rfl)) dMa_giveBack_12 ⟨Nat.le_of_ble_eq_true rfl, Nat.le_of_ble_eq_true rfl⟩) hS (fun r2 I2 F2 H locs hP hp2 hS => ?_)
    have hw := hw r2 I2 F2 hp2
    exact J15 p1 r2 I2 F2 H locs ls (lv_sub hl [0, 1] rfl) hP hS hw
  · have hw := hw.2 h1
    refine lv_iconst (v := 0) hx hb dMa_giveBack_4 (by decide) ?_
    refine lv_goto (tgt := 15) hx hb dMa_giveBack_5 (by decide) ?_
    exact J15 p1 0 I F H locs ls (lv_sub hl [0, 1] rfl) hP hS hw
